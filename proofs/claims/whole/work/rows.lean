section
-- ===== PART A: goes FIRST, ahead of the names: the tables' words, and 'selects' of the private methods out of them =====
/-- a private method of a class that the tables say can be made, by its rows of tables_1 -/
def lw_okq (q : MethodName × Nat) : Prop := (q.1.cls ≠ "java/lang/invoke/MethodHandle" ∧ q.1.cls ≠ "java/lang/invoke/VarHandle") ∧ Cond.instantiable q.1.cls q.2 ∈ tables_1 ∧ Cond.privateMethod q.1 ∈ tables_1 ∧ Cond.instanceMethod q.1 ∈ tables_1
theorem lw_p0 : lw_okq (⟨"GuideBook$Facts", "add", "(III)I"⟩, 10) := ⟨⟨by decide +kernel, by decide +kernel⟩, List.mem_of_getElem? (i := 33) (by decide +kernel), List.mem_of_getElem? (i := 319) (by decide +kernel), List.mem_of_getElem? (i := 320) (by decide +kernel)⟩
theorem lw_p1 : lw_okq (⟨"GuideBook$Facts", "has", "(I)Z"⟩, 10) := ⟨⟨by decide +kernel, by decide +kernel⟩, List.mem_of_getElem? (i := 33) (by decide +kernel), List.mem_of_getElem? (i := 327) (by decide +kernel), List.mem_of_getElem? (i := 328) (by decide +kernel)⟩
theorem lw_p2 : lw_okq (⟨"GuideBook$Letters", "settle", "(II)V"⟩, 8) := ⟨⟨by decide +kernel, by decide +kernel⟩, List.mem_of_getElem? (i := 79) (by decide +kernel), List.mem_of_getElem? (i := 335) (by decide +kernel), List.mem_of_getElem? (i := 336) (by decide +kernel)⟩
theorem lw_p3 : lw_okq (⟨"GuideBook$Letters", "isOpenOn", "(II)Z"⟩, 8) := ⟨⟨by decide +kernel, by decide +kernel⟩, List.mem_of_getElem? (i := 79) (by decide +kernel), List.mem_of_getElem? (i := 339) (by decide +kernel), List.mem_of_getElem? (i := 340) (by decide +kernel)⟩
theorem lw_p4 : lw_okq (⟨"GuideBook$Letters", "close", "(IZ)V"⟩, 8) := ⟨⟨by decide +kernel, by decide +kernel⟩, List.mem_of_getElem? (i := 79) (by decide +kernel), List.mem_of_getElem? (i := 343) (by decide +kernel), List.mem_of_getElem? (i := 344) (by decide +kernel)⟩
theorem lw_p5 : lw_okq (⟨"GuideBook$Editions", "settle", "(II)V"⟩, 5) := ⟨⟨by decide +kernel, by decide +kernel⟩, List.mem_of_getElem? (i := 218) (by decide +kernel), List.mem_of_getElem? (i := 347) (by decide +kernel), List.mem_of_getElem? (i := 348) (by decide +kernel)⟩
theorem lw_p6 : lw_okq (⟨"GuideBook$Editions", "hasFact", "(II)Z"⟩, 5) := ⟨⟨by decide +kernel, by decide +kernel⟩, List.mem_of_getElem? (i := 218) (by decide +kernel), List.mem_of_getElem? (i := 351) (by decide +kernel), List.mem_of_getElem? (i := 352) (by decide +kernel)⟩
theorem lw_p7 : lw_okq (⟨"GuideBook$Facts", "renew", "(II)Z"⟩, 10) := ⟨⟨by decide +kernel, by decide +kernel⟩, List.mem_of_getElem? (i := 33) (by decide +kernel), List.mem_of_getElem? (i := 355) (by decide +kernel), List.mem_of_getElem? (i := 356) (by decide +kernel)⟩
theorem lw_p8 : lw_okq (⟨"GuideBook$Facts", "rateOf", "(I)I"⟩, 10) := ⟨⟨by decide +kernel, by decide +kernel⟩, List.mem_of_getElem? (i := 33) (by decide +kernel), List.mem_of_getElem? (i := 363) (by decide +kernel), List.mem_of_getElem? (i := 364) (by decide +kernel)⟩
theorem lw_p9 : lw_okq (⟨"GuideBook$Facts", "chanceOf", "(I)I"⟩, 10) := ⟨⟨by decide +kernel, by decide +kernel⟩, List.mem_of_getElem? (i := 33) (by decide +kernel), List.mem_of_getElem? (i := 372) (by decide +kernel), List.mem_of_getElem? (i := 373) (by decide +kernel)⟩
theorem lw_p10 : lw_okq (⟨"GuideBook", "placesFor", "(I)J"⟩, 11) := ⟨⟨by decide +kernel, by decide +kernel⟩, List.mem_of_getElem? (i := 25) (by decide +kernel), List.mem_of_getElem? (i := 385) (by decide +kernel), List.mem_of_getElem? (i := 386) (by decide +kernel)⟩
theorem lw_p11 : lw_okq (⟨"GuideBook$Bag", "open", "(I)V"⟩, 3) := ⟨⟨by decide +kernel, by decide +kernel⟩, List.mem_of_getElem? (i := 246) (by decide +kernel), List.mem_of_getElem? (i := 389) (by decide +kernel), List.mem_of_getElem? (i := 390) (by decide +kernel)⟩
theorem lw_p12 : lw_okq (⟨"GuideBook$Facts", "doubtOf", "(I)I"⟩, 10) := ⟨⟨by decide +kernel, by decide +kernel⟩, List.mem_of_getElem? (i := 33) (by decide +kernel), List.mem_of_getElem? (i := 396) (by decide +kernel), List.mem_of_getElem? (i := 397) (by decide +kernel)⟩
theorem lw_p13 : lw_okq (⟨"GuideBook$Bag", "offer", "(IIIZ)V"⟩, 3) := ⟨⟨by decide +kernel, by decide +kernel⟩, List.mem_of_getElem? (i := 246) (by decide +kernel), List.mem_of_getElem? (i := 402) (by decide +kernel), List.mem_of_getElem? (i := 403) (by decide +kernel)⟩
theorem lw_p14 : lw_okq (⟨"GuideBook$Bag", "picked", "()J"⟩, 3) := ⟨⟨by decide +kernel, by decide +kernel⟩, List.mem_of_getElem? (i := 246) (by decide +kernel), List.mem_of_getElem? (i := 407) (by decide +kernel), List.mem_of_getElem? (i := 408) (by decide +kernel)⟩
theorem lw_p15 : lw_okq (⟨"GuideBook", "doubtOfSet", "(J)I"⟩, 11) := ⟨⟨by decide +kernel, by decide +kernel⟩, List.mem_of_getElem? (i := 25) (by decide +kernel), List.mem_of_getElem? (i := 411) (by decide +kernel), List.mem_of_getElem? (i := 412) (by decide +kernel)⟩
def lw_privs_1 : List (MethodName × Nat) := [(⟨"GuideBook$Facts", "add", "(III)I"⟩, 10), (⟨"GuideBook$Facts", "has", "(I)Z"⟩, 10), (⟨"GuideBook$Letters", "settle", "(II)V"⟩, 8), (⟨"GuideBook$Letters", "isOpenOn", "(II)Z"⟩, 8), (⟨"GuideBook$Letters", "close", "(IZ)V"⟩, 8), (⟨"GuideBook$Editions", "settle", "(II)V"⟩, 5), (⟨"GuideBook$Editions", "hasFact", "(II)Z"⟩, 5), (⟨"GuideBook$Facts", "renew", "(II)Z"⟩, 10), (⟨"GuideBook$Facts", "rateOf", "(I)I"⟩, 10), (⟨"GuideBook$Facts", "chanceOf", "(I)I"⟩, 10), (⟨"GuideBook", "placesFor", "(I)J"⟩, 11), (⟨"GuideBook$Bag", "open", "(I)V"⟩, 3), (⟨"GuideBook$Facts", "doubtOf", "(I)I"⟩, 10), (⟨"GuideBook$Bag", "offer", "(IIIZ)V"⟩, 3), (⟨"GuideBook$Bag", "picked", "()J"⟩, 3), (⟨"GuideBook", "doubtOfSet", "(J)I"⟩, 11)]
theorem lw_r1 : ∀ q ∈ lw_privs_1, lw_okq q := List.forall_mem_cons.mpr ⟨lw_p0, List.forall_mem_cons.mpr ⟨lw_p1, List.forall_mem_cons.mpr ⟨lw_p2, List.forall_mem_cons.mpr ⟨lw_p3, List.forall_mem_cons.mpr ⟨lw_p4, List.forall_mem_cons.mpr ⟨lw_p5, List.forall_mem_cons.mpr ⟨lw_p6, List.forall_mem_cons.mpr ⟨lw_p7, List.forall_mem_cons.mpr ⟨lw_p8, List.forall_mem_cons.mpr ⟨lw_p9, List.forall_mem_cons.mpr ⟨lw_p10, List.forall_mem_cons.mpr ⟨lw_p11, List.forall_mem_cons.mpr ⟨lw_p12, List.forall_mem_cons.mpr ⟨lw_p13, List.forall_mem_cons.mpr ⟨lw_p14, List.forall_mem_cons.mpr ⟨lw_p15, fun _ h => absurd h List.not_mem_nil⟩⟩⟩⟩⟩⟩⟩⟩⟩⟩⟩⟩⟩⟩⟩⟩
theorem lw_p16 : lw_okq (⟨"GuideBook$Letters", "add", "(III)I"⟩, 8) := ⟨⟨by decide +kernel, by decide +kernel⟩, List.mem_of_getElem? (i := 79) (by decide +kernel), List.mem_of_getElem? (i := 422) (by decide +kernel), List.mem_of_getElem? (i := 423) (by decide +kernel)⟩
theorem lw_p17 : lw_okq (⟨"GuideBook$Letters", "weightOf", "(I)I"⟩, 8) := ⟨⟨by decide +kernel, by decide +kernel⟩, List.mem_of_getElem? (i := 79) (by decide +kernel), List.mem_of_getElem? (i := 430) (by decide +kernel), List.mem_of_getElem? (i := 431) (by decide +kernel)⟩
theorem lw_p18 : lw_okq (⟨"GuideBook", "beliefOf", "(I)I"⟩, 11) := ⟨⟨by decide +kernel, by decide +kernel⟩, List.mem_of_getElem? (i := 25) (by decide +kernel), List.mem_of_getElem? (i := 438) (by decide +kernel), List.mem_of_getElem? (i := 439) (by decide +kernel)⟩
theorem lw_p19 : lw_okq (⟨"GuideBook$Letters", "weightFor", "(II)I"⟩, 8) := ⟨⟨by decide +kernel, by decide +kernel⟩, List.mem_of_getElem? (i := 79) (by decide +kernel), List.mem_of_getElem? (i := 442) (by decide +kernel), List.mem_of_getElem? (i := 443) (by decide +kernel)⟩
theorem lw_p20 : lw_okq (⟨"GuideBook$Letters", "differOn", "(I)Z"⟩, 8) := ⟨⟨by decide +kernel, by decide +kernel⟩, List.mem_of_getElem? (i := 79) (by decide +kernel), List.mem_of_getElem? (i := 452) (by decide +kernel), List.mem_of_getElem? (i := 453) (by decide +kernel)⟩
theorem lw_p21 : lw_okq (⟨"GuideBook$Letters", "has", "(I)Z"⟩, 8) := ⟨⟨by decide +kernel, by decide +kernel⟩, List.mem_of_getElem? (i := 79) (by decide +kernel), List.mem_of_getElem? (i := 460) (by decide +kernel), List.mem_of_getElem? (i := 461) (by decide +kernel)⟩
theorem lw_p22 : lw_okq (⟨"GuideBook$Tape", "appendBytes", "(J)V"⟩, 2) := ⟨⟨by decide +kernel, by decide +kernel⟩, List.mem_of_getElem? (i := 130) (by decide +kernel), List.mem_of_getElem? (i := 479) (by decide +kernel), List.mem_of_getElem? (i := 480) (by decide +kernel)⟩
theorem lw_p23 : lw_okq (⟨"GuideBook$Tape", "append", "(I)V"⟩, 2) := ⟨⟨by decide +kernel, by decide +kernel⟩, List.mem_of_getElem? (i := 130) (by decide +kernel), List.mem_of_getElem? (i := 484) (by decide +kernel), List.mem_of_getElem? (i := 485) (by decide +kernel)⟩
theorem lw_p24 : lw_okq (⟨"GuideBook$Parser", "parse", "(LGuideBook$Tape;)I"⟩, 4) := ⟨⟨by decide +kernel, by decide +kernel⟩, List.mem_of_getElem? (i := 147) (by decide +kernel), List.mem_of_getElem? (i := 492) (by decide +kernel), List.mem_of_getElem? (i := 493) (by decide +kernel)⟩
theorem lw_p25 : lw_okq (⟨"GuideBook$Tokens", "scan", "(LGuideBook$Tape;)V"⟩, 4) := ⟨⟨by decide +kernel, by decide +kernel⟩, List.mem_of_getElem? (i := 153) (by decide +kernel), List.mem_of_getElem? (i := 496) (by decide +kernel), List.mem_of_getElem? (i := 497) (by decide +kernel)⟩
theorem lw_p26 : lw_okq (⟨"GuideBook$Tape", "isLetter", "(I)Z"⟩, 2) := ⟨⟨by decide +kernel, by decide +kernel⟩, List.mem_of_getElem? (i := 130) (by decide +kernel), List.mem_of_getElem? (i := 503) (by decide +kernel), List.mem_of_getElem? (i := 504) (by decide +kernel)⟩
theorem lw_p27 : lw_okq (⟨"GuideBook$Tape", "isDigit", "(I)Z"⟩, 2) := ⟨⟨by decide +kernel, by decide +kernel⟩, List.mem_of_getElem? (i := 130) (by decide +kernel), List.mem_of_getElem? (i := 508) (by decide +kernel), List.mem_of_getElem? (i := 509) (by decide +kernel)⟩
theorem lw_p28 : lw_okq (⟨"GuideBook$Tape", "isBlank", "(I)Z"⟩, 2) := ⟨⟨by decide +kernel, by decide +kernel⟩, List.mem_of_getElem? (i := 130) (by decide +kernel), List.mem_of_getElem? (i := 512) (by decide +kernel), List.mem_of_getElem? (i := 513) (by decide +kernel)⟩
theorem lw_p29 : lw_okq (⟨"GuideBook$Tokens", "addFrom", "(LGuideBook$Tape;I)V"⟩, 4) := ⟨⟨by decide +kernel, by decide +kernel⟩, List.mem_of_getElem? (i := 153) (by decide +kernel), List.mem_of_getElem? (i := 516) (by decide +kernel), List.mem_of_getElem? (i := 517) (by decide +kernel)⟩
theorem lw_p30 : lw_okq (⟨"GuideBook$Tape", "endOfLetters", "(I)I"⟩, 2) := ⟨⟨by decide +kernel, by decide +kernel⟩, List.mem_of_getElem? (i := 130) (by decide +kernel), List.mem_of_getElem? (i := 520) (by decide +kernel), List.mem_of_getElem? (i := 521) (by decide +kernel)⟩
theorem lw_p31 : lw_okq (⟨"GuideBook$Tape", "spells", "(IILjava/lang/String;)Z"⟩, 2) := ⟨⟨by decide +kernel, by decide +kernel⟩, List.mem_of_getElem? (i := 130) (by decide +kernel), List.mem_of_getElem? (i := 529) (by decide +kernel), List.mem_of_getElem? (i := 530) (by decide +kernel)⟩
def lw_privs_2 : List (MethodName × Nat) := [(⟨"GuideBook$Letters", "add", "(III)I"⟩, 8), (⟨"GuideBook$Letters", "weightOf", "(I)I"⟩, 8), (⟨"GuideBook", "beliefOf", "(I)I"⟩, 11), (⟨"GuideBook$Letters", "weightFor", "(II)I"⟩, 8), (⟨"GuideBook$Letters", "differOn", "(I)Z"⟩, 8), (⟨"GuideBook$Letters", "has", "(I)Z"⟩, 8), (⟨"GuideBook$Tape", "appendBytes", "(J)V"⟩, 2), (⟨"GuideBook$Tape", "append", "(I)V"⟩, 2), (⟨"GuideBook$Parser", "parse", "(LGuideBook$Tape;)I"⟩, 4), (⟨"GuideBook$Tokens", "scan", "(LGuideBook$Tape;)V"⟩, 4), (⟨"GuideBook$Tape", "isLetter", "(I)Z"⟩, 2), (⟨"GuideBook$Tape", "isDigit", "(I)Z"⟩, 2), (⟨"GuideBook$Tape", "isBlank", "(I)Z"⟩, 2), (⟨"GuideBook$Tokens", "addFrom", "(LGuideBook$Tape;I)V"⟩, 4), (⟨"GuideBook$Tape", "endOfLetters", "(I)I"⟩, 2), (⟨"GuideBook$Tape", "spells", "(IILjava/lang/String;)Z"⟩, 2)]
theorem lw_r2 : ∀ q ∈ lw_privs_2, lw_okq q := List.forall_mem_cons.mpr ⟨lw_p16, List.forall_mem_cons.mpr ⟨lw_p17, List.forall_mem_cons.mpr ⟨lw_p18, List.forall_mem_cons.mpr ⟨lw_p19, List.forall_mem_cons.mpr ⟨lw_p20, List.forall_mem_cons.mpr ⟨lw_p21, List.forall_mem_cons.mpr ⟨lw_p22, List.forall_mem_cons.mpr ⟨lw_p23, List.forall_mem_cons.mpr ⟨lw_p24, List.forall_mem_cons.mpr ⟨lw_p25, List.forall_mem_cons.mpr ⟨lw_p26, List.forall_mem_cons.mpr ⟨lw_p27, List.forall_mem_cons.mpr ⟨lw_p28, List.forall_mem_cons.mpr ⟨lw_p29, List.forall_mem_cons.mpr ⟨lw_p30, List.forall_mem_cons.mpr ⟨lw_p31, fun _ h => absurd h List.not_mem_nil⟩⟩⟩⟩⟩⟩⟩⟩⟩⟩⟩⟩⟩⟩⟩⟩
theorem lw_p32 : lw_okq (⟨"GuideBook$Tokens", "add", "(III)V"⟩, 4) := ⟨⟨by decide +kernel, by decide +kernel⟩, List.mem_of_getElem? (i := 153) (by decide +kernel), List.mem_of_getElem? (i := 589) (by decide +kernel), List.mem_of_getElem? (i := 590) (by decide +kernel)⟩
theorem lw_p33 : lw_okq (⟨"GuideBook$Tape", "endOfDigits", "(I)I"⟩, 2) := ⟨⟨by decide +kernel, by decide +kernel⟩, List.mem_of_getElem? (i := 130) (by decide +kernel), List.mem_of_getElem? (i := 593) (by decide +kernel), List.mem_of_getElem? (i := 594) (by decide +kernel)⟩
theorem lw_p34 : lw_okq (⟨"GuideBook$Tokens", "addNumber", "(LGuideBook$Tape;II)V"⟩, 4) := ⟨⟨by decide +kernel, by decide +kernel⟩, List.mem_of_getElem? (i := 153) (by decide +kernel), List.mem_of_getElem? (i := 598) (by decide +kernel), List.mem_of_getElem? (i := 599) (by decide +kernel)⟩
theorem lw_p35 : lw_okq (⟨"GuideBook$Script", "clear", "()V"⟩, 6) := ⟨⟨by decide +kernel, by decide +kernel⟩, List.mem_of_getElem? (i := 176) (by decide +kernel), List.mem_of_getElem? (i := 605) (by decide +kernel), List.mem_of_getElem? (i := 606) (by decide +kernel)⟩
theorem lw_p36 : lw_okq (⟨"GuideBook$Parser", "token", "()I"⟩, 4) := ⟨⟨by decide +kernel, by decide +kernel⟩, List.mem_of_getElem? (i := 147) (by decide +kernel), List.mem_of_getElem? (i := 609) (by decide +kernel), List.mem_of_getElem? (i := 610) (by decide +kernel)⟩
theorem lw_p37 : lw_okq (⟨"GuideBook$Parser", "parseLine", "(I)Z"⟩, 4) := ⟨⟨by decide +kernel, by decide +kernel⟩, List.mem_of_getElem? (i := 147) (by decide +kernel), List.mem_of_getElem? (i := 613) (by decide +kernel), List.mem_of_getElem? (i := 614) (by decide +kernel)⟩
theorem lw_p38 : lw_okq (⟨"GuideBook$Parser", "refuse", "(I)Z"⟩, 4) := ⟨⟨by decide +kernel, by decide +kernel⟩, List.mem_of_getElem? (i := 147) (by decide +kernel), List.mem_of_getElem? (i := 617) (by decide +kernel), List.mem_of_getElem? (i := 618) (by decide +kernel)⟩
theorem lw_p39 : lw_okq (⟨"GuideBook$Parser", "pass", "(I)Z"⟩, 4) := ⟨⟨by decide +kernel, by decide +kernel⟩, List.mem_of_getElem? (i := 147) (by decide +kernel), List.mem_of_getElem? (i := 621) (by decide +kernel), List.mem_of_getElem? (i := 622) (by decide +kernel)⟩
theorem lw_p40 : lw_okq (⟨"GuideBook$Parser", "parseJoined", "(II)Z"⟩, 4) := ⟨⟨by decide +kernel, by decide +kernel⟩, List.mem_of_getElem? (i := 147) (by decide +kernel), List.mem_of_getElem? (i := 625) (by decide +kernel), List.mem_of_getElem? (i := 626) (by decide +kernel)⟩
theorem lw_p41 : lw_okq (⟨"GuideBook$Parser", "parsePart", "(I)Z"⟩, 4) := ⟨⟨by decide +kernel, by decide +kernel⟩, List.mem_of_getElem? (i := 147) (by decide +kernel), List.mem_of_getElem? (i := 629) (by decide +kernel), List.mem_of_getElem? (i := 630) (by decide +kernel)⟩
theorem lw_p42 : lw_okq (⟨"GuideBook$Script", "add", "(I)V"⟩, 6) := ⟨⟨by decide +kernel, by decide +kernel⟩, List.mem_of_getElem? (i := 176) (by decide +kernel), List.mem_of_getElem? (i := 636) (by decide +kernel), List.mem_of_getElem? (i := 637) (by decide +kernel)⟩
theorem lw_p43 : lw_okq (⟨"GuideBook$Script", "endLine", "(I)V"⟩, 6) := ⟨⟨by decide +kernel, by decide +kernel⟩, List.mem_of_getElem? (i := 176) (by decide +kernel), List.mem_of_getElem? (i := 643) (by decide +kernel), List.mem_of_getElem? (i := 644) (by decide +kernel)⟩
theorem lw_p44 : lw_okq (⟨"GuideBook$Script", "copy", "(LGuideBook$Script;)V"⟩, 6) := ⟨⟨by decide +kernel, by decide +kernel⟩, List.mem_of_getElem? (i := 176) (by decide +kernel), List.mem_of_getElem? (i := 647) (by decide +kernel), List.mem_of_getElem? (i := 648) (by decide +kernel)⟩
theorem lw_p45 : lw_okq (⟨"GuideBook", "starsOf", "(I)I"⟩, 11) := ⟨⟨by decide +kernel, by decide +kernel⟩, List.mem_of_getElem? (i := 25) (by decide +kernel), List.mem_of_getElem? (i := 658) (by decide +kernel), List.mem_of_getElem? (i := 659) (by decide +kernel)⟩
theorem lw_p46 : lw_okq (⟨"GuideBook$Marks", "describe", "(I[I)V"⟩, 1) := ⟨⟨by decide +kernel, by decide +kernel⟩, List.mem_of_getElem? (i := 114) (by decide +kernel), List.mem_of_getElem? (i := 662) (by decide +kernel), List.mem_of_getElem? (i := 663) (by decide +kernel)⟩
theorem lw_p47 : lw_okq (⟨"GuideBook$Marks", "onScale", "(II)I"⟩, 1) := ⟨⟨by decide +kernel, by decide +kernel⟩, List.mem_of_getElem? (i := 114) (by decide +kernel), List.mem_of_getElem? (i := 666) (by decide +kernel), List.mem_of_getElem? (i := 667) (by decide +kernel)⟩
def lw_privs_3 : List (MethodName × Nat) := [(⟨"GuideBook$Tokens", "add", "(III)V"⟩, 4), (⟨"GuideBook$Tape", "endOfDigits", "(I)I"⟩, 2), (⟨"GuideBook$Tokens", "addNumber", "(LGuideBook$Tape;II)V"⟩, 4), (⟨"GuideBook$Script", "clear", "()V"⟩, 6), (⟨"GuideBook$Parser", "token", "()I"⟩, 4), (⟨"GuideBook$Parser", "parseLine", "(I)Z"⟩, 4), (⟨"GuideBook$Parser", "refuse", "(I)Z"⟩, 4), (⟨"GuideBook$Parser", "pass", "(I)Z"⟩, 4), (⟨"GuideBook$Parser", "parseJoined", "(II)Z"⟩, 4), (⟨"GuideBook$Parser", "parsePart", "(I)Z"⟩, 4), (⟨"GuideBook$Script", "add", "(I)V"⟩, 6), (⟨"GuideBook$Script", "endLine", "(I)V"⟩, 6), (⟨"GuideBook$Script", "copy", "(LGuideBook$Script;)V"⟩, 6), (⟨"GuideBook", "starsOf", "(I)I"⟩, 11), (⟨"GuideBook$Marks", "describe", "(I[I)V"⟩, 1), (⟨"GuideBook$Marks", "onScale", "(II)I"⟩, 1)]
theorem lw_r3 : ∀ q ∈ lw_privs_3, lw_okq q := List.forall_mem_cons.mpr ⟨lw_p32, List.forall_mem_cons.mpr ⟨lw_p33, List.forall_mem_cons.mpr ⟨lw_p34, List.forall_mem_cons.mpr ⟨lw_p35, List.forall_mem_cons.mpr ⟨lw_p36, List.forall_mem_cons.mpr ⟨lw_p37, List.forall_mem_cons.mpr ⟨lw_p38, List.forall_mem_cons.mpr ⟨lw_p39, List.forall_mem_cons.mpr ⟨lw_p40, List.forall_mem_cons.mpr ⟨lw_p41, List.forall_mem_cons.mpr ⟨lw_p42, List.forall_mem_cons.mpr ⟨lw_p43, List.forall_mem_cons.mpr ⟨lw_p44, List.forall_mem_cons.mpr ⟨lw_p45, List.forall_mem_cons.mpr ⟨lw_p46, List.forall_mem_cons.mpr ⟨lw_p47, fun _ h => absurd h List.not_mem_nil⟩⟩⟩⟩⟩⟩⟩⟩⟩⟩⟩⟩⟩⟩⟩⟩
theorem lw_p48 : lw_okq (⟨"GuideBook$Marks", "shiftOf", "(I)I"⟩, 1) := ⟨⟨by decide +kernel, by decide +kernel⟩, List.mem_of_getElem? (i := 114) (by decide +kernel), List.mem_of_getElem? (i := 670) (by decide +kernel), List.mem_of_getElem? (i := 671) (by decide +kernel)⟩
theorem lw_p49 : lw_okq (⟨"GuideBook$Facts", "countOf", "(I)I"⟩, 10) := ⟨⟨by decide +kernel, by decide +kernel⟩, List.mem_of_getElem? (i := 33) (by decide +kernel), List.mem_of_getElem? (i := 680) (by decide +kernel), List.mem_of_getElem? (i := 681) (by decide +kernel)⟩
theorem lw_p50 : lw_okq (⟨"GuideBook$Script", "starsFor", "([I)I"⟩, 6) := ⟨⟨by decide +kernel, by decide +kernel⟩, List.mem_of_getElem? (i := 176) (by decide +kernel), List.mem_of_getElem? (i := 684) (by decide +kernel), List.mem_of_getElem? (i := 685) (by decide +kernel)⟩
theorem lw_p51 : lw_okq (⟨"GuideBook$Script", "valueOf", "(II[I)I"⟩, 6) := ⟨⟨by decide +kernel, by decide +kernel⟩, List.mem_of_getElem? (i := 176) (by decide +kernel), List.mem_of_getElem? (i := 688) (by decide +kernel), List.mem_of_getElem? (i := 689) (by decide +kernel)⟩
theorem lw_p52 : lw_okq (⟨"GuideBook", "linesKept", "(II)J"⟩, 11) := ⟨⟨by decide +kernel, by decide +kernel⟩, List.mem_of_getElem? (i := 25) (by decide +kernel), List.mem_of_getElem? (i := 700) (by decide +kernel), List.mem_of_getElem? (i := 701) (by decide +kernel)⟩
theorem lw_p53 : lw_okq (⟨"GuideBook$Editions", "start", "(I)I"⟩, 5) := ⟨⟨by decide +kernel, by decide +kernel⟩, List.mem_of_getElem? (i := 218) (by decide +kernel), List.mem_of_getElem? (i := 715) (by decide +kernel), List.mem_of_getElem? (i := 716) (by decide +kernel)⟩
theorem lw_p54 : lw_okq (⟨"GuideBook$Editions", "has", "(I)Z"⟩, 5) := ⟨⟨by decide +kernel, by decide +kernel⟩, List.mem_of_getElem? (i := 218) (by decide +kernel), List.mem_of_getElem? (i := 723) (by decide +kernel), List.mem_of_getElem? (i := 724) (by decide +kernel)⟩
theorem lw_p55 : lw_okq (⟨"java/lang/Throwable", "fillInStackTrace", "(I)Ljava/lang/Throwable;"⟩, 6) := ⟨⟨by decide +kernel, by decide +kernel⟩, List.mem_of_getElem? (i := 780) (by decide +kernel), List.mem_of_getElem? (i := 778) (by decide +kernel), List.mem_of_getElem? (i := 779) (by decide +kernel)⟩
theorem lw_p56 : lw_okq (⟨"GuideBookModel", "lay", "(J)V"⟩, 51) := ⟨⟨by decide +kernel, by decide +kernel⟩, List.mem_of_getElem? (i := 829) (by decide +kernel), List.mem_of_getElem? (i := 827) (by decide +kernel), List.mem_of_getElem? (i := 828) (by decide +kernel)⟩
theorem lw_p57 : lw_okq (⟨"GuideBookModel", "cutAll", "()V"⟩, 51) := ⟨⟨by decide +kernel, by decide +kernel⟩, List.mem_of_getElem? (i := 829) (by decide +kernel), List.mem_of_getElem? (i := 1004) (by decide +kernel), List.mem_of_getElem? (i := 1005) (by decide +kernel)⟩
theorem lw_p58 : lw_okq (⟨"GuideBookModel", "line", "()V"⟩, 51) := ⟨⟨by decide +kernel, by decide +kernel⟩, List.mem_of_getElem? (i := 829) (by decide +kernel), List.mem_of_getElem? (i := 1023) (by decide +kernel), List.mem_of_getElem? (i := 1024) (by decide +kernel)⟩
theorem lw_p59 : lw_okq (⟨"GuideBookModel", "isWord", "(I)Z"⟩, 51) := ⟨⟨by decide +kernel, by decide +kernel⟩, List.mem_of_getElem? (i := 829) (by decide +kernel), List.mem_of_getElem? (i := 1027) (by decide +kernel), List.mem_of_getElem? (i := 1028) (by decide +kernel)⟩
theorem lw_p60 : lw_okq (⟨"GuideBookModel", "wrong", "(I)V"⟩, 51) := ⟨⟨by decide +kernel, by decide +kernel⟩, List.mem_of_getElem? (i := 829) (by decide +kernel), List.mem_of_getElem? (i := 1031) (by decide +kernel), List.mem_of_getElem? (i := 1032) (by decide +kernel)⟩
theorem lw_p61 : lw_okq (⟨"GuideBookModel", "takeWord", "(I)V"⟩, 51) := ⟨⟨by decide +kernel, by decide +kernel⟩, List.mem_of_getElem? (i := 829) (by decide +kernel), List.mem_of_getElem? (i := 1036) (by decide +kernel), List.mem_of_getElem? (i := 1037) (by decide +kernel)⟩
theorem lw_p62 : lw_okq (⟨"GuideBookModel", "hasWord", "(I)Z"⟩, 51) := ⟨⟨by decide +kernel, by decide +kernel⟩, List.mem_of_getElem? (i := 829) (by decide +kernel), List.mem_of_getElem? (i := 1040) (by decide +kernel), List.mem_of_getElem? (i := 1041) (by decide +kernel)⟩
theorem lw_p63 : lw_okq (⟨"GuideBookModel", "opens", "()V"⟩, 51) := ⟨⟨by decide +kernel, by decide +kernel⟩, List.mem_of_getElem? (i := 829) (by decide +kernel), List.mem_of_getElem? (i := 1044) (by decide +kernel), List.mem_of_getElem? (i := 1045) (by decide +kernel)⟩
def lw_privs_4 : List (MethodName × Nat) := [(⟨"GuideBook$Marks", "shiftOf", "(I)I"⟩, 1), (⟨"GuideBook$Facts", "countOf", "(I)I"⟩, 10), (⟨"GuideBook$Script", "starsFor", "([I)I"⟩, 6), (⟨"GuideBook$Script", "valueOf", "(II[I)I"⟩, 6), (⟨"GuideBook", "linesKept", "(II)J"⟩, 11), (⟨"GuideBook$Editions", "start", "(I)I"⟩, 5), (⟨"GuideBook$Editions", "has", "(I)Z"⟩, 5), (⟨"java/lang/Throwable", "fillInStackTrace", "(I)Ljava/lang/Throwable;"⟩, 6), (⟨"GuideBookModel", "lay", "(J)V"⟩, 51), (⟨"GuideBookModel", "cutAll", "()V"⟩, 51), (⟨"GuideBookModel", "line", "()V"⟩, 51), (⟨"GuideBookModel", "isWord", "(I)Z"⟩, 51), (⟨"GuideBookModel", "wrong", "(I)V"⟩, 51), (⟨"GuideBookModel", "takeWord", "(I)V"⟩, 51), (⟨"GuideBookModel", "hasWord", "(I)Z"⟩, 51), (⟨"GuideBookModel", "opens", "()V"⟩, 51)]
theorem lw_r4 : ∀ q ∈ lw_privs_4, lw_okq q := List.forall_mem_cons.mpr ⟨lw_p48, List.forall_mem_cons.mpr ⟨lw_p49, List.forall_mem_cons.mpr ⟨lw_p50, List.forall_mem_cons.mpr ⟨lw_p51, List.forall_mem_cons.mpr ⟨lw_p52, List.forall_mem_cons.mpr ⟨lw_p53, List.forall_mem_cons.mpr ⟨lw_p54, List.forall_mem_cons.mpr ⟨lw_p55, List.forall_mem_cons.mpr ⟨lw_p56, List.forall_mem_cons.mpr ⟨lw_p57, List.forall_mem_cons.mpr ⟨lw_p58, List.forall_mem_cons.mpr ⟨lw_p59, List.forall_mem_cons.mpr ⟨lw_p60, List.forall_mem_cons.mpr ⟨lw_p61, List.forall_mem_cons.mpr ⟨lw_p62, List.forall_mem_cons.mpr ⟨lw_p63, fun _ h => absurd h List.not_mem_nil⟩⟩⟩⟩⟩⟩⟩⟩⟩⟩⟩⟩⟩⟩⟩⟩
theorem lw_p64 : lw_okq (⟨"GuideBookModel", "part", "()Z"⟩, 51) := ⟨⟨by decide +kernel, by decide +kernel⟩, List.mem_of_getElem? (i := 829) (by decide +kernel), List.mem_of_getElem? (i := 1048) (by decide +kernel), List.mem_of_getElem? (i := 1049) (by decide +kernel)⟩
theorem lw_p65 : lw_okq (⟨"GuideBookModel", "partWord", "()I"⟩, 51) := ⟨⟨by decide +kernel, by decide +kernel⟩, List.mem_of_getElem? (i := 829) (by decide +kernel), List.mem_of_getElem? (i := 1052) (by decide +kernel), List.mem_of_getElem? (i := 1053) (by decide +kernel)⟩
theorem lw_p66 : lw_okq (⟨"GuideBookModel", "isSign", "(I)Z"⟩, 51) := ⟨⟨by decide +kernel, by decide +kernel⟩, List.mem_of_getElem? (i := 829) (by decide +kernel), List.mem_of_getElem? (i := 1056) (by decide +kernel), List.mem_of_getElem? (i := 1057) (by decide +kernel)⟩
theorem lw_p67 : lw_okq (⟨"GuideBookModel", "hasSign", "(I)Z"⟩, 51) := ⟨⟨by decide +kernel, by decide +kernel⟩, List.mem_of_getElem? (i := 829) (by decide +kernel), List.mem_of_getElem? (i := 1060) (by decide +kernel), List.mem_of_getElem? (i := 1061) (by decide +kernel)⟩
theorem lw_p68 : lw_okq (⟨"GuideBookModel", "emit", "(II)V"⟩, 51) := ⟨⟨by decide +kernel, by decide +kernel⟩, List.mem_of_getElem? (i := 829) (by decide +kernel), List.mem_of_getElem? (i := 1064) (by decide +kernel), List.mem_of_getElem? (i := 1065) (by decide +kernel)⟩
theorem lw_p69 : lw_okq (⟨"GuideBookModel", "goesOnBehind", "()Z"⟩, 51) := ⟨⟨by decide +kernel, by decide +kernel⟩, List.mem_of_getElem? (i := 829) (by decide +kernel), List.mem_of_getElem? (i := 1068) (by decide +kernel), List.mem_of_getElem? (i := 1069) (by decide +kernel)⟩
theorem lw_p70 : lw_okq (⟨"GuideBookModel", "takeSign", "(I)V"⟩, 51) := ⟨⟨by decide +kernel, by decide +kernel⟩, List.mem_of_getElem? (i := 829) (by decide +kernel), List.mem_of_getElem? (i := 1072) (by decide +kernel), List.mem_of_getElem? (i := 1073) (by decide +kernel)⟩
theorem lw_p71 : lw_okq (⟨"GuideBookModel", "isFact", "(I)Z"⟩, 51) := ⟨⟨by decide +kernel, by decide +kernel⟩, List.mem_of_getElem? (i := 829) (by decide +kernel), List.mem_of_getElem? (i := 1094) (by decide +kernel), List.mem_of_getElem? (i := 1095) (by decide +kernel)⟩
theorem lw_p72 : lw_okq (⟨"GuideBookModel", "rateOf", "(I)I"⟩, 51) := ⟨⟨by decide +kernel, by decide +kernel⟩, List.mem_of_getElem? (i := 829) (by decide +kernel), List.mem_of_getElem? (i := 1102) (by decide +kernel), List.mem_of_getElem? (i := 1103) (by decide +kernel)⟩
theorem lw_p73 : lw_okq (⟨"GuideBookModel", "chanceOf", "(I)I"⟩, 51) := ⟨⟨by decide +kernel, by decide +kernel⟩, List.mem_of_getElem? (i := 829) (by decide +kernel), List.mem_of_getElem? (i := 1111) (by decide +kernel), List.mem_of_getElem? (i := 1112) (by decide +kernel)⟩
theorem lw_p74 : lw_okq (⟨"GuideBookModel", "proves", "(II)V"⟩, 51) := ⟨⟨by decide +kernel, by decide +kernel⟩, List.mem_of_getElem? (i := 829) (by decide +kernel), List.mem_of_getElem? (i := 1119) (by decide +kernel), List.mem_of_getElem? (i := 1120) (by decide +kernel)⟩
theorem lw_p75 : lw_okq (⟨"GuideBookModel", "doubtOf", "(I)J"⟩, 51) := ⟨⟨by decide +kernel, by decide +kernel⟩, List.mem_of_getElem? (i := 829) (by decide +kernel), List.mem_of_getElem? (i := 1132) (by decide +kernel), List.mem_of_getElem? (i := 1133) (by decide +kernel)⟩
theorem lw_p76 : lw_okq (⟨"GuideBookModel", "daysOf", "(I)I"⟩, 51) := ⟨⟨by decide +kernel, by decide +kernel⟩, List.mem_of_getElem? (i := 829) (by decide +kernel), List.mem_of_getElem? (i := 1136) (by decide +kernel), List.mem_of_getElem? (i := 1137) (by decide +kernel)⟩
theorem lw_p77 : lw_okq (⟨"GuideBookModel", "weightOf", "(I)I"⟩, 51) := ⟨⟨by decide +kernel, by decide +kernel⟩, List.mem_of_getElem? (i := 829) (by decide +kernel), List.mem_of_getElem? (i := 1149) (by decide +kernel), List.mem_of_getElem? (i := 1150) (by decide +kernel)⟩
theorem lw_p78 : lw_okq (⟨"GuideBookModel", "believes", "(I)I"⟩, 51) := ⟨⟨by decide +kernel, by decide +kernel⟩, List.mem_of_getElem? (i := 829) (by decide +kernel), List.mem_of_getElem? (i := 1157) (by decide +kernel), List.mem_of_getElem? (i := 1158) (by decide +kernel)⟩
theorem lw_p79 : lw_okq (⟨"GuideBookModel", "isOpen", "(II)Z"⟩, 51) := ⟨⟨by decide +kernel, by decide +kernel⟩, List.mem_of_getElem? (i := 829) (by decide +kernel), List.mem_of_getElem? (i := 1161) (by decide +kernel), List.mem_of_getElem? (i := 1162) (by decide +kernel)⟩
def lw_privs_5 : List (MethodName × Nat) := [(⟨"GuideBookModel", "part", "()Z"⟩, 51), (⟨"GuideBookModel", "partWord", "()I"⟩, 51), (⟨"GuideBookModel", "isSign", "(I)Z"⟩, 51), (⟨"GuideBookModel", "hasSign", "(I)Z"⟩, 51), (⟨"GuideBookModel", "emit", "(II)V"⟩, 51), (⟨"GuideBookModel", "goesOnBehind", "()Z"⟩, 51), (⟨"GuideBookModel", "takeSign", "(I)V"⟩, 51), (⟨"GuideBookModel", "isFact", "(I)Z"⟩, 51), (⟨"GuideBookModel", "rateOf", "(I)I"⟩, 51), (⟨"GuideBookModel", "chanceOf", "(I)I"⟩, 51), (⟨"GuideBookModel", "proves", "(II)V"⟩, 51), (⟨"GuideBookModel", "doubtOf", "(I)J"⟩, 51), (⟨"GuideBookModel", "daysOf", "(I)I"⟩, 51), (⟨"GuideBookModel", "weightOf", "(I)I"⟩, 51), (⟨"GuideBookModel", "believes", "(I)I"⟩, 51), (⟨"GuideBookModel", "isOpen", "(II)Z"⟩, 51)]
theorem lw_r5 : ∀ q ∈ lw_privs_5, lw_okq q := List.forall_mem_cons.mpr ⟨lw_p64, List.forall_mem_cons.mpr ⟨lw_p65, List.forall_mem_cons.mpr ⟨lw_p66, List.forall_mem_cons.mpr ⟨lw_p67, List.forall_mem_cons.mpr ⟨lw_p68, List.forall_mem_cons.mpr ⟨lw_p69, List.forall_mem_cons.mpr ⟨lw_p70, List.forall_mem_cons.mpr ⟨lw_p71, List.forall_mem_cons.mpr ⟨lw_p72, List.forall_mem_cons.mpr ⟨lw_p73, List.forall_mem_cons.mpr ⟨lw_p74, List.forall_mem_cons.mpr ⟨lw_p75, List.forall_mem_cons.mpr ⟨lw_p76, List.forall_mem_cons.mpr ⟨lw_p77, List.forall_mem_cons.mpr ⟨lw_p78, List.forall_mem_cons.mpr ⟨lw_p79, fun _ h => absurd h List.not_mem_nil⟩⟩⟩⟩⟩⟩⟩⟩⟩⟩⟩⟩⟩⟩⟩⟩
theorem lw_p80 : lw_okq (⟨"GuideBookModel", "heard", "(II)I"⟩, 51) := ⟨⟨by decide +kernel, by decide +kernel⟩, List.mem_of_getElem? (i := 829) (by decide +kernel), List.mem_of_getElem? (i := 1165) (by decide +kernel), List.mem_of_getElem? (i := 1166) (by decide +kernel)⟩
theorem lw_p81 : lw_okq (⟨"GuideBookModel", "shiftOf", "(I)I"⟩, 51) := ⟨⟨by decide +kernel, by decide +kernel⟩, List.mem_of_getElem? (i := 829) (by decide +kernel), List.mem_of_getElem? (i := 1185) (by decide +kernel), List.mem_of_getElem? (i := 1186) (by decide +kernel)⟩
theorem lw_p82 : lw_okq (⟨"GuideBookModel", "starsOf", "(I)I"⟩, 51) := ⟨⟨by decide +kernel, by decide +kernel⟩, List.mem_of_getElem? (i := 829) (by decide +kernel), List.mem_of_getElem? (i := 1197) (by decide +kernel), List.mem_of_getElem? (i := 1198) (by decide +kernel)⟩
theorem lw_p83 : lw_okq (⟨"GuideBookModel", "worth", "(I)I"⟩, 51) := ⟨⟨by decide +kernel, by decide +kernel⟩, List.mem_of_getElem? (i := 829) (by decide +kernel), List.mem_of_getElem? (i := 1201) (by decide +kernel), List.mem_of_getElem? (i := 1202) (by decide +kernel)⟩
theorem lw_p84 : lw_okq (⟨"GuideBookModel", "laysOut", "(I)V"⟩, 51) := ⟨⟨by decide +kernel, by decide +kernel⟩, List.mem_of_getElem? (i := 829) (by decide +kernel), List.mem_of_getElem? (i := 1209) (by decide +kernel), List.mem_of_getElem? (i := 1210) (by decide +kernel)⟩
theorem lw_p85 : lw_okq (⟨"GuideBookModel", "isWith", "(II)Z"⟩, 51) := ⟨⟨by decide +kernel, by decide +kernel⟩, List.mem_of_getElem? (i := 829) (by decide +kernel), List.mem_of_getElem? (i := 1213) (by decide +kernel), List.mem_of_getElem? (i := 1214) (by decide +kernel)⟩
def lw_privs_6 : List (MethodName × Nat) := [(⟨"GuideBookModel", "heard", "(II)I"⟩, 51), (⟨"GuideBookModel", "shiftOf", "(I)I"⟩, 51), (⟨"GuideBookModel", "starsOf", "(I)I"⟩, 51), (⟨"GuideBookModel", "worth", "(I)I"⟩, 51), (⟨"GuideBookModel", "laysOut", "(I)V"⟩, 51), (⟨"GuideBookModel", "isWith", "(II)Z"⟩, 51)]
theorem lw_r6 : ∀ q ∈ lw_privs_6, lw_okq q := List.forall_mem_cons.mpr ⟨lw_p80, List.forall_mem_cons.mpr ⟨lw_p81, List.forall_mem_cons.mpr ⟨lw_p82, List.forall_mem_cons.mpr ⟨lw_p83, List.forall_mem_cons.mpr ⟨lw_p84, List.forall_mem_cons.mpr ⟨lw_p85, fun _ h => absurd h List.not_mem_nil⟩⟩⟩⟩⟩⟩
def lw_privs : List (MethodName × Nat) := lw_privs_1 ++ (lw_privs_2 ++ (lw_privs_3 ++ (lw_privs_4 ++ (lw_privs_5 ++ (lw_privs_6)))))
def lw_tbl : List Cond := k2_sels lw_privs ++ tables_1
theorem lw_privs_ok : ∀ q ∈ lw_privs, lw_okq q := by
  show ∀ q ∈ lw_privs_1 ++ (lw_privs_2 ++ (lw_privs_3 ++ (lw_privs_4 ++ (lw_privs_5 ++ (lw_privs_6))))), lw_okq q
  exact List.forall_mem_append.mpr ⟨lw_r1, List.forall_mem_append.mpr ⟨lw_r2, List.forall_mem_append.mpr ⟨lw_r3, List.forall_mem_append.mpr ⟨lw_r4, List.forall_mem_append.mpr ⟨lw_r5, lw_r6⟩⟩⟩⟩⟩
end
section
/-! ===== BEGIN printed: names, fields, word lists, decode rows ===== -/
def RX0 : String := "GuideBook$Bag"
def TX0 : u_T := fun k => match k with
  | 0 => ("GuideBook$Bag", "best", "[J", true)
  | 1 => ("GuideBook$Bag", "things", "[J", true)
  | _ => ("GuideBook$Bag", "room", "I", false)
def tyX0 : Nat → FieldType := fun k => match k with
  | 0 => .array .long
  | 1 => .array .long
  | _ => .int
abbrev wsX00 : List Cond := u_ws RX0 TX0 3
theorem nmX0 : ∀ a, a < 3 → ∀ b, b < 3 → a ≠ b → (TX0 a).2.1 ≠ (TX0 b).2.1 := by decide +kernel
theorem tyX0_ok : ∀ k, k < 3 → parseFieldDescriptor (TX0 k).2.2.1 = some (tyX0 k) := by decide +kernel
abbrev cX0_init : ByteArray := prog_2_method_1_code
def yX0_init : MethodName := ⟨RX0, "<init>", "()V"⟩
abbrev cX0_open : ByteArray := prog_2_method_2_code
def yX0_open : MethodName := ⟨RX0, "open", "(I)V"⟩
abbrev cX0_offer : ByteArray := prog_2_method_3_code
def yX0_offer : MethodName := ⟨RX0, "offer", "(IIIZ)V"⟩
abbrev cX0_picked : ByteArray := prog_2_method_4_code
def yX0_picked : MethodName := ⟨RX0, "picked", "()J"⟩
def RX1 : String := "GuideBook$Editions"
def TX1 : u_T := fun k => match k with
  | 0 => ("GuideBook$Editions", "values", "[[I", true)
  | 1 => ("GuideBook$Editions", "state", "[[I", true)
  | 2 => ("GuideBook$Editions", "stars", "[[I", true)
  | 3 => ("GuideBook$Editions", "facts", "[I", true)
  | _ => ("GuideBook$Editions", "size", "I", false)
def tyX1 : Nat → FieldType := fun k => match k with
  | 0 => .array (.array .int)
  | 1 => .array (.array .int)
  | 2 => .array (.array .int)
  | 3 => .array .int
  | _ => .int
abbrev wsX10 : List Cond := u_ws RX1 TX1 5
theorem nmX1 : ∀ a, a < 5 → ∀ b, b < 5 → a ≠ b → (TX1 a).2.1 ≠ (TX1 b).2.1 := by decide +kernel
theorem tyX1_ok : ∀ k, k < 5 → parseFieldDescriptor (TX1 k).2.2.1 = some (tyX1 k) := by decide +kernel
abbrev cX1_init : ByteArray := prog_3_method_1_code
def yX1_init : MethodName := ⟨RX1, "<init>", "()V"⟩
abbrev cX1_has : ByteArray := prog_3_method_2_code
def yX1_has : MethodName := ⟨RX1, "has", "(I)Z"⟩
abbrev cX1_hasFact : ByteArray := prog_3_method_3_code
def yX1_hasFact : MethodName := ⟨RX1, "hasFact", "(II)Z"⟩
abbrev cX1_start : ByteArray := prog_3_method_4_code
def yX1_start : MethodName := ⟨RX1, "start", "(I)I"⟩
abbrev cX1_settle : ByteArray := prog_3_method_5_code
def yX1_settle : MethodName := ⟨RX1, "settle", "(II)V"⟩
def RX2 : String := "GuideBook$Facts"
def TX2 : u_T := fun k => match k with
  | 0 => ("GuideBook$Facts", "kind", "[I", true)
  | 1 => ("GuideBook$Facts", "place", "[I", true)
  | 2 => ("GuideBook$Facts", "value", "[I", true)
  | 3 => ("GuideBook$Facts", "year", "[I", true)
  | 4 => ("GuideBook$Facts", "length", "[I", true)
  | 5 => ("GuideBook$Facts", "worth", "[I", true)
  | 6 => ("GuideBook$Facts", "kindYears", "[I", true)
  | 7 => ("GuideBook$Facts", "kindChanges", "[I", true)
  | 8 => ("GuideBook$Facts", "size", "I", false)
  | _ => ("GuideBook$Facts", "now", "I", false)
def tyX2 : Nat → FieldType := fun k => match k with
  | 0 => .array .int
  | 1 => .array .int
  | 2 => .array .int
  | 3 => .array .int
  | 4 => .array .int
  | 5 => .array .int
  | 6 => .array .int
  | 7 => .array .int
  | 8 => .int
  | _ => .int
abbrev wsX20 : List Cond := u_ws RX2 TX2 10
theorem nmX2 : ∀ a, a < 10 → ∀ b, b < 10 → a ≠ b → (TX2 a).2.1 ≠ (TX2 b).2.1 := by decide +kernel
theorem tyX2_ok : ∀ k, k < 10 → parseFieldDescriptor (TX2 k).2.2.1 = some (tyX2 k) := by decide +kernel
abbrev cX2_init : ByteArray := prog_4_method_1_code
def yX2_init : MethodName := ⟨RX2, "<init>", "()V"⟩
abbrev cX2_has : ByteArray := prog_4_method_2_code
def yX2_has : MethodName := ⟨RX2, "has", "(I)Z"⟩
abbrev cX2_add : ByteArray := prog_4_method_3_code
def yX2_add : MethodName := ⟨RX2, "add", "(III)I"⟩
abbrev cX2_renew : ByteArray := prog_4_method_4_code
def yX2_renew : MethodName := ⟨RX2, "renew", "(II)Z"⟩
abbrev cX2_rateOf : ByteArray := prog_4_method_5_code
def yX2_rateOf : MethodName := ⟨RX2, "rateOf", "(I)I"⟩
abbrev cX2_chanceOf : ByteArray := prog_4_method_6_code
def yX2_chanceOf : MethodName := ⟨RX2, "chanceOf", "(I)I"⟩
abbrev cX2_doubtOf : ByteArray := prog_4_method_7_code
def yX2_doubtOf : MethodName := ⟨RX2, "doubtOf", "(I)I"⟩
abbrev cX2_countOf : ByteArray := prog_4_method_8_code
def yX2_countOf : MethodName := ⟨RX2, "countOf", "(I)I"⟩
def RX3 : String := "GuideBook$Letters"
def TX3 : u_T := fun k => match k with
  | 0 => ("GuideBook$Letters", "reader", "[I", true)
  | 1 => ("GuideBook$Letters", "about", "[I", true)
  | 2 => ("GuideBook$Letters", "said", "[I", true)
  | 3 => ("GuideBook$Letters", "state", "[I", true)
  | 4 => ("GuideBook$Letters", "rightOf", "[I", true)
  | 5 => ("GuideBook$Letters", "wrongOf", "[I", true)
  | 6 => ("GuideBook$Letters", "size", "I", false)
  | _ => ("GuideBook$Letters", "open", "I", false)
def tyX3 : Nat → FieldType := fun k => match k with
  | 0 => .array .int
  | 1 => .array .int
  | 2 => .array .int
  | 3 => .array .int
  | 4 => .array .int
  | 5 => .array .int
  | 6 => .int
  | _ => .int
abbrev wsX30 : List Cond := u_ws RX3 TX3 8
theorem nmX3 : ∀ a, a < 8 → ∀ b, b < 8 → a ≠ b → (TX3 a).2.1 ≠ (TX3 b).2.1 := by decide +kernel
theorem tyX3_ok : ∀ k, k < 8 → parseFieldDescriptor (TX3 k).2.2.1 = some (tyX3 k) := by decide +kernel
abbrev cX3_init : ByteArray := prog_5_method_1_code
def yX3_init : MethodName := ⟨RX3, "<init>", "()V"⟩
abbrev cX3_has : ByteArray := prog_5_method_2_code
def yX3_has : MethodName := ⟨RX3, "has", "(I)Z"⟩
abbrev cX3_add : ByteArray := prog_5_method_3_code
def yX3_add : MethodName := ⟨RX3, "add", "(III)I"⟩
abbrev cX3_isOpenOn : ByteArray := prog_5_method_4_code
def yX3_isOpenOn : MethodName := ⟨RX3, "isOpenOn", "(II)Z"⟩
abbrev cX3_settle : ByteArray := prog_5_method_5_code
def yX3_settle : MethodName := ⟨RX3, "settle", "(II)V"⟩
abbrev cX3_close : ByteArray := prog_5_method_6_code
def yX3_close : MethodName := ⟨RX3, "close", "(IZ)V"⟩
abbrev cX3_weightOf : ByteArray := prog_5_method_7_code
def yX3_weightOf : MethodName := ⟨RX3, "weightOf", "(I)I"⟩
abbrev cX3_weightFor : ByteArray := prog_5_method_8_code
def yX3_weightFor : MethodName := ⟨RX3, "weightFor", "(II)I"⟩
abbrev cX3_differOn : ByteArray := prog_5_method_9_code
def yX3_differOn : MethodName := ⟨RX3, "differOn", "(I)Z"⟩
def RX4 : String := "GuideBook$Marks"
def TX4 : u_T := fun k => match k with
  | _ => ("GuideBook$Marks", "given", "[[I", true)
def tyX4 : Nat → FieldType := fun k => match k with
  | _ => .array (.array .int)
abbrev wsX40 : List Cond := u_ws RX4 TX4 1
theorem nmX4 : ∀ a, a < 1 → ∀ b, b < 1 → a ≠ b → (TX4 a).2.1 ≠ (TX4 b).2.1 := by decide +kernel
theorem tyX4_ok : ∀ k, k < 1 → parseFieldDescriptor (TX4 k).2.2.1 = some (tyX4 k) := by decide +kernel
abbrev cX4_init : ByteArray := prog_6_method_1_code
def yX4_init : MethodName := ⟨RX4, "<init>", "()V"⟩
abbrev cX4_shiftOf : ByteArray := prog_6_method_2_code
def yX4_shiftOf : MethodName := ⟨RX4, "shiftOf", "(I)I"⟩
abbrev cX4_onScale : ByteArray := prog_6_method_3_code
def yX4_onScale : MethodName := ⟨RX4, "onScale", "(II)I"⟩
abbrev cX4_describe : ByteArray := prog_6_method_4_code
def yX4_describe : MethodName := ⟨RX4, "describe", "(I[I)V"⟩
def RX5 : String := "GuideBook$Parser"
def TX5 : u_T := fun k => match k with
  | 0 => ("GuideBook$Parser", "tokens", "LGuideBook$Tokens;", true)
  | 1 => ("GuideBook$Parser", "draft", "LGuideBook$Script;", true)
  | 2 => ("GuideBook$Parser", "at", "I", false)
  | _ => ("GuideBook$Parser", "fault", "I", false)
def tyX5 : Nat → FieldType := fun k => match k with
  | 0 => .object "GuideBook$Tokens"
  | 1 => .object "GuideBook$Script"
  | 2 => .int
  | _ => .int
abbrev wsX50 : List Cond := u_ws RX5 TX5 4
theorem nmX5 : ∀ a, a < 4 → ∀ b, b < 4 → a ≠ b → (TX5 a).2.1 ≠ (TX5 b).2.1 := by decide +kernel
theorem tyX5_ok : ∀ k, k < 4 → parseFieldDescriptor (TX5 k).2.2.1 = some (tyX5 k) := by decide +kernel
abbrev cX5_init : ByteArray := prog_7_method_1_code
def yX5_init : MethodName := ⟨RX5, "<init>", "()V"⟩
abbrev cX5_parse : ByteArray := prog_7_method_2_code
def yX5_parse : MethodName := ⟨RX5, "parse", "(LGuideBook$Tape;)I"⟩
abbrev cX5_parseLine : ByteArray := prog_7_method_3_code
def yX5_parseLine : MethodName := ⟨RX5, "parseLine", "(I)Z"⟩
abbrev cX5_parseJoined : ByteArray := prog_7_method_4_code
def yX5_parseJoined : MethodName := ⟨RX5, "parseJoined", "(II)Z"⟩
abbrev cX5_parsePart : ByteArray := prog_7_method_5_code
def yX5_parsePart : MethodName := ⟨RX5, "parsePart", "(I)Z"⟩
abbrev cX5_joins : ByteArray := prog_7_method_6_code
def yX5_joins : MethodName := ⟨RX5, "joins", "(I)I"⟩
abbrev cX5_token : ByteArray := prog_7_method_7_code
def yX5_token : MethodName := ⟨RX5, "token", "()I"⟩
abbrev cX5_pass : ByteArray := prog_7_method_8_code
def yX5_pass : MethodName := ⟨RX5, "pass", "(I)Z"⟩
abbrev cX5_refuse : ByteArray := prog_7_method_9_code
def yX5_refuse : MethodName := ⟨RX5, "refuse", "(I)Z"⟩
def RX6 : String := "GuideBook$Script"
def TX6 : u_T := fun k => match k with
  | 0 => ("GuideBook$Script", "code", "[I", true)
  | 1 => ("GuideBook$Script", "endOf", "[I", true)
  | 2 => ("GuideBook$Script", "starsIn", "[I", true)
  | 3 => ("GuideBook$Script", "waiting", "[I", true)
  | 4 => ("GuideBook$Script", "size", "I", false)
  | _ => ("GuideBook$Script", "lines", "I", false)
def tyX6 : Nat → FieldType := fun k => match k with
  | 0 => .array .int
  | 1 => .array .int
  | 2 => .array .int
  | 3 => .array .int
  | 4 => .int
  | _ => .int
abbrev wsX60 : List Cond := u_ws RX6 TX6 6
theorem nmX6 : ∀ a, a < 6 → ∀ b, b < 6 → a ≠ b → (TX6 a).2.1 ≠ (TX6 b).2.1 := by decide +kernel
theorem tyX6_ok : ∀ k, k < 6 → parseFieldDescriptor (TX6 k).2.2.1 = some (tyX6 k) := by decide +kernel
abbrev cX6_init : ByteArray := prog_8_method_1_code
def yX6_init : MethodName := ⟨RX6, "<init>", "()V"⟩
abbrev cX6_clear : ByteArray := prog_8_method_2_code
def yX6_clear : MethodName := ⟨RX6, "clear", "()V"⟩
abbrev cX6_add : ByteArray := prog_8_method_3_code
def yX6_add : MethodName := ⟨RX6, "add", "(I)V"⟩
abbrev cX6_endLine : ByteArray := prog_8_method_4_code
def yX6_endLine : MethodName := ⟨RX6, "endLine", "(I)V"⟩
abbrev cX6_copy : ByteArray := prog_8_method_5_code
def yX6_copy : MethodName := ⟨RX6, "copy", "(LGuideBook$Script;)V"⟩
abbrev cX6_starsFor : ByteArray := prog_8_method_6_code
def yX6_starsFor : MethodName := ⟨RX6, "starsFor", "([I)I"⟩
abbrev cX6_valueOf : ByteArray := prog_8_method_7_code
def yX6_valueOf : MethodName := ⟨RX6, "valueOf", "(II[I)I"⟩
abbrev cX6_joined : ByteArray := prog_8_method_8_code
def yX6_joined : MethodName := ⟨RX6, "joined", "(III)I"⟩
def RX7 : String := "GuideBook$Tape"
def TX7 : u_T := fun k => match k with
  | 0 => ("GuideBook$Tape", "signs", "[B", true)
  | _ => ("GuideBook$Tape", "length", "I", false)
def tyX7 : Nat → FieldType := fun k => match k with
  | 0 => .array .byte
  | _ => .int
abbrev wsX70 : List Cond := u_ws RX7 TX7 2
theorem nmX7 : ∀ a, a < 2 → ∀ b, b < 2 → a ≠ b → (TX7 a).2.1 ≠ (TX7 b).2.1 := by decide +kernel
theorem tyX7_ok : ∀ k, k < 2 → parseFieldDescriptor (TX7 k).2.2.1 = some (tyX7 k) := by decide +kernel
abbrev cX7_init : ByteArray := prog_9_method_1_code
def yX7_init : MethodName := ⟨RX7, "<init>", "()V"⟩
abbrev cX7_appendBytes : ByteArray := prog_9_method_2_code
def yX7_appendBytes : MethodName := ⟨RX7, "appendBytes", "(J)V"⟩
abbrev cX7_append : ByteArray := prog_9_method_3_code
def yX7_append : MethodName := ⟨RX7, "append", "(I)V"⟩
abbrev cX7_isBlank : ByteArray := prog_9_method_4_code
def yX7_isBlank : MethodName := ⟨RX7, "isBlank", "(I)Z"⟩
abbrev cX7_isLetter : ByteArray := prog_9_method_5_code
def yX7_isLetter : MethodName := ⟨RX7, "isLetter", "(I)Z"⟩
abbrev cX7_isDigit : ByteArray := prog_9_method_6_code
def yX7_isDigit : MethodName := ⟨RX7, "isDigit", "(I)Z"⟩
abbrev cX7_endOfLetters : ByteArray := prog_9_method_7_code
def yX7_endOfLetters : MethodName := ⟨RX7, "endOfLetters", "(I)I"⟩
abbrev cX7_endOfDigits : ByteArray := prog_9_method_8_code
def yX7_endOfDigits : MethodName := ⟨RX7, "endOfDigits", "(I)I"⟩
abbrev cX7_spells : ByteArray := prog_9_method_9_code
def yX7_spells : MethodName := ⟨RX7, "spells", "(IILjava/lang/String;)Z"⟩
def RX8 : String := "GuideBook$Tokens"
def TX8 : u_T := fun k => match k with
  | 0 => ("GuideBook$Tokens", "what", "[I", true)
  | 1 => ("GuideBook$Tokens", "where", "[I", true)
  | 2 => ("GuideBook$Tokens", "value", "[I", true)
  | _ => ("GuideBook$Tokens", "size", "I", false)
def tyX8 : Nat → FieldType := fun k => match k with
  | 0 => .array .int
  | 1 => .array .int
  | 2 => .array .int
  | _ => .int
abbrev wsX80 : List Cond := u_ws RX8 TX8 4
theorem nmX8 : ∀ a, a < 4 → ∀ b, b < 4 → a ≠ b → (TX8 a).2.1 ≠ (TX8 b).2.1 := by decide +kernel
theorem tyX8_ok : ∀ k, k < 4 → parseFieldDescriptor (TX8 k).2.2.1 = some (tyX8 k) := by decide +kernel
abbrev cX8_init : ByteArray := prog_10_method_1_code
def yX8_init : MethodName := ⟨RX8, "<init>", "()V"⟩
abbrev cX8_scan : ByteArray := prog_10_method_2_code
def yX8_scan : MethodName := ⟨RX8, "scan", "(LGuideBook$Tape;)V"⟩
abbrev cX8_startsToken : ByteArray := prog_10_method_3_code
def yX8_startsToken : MethodName := ⟨RX8, "startsToken", "(LGuideBook$Tape;I)Z"⟩
abbrev cX8_addFrom : ByteArray := prog_10_method_4_code
def yX8_addFrom : MethodName := ⟨RX8, "addFrom", "(LGuideBook$Tape;I)V"⟩
abbrev cX8_addNumber : ByteArray := prog_10_method_5_code
def yX8_addNumber : MethodName := ⟨RX8, "addNumber", "(LGuideBook$Tape;II)V"⟩
abbrev cX8_add : ByteArray := prog_10_method_6_code
def yX8_add : MethodName := ⟨RX8, "add", "(III)V"⟩
abbrev cX8_signToken : ByteArray := prog_10_method_7_code
def yX8_signToken : MethodName := ⟨RX8, "signToken", "(I)I"⟩
abbrev cX8_wordToken : ByteArray := prog_10_method_8_code
def yX8_wordToken : MethodName := ⟨RX8, "wordToken", "(LGuideBook$Tape;II)I"⟩
def RX9 : String := "GuideBook"
def TX9 : u_T := fun k => match k with
  | 0 => ("GuideBook", "facts", "LGuideBook$Facts;", true)
  | 1 => ("GuideBook", "letters", "LGuideBook$Letters;", true)
  | 2 => ("GuideBook", "marks", "LGuideBook$Marks;", true)
  | 3 => ("GuideBook", "tape", "LGuideBook$Tape;", true)
  | 4 => ("GuideBook", "parser", "LGuideBook$Parser;", true)
  | 5 => ("GuideBook", "script", "LGuideBook$Script;", true)
  | 6 => ("GuideBook", "editions", "LGuideBook$Editions;", true)
  | 7 => ("GuideBook", "bag", "LGuideBook$Bag;", true)
  | 8 => ("GuideBook", "daysOf", "[I", true)
  | 9 => ("GuideBook", "praised", "[Z", true)
  | _ => ("GuideBook", "named", "[I", true)
def tyX9 : Nat → FieldType := fun k => match k with
  | 0 => .object "GuideBook$Facts"
  | 1 => .object "GuideBook$Letters"
  | 2 => .object "GuideBook$Marks"
  | 3 => .object "GuideBook$Tape"
  | 4 => .object "GuideBook$Parser"
  | 5 => .object "GuideBook$Script"
  | 6 => .object "GuideBook$Editions"
  | 7 => .object "GuideBook$Bag"
  | 8 => .array .int
  | 9 => .array .boolean
  | _ => .array .int
abbrev wsX90 : List Cond := u_ws RX9 TX9 11
theorem nmX9 : ∀ a, a < 11 → ∀ b, b < 11 → a ≠ b → (TX9 a).2.1 ≠ (TX9 b).2.1 := by decide +kernel
theorem tyX9_ok : ∀ k, k < 11 → parseFieldDescriptor (TX9 k).2.2.1 = some (tyX9 k) := by decide +kernel
abbrev cX9_init : ByteArray := prog_1_method_1_code
def yX9_init : MethodName := ⟨RX9, "<init>", "()V"⟩
abbrev cX9_years : ByteArray := prog_1_method_2_code
def yX9_years : MethodName := ⟨RX9, "years", "(I)I"⟩
abbrev cX9_fact : ByteArray := prog_1_method_3_code
def yX9_fact : MethodName := ⟨RX9, "fact", "(III)I"⟩
abbrev cX9_line : ByteArray := prog_1_method_4_code
def yX9_line : MethodName := ⟨RX9, "line", "(III)Z"⟩
abbrev cX9_check : ByteArray := prog_1_method_5_code
def yX9_check : MethodName := ⟨RX9, "check", "(II)I"⟩
abbrev cX9_rate : ByteArray := prog_1_method_6_code
def yX9_rate : MethodName := ⟨RX9, "rate", "(I)I"⟩
abbrev cX9_chance : ByteArray := prog_1_method_7_code
def yX9_chance : MethodName := ⟨RX9, "chance", "(I)I"⟩
abbrev cX9_takes : ByteArray := prog_1_method_8_code
def yX9_takes : MethodName := ⟨RX9, "takes", "(II)Z"⟩
abbrev cX9_plan : ByteArray := prog_1_method_9_code
def yX9_plan : MethodName := ⟨RX9, "plan", "(II)I"⟩
abbrev cX9_letter : ByteArray := prog_1_method_10_code
def yX9_letter : MethodName := ⟨RX9, "letter", "(III)I"⟩
abbrev cX9_weight : ByteArray := prog_1_method_11_code
def yX9_weight : MethodName := ⟨RX9, "weight", "(I)I"⟩
abbrev cX9_believed : ByteArray := prog_1_method_12_code
def yX9_believed : MethodName := ⟨RX9, "believed", "(I)I"⟩
abbrev cX9_quarrel : ByteArray := prog_1_method_13_code
def yX9_quarrel : MethodName := ⟨RX9, "quarrel", "(I)I"⟩
abbrev cX9_proof : ByteArray := prog_1_method_14_code
def yX9_proof : MethodName := ⟨RX9, "proof", "(I)I"⟩
abbrev cX9_mark : ByteArray := prog_1_method_15_code
def yX9_mark : MethodName := ⟨RX9, "mark", "(III)Z"⟩
abbrev cX9_shift : ByteArray := prog_1_method_16_code
def yX9_shift : MethodName := ⟨RX9, "shift", "(I)I"⟩
abbrev cX9_paid : ByteArray := prog_1_method_17_code
def yX9_paid : MethodName := ⟨RX9, "paid", "(IZ)Z"⟩
abbrev cX9_feed : ByteArray := prog_1_method_18_code
def yX9_feed : MethodName := ⟨RX9, "feed", "(JJJ)I"⟩
abbrev cX9_text : ByteArray := prog_1_method_19_code
def yX9_text : MethodName := ⟨RX9, "text", "()I"⟩
abbrev cX9_stars : ByteArray := prog_1_method_20_code
def yX9_stars : MethodName := ⟨RX9, "stars", "(I)I"⟩
abbrev cX9_number : ByteArray := prog_1_method_21_code
def yX9_number : MethodName := ⟨RX9, "number", "(II)I"⟩
abbrev cX9_edition : ByteArray := prog_1_method_22_code
def yX9_edition : MethodName := ⟨RX9, "edition", "()I"⟩
abbrev cX9_printed : ByteArray := prog_1_method_23_code
def yX9_printed : MethodName := ⟨RX9, "printed", "(III)I"⟩
abbrev cX9_errors : ByteArray := prog_1_method_24_code
def yX9_errors : MethodName := ⟨RX9, "errors", "(II)I"⟩
abbrev cX9_count : ByteArray := prog_1_method_25_code
def yX9_count : MethodName := ⟨RX9, "count", "(I)I"⟩
abbrev cX9_look : ByteArray := prog_1_method_26_code
def yX9_look : MethodName := ⟨RX9, "look", "(II)I"⟩
abbrev cX9_within : ByteArray := prog_1_method_27_code
def yX9_within : MethodName := ⟨RX9, "within", "(II)Z"⟩
abbrev cX9_isKind : ByteArray := prog_1_method_28_code
def yX9_isKind : MethodName := ⟨RX9, "isKind", "(I)Z"⟩
abbrev cX9_isPlace : ByteArray := prog_1_method_29_code
def yX9_isPlace : MethodName := ⟨RX9, "isPlace", "(I)Z"⟩
abbrev cX9_isReader : ByteArray := prog_1_method_30_code
def yX9_isReader : MethodName := ⟨RX9, "isReader", "(I)Z"⟩
abbrev cX9_isWalker : ByteArray := prog_1_method_31_code
def yX9_isWalker : MethodName := ⟨RX9, "isWalker", "(I)Z"⟩
abbrev cX9_isValue : ByteArray := prog_1_method_32_code
def yX9_isValue : MethodName := ⟨RX9, "isValue", "(I)Z"⟩
abbrev cX9_isName : ByteArray := prog_1_method_33_code
def yX9_isName : MethodName := ⟨RX9, "isName", "(I)Z"⟩
abbrev cX9_placesFor : ByteArray := prog_1_method_34_code
def yX9_placesFor : MethodName := ⟨RX9, "placesFor", "(I)J"⟩
abbrev cX9_doubtOfSet : ByteArray := prog_1_method_35_code
def yX9_doubtOfSet : MethodName := ⟨RX9, "doubtOfSet", "(J)I"⟩
abbrev cX9_linesKept : ByteArray := prog_1_method_36_code
def yX9_linesKept : MethodName := ⟨RX9, "linesKept", "(II)J"⟩
abbrev cX9_beliefOf : ByteArray := prog_1_method_37_code
def yX9_beliefOf : MethodName := ⟨RX9, "beliefOf", "(I)I"⟩
abbrev cX9_starsOf : ByteArray := prog_1_method_38_code
def yX9_starsOf : MethodName := ⟨RX9, "starsOf", "(I)I"⟩
def RX10 : String := "GuideBookModel"
def TX10 : u_T := fun k => match k with
  | 0 => ("GuideBookModel", "thrown", "I", false)
  | 1 => ("GuideBookModel", "tape", "[I", true)
  | 2 => ("GuideBookModel", "taped", "I", false)
  | 3 => ("GuideBookModel", "size", "I", false)
  | 4 => ("GuideBookModel", "sort", "[I", true)
  | 5 => ("GuideBookModel", "place", "[I", true)
  | 6 => ("GuideBookModel", "value", "[J", true)
  | 7 => ("GuideBookModel", "at", "I", false)
  | 8 => ("GuideBookModel", "fault", "I", false)
  | 9 => ("GuideBookModel", "words", "[J", true)
  | 10 => ("GuideBookModel", "lines", "[I", true)
  | 11 => ("GuideBookModel", "lineN", "[I", true)
  | 12 => ("GuideBookModel", "lineAt", "[I", true)
  | 13 => ("GuideBookModel", "op", "[I", true)
  | 14 => ("GuideBookModel", "one", "[I", true)
  | 15 => ("GuideBookModel", "holds", "I", false)
  | 16 => ("GuideBookModel", "next", "I", false)
  | 17 => ("GuideBookModel", "codes", "I", false)
  | 18 => ("GuideBookModel", "deep", "I", false)
  | 19 => ("GuideBookModel", "sumWaits", "[I", true)
  | 20 => ("GuideBookModel", "signWaits", "[I", true)
  | 21 => ("GuideBookModel", "andWaits", "[I", true)
  | 22 => ("GuideBookModel", "known", "[I", true)
  | 23 => ("GuideBookModel", "pile", "[I", true)
  | 24 => ("GuideBookModel", "now", "I", false)
  | 25 => ("GuideBookModel", "facts", "I", false)
  | 26 => ("GuideBookModel", "kindOf", "[I", true)
  | 27 => ("GuideBookModel", "placeOf", "[I", true)
  | 28 => ("GuideBookModel", "worthNow", "[I", true)
  | 29 => ("GuideBookModel", "checkedOn", "[I", true)
  | 30 => ("GuideBookModel", "lengths", "[I", true)
  | 31 => ("GuideBookModel", "worths", "[I", true)
  | 32 => ("GuideBookModel", "kindYears", "[I", true)
  | 33 => ("GuideBookModel", "kindChanges", "[I", true)
  | 34 => ("GuideBookModel", "takes", "[I", true)
  | 35 => ("GuideBookModel", "doubt", "[J", true)
  | 36 => ("GuideBookModel", "letters", "I", false)
  | 37 => ("GuideBookModel", "readers", "[I", true)
  | 38 => ("GuideBookModel", "about", "[I", true)
  | 39 => ("GuideBookModel", "says", "[I", true)
  | 40 => ("GuideBookModel", "proofs", "[I", true)
  | 41 => ("GuideBookModel", "marks", "[I", true)
  | 42 => ("GuideBookModel", "isPaid", "[Z", true)
  | 43 => ("GuideBookModel", "many", "I", false)
  | 44 => ("GuideBookModel", "onPage", "[I", true)
  | 45 => ("GuideBookModel", "most", "[I", true)
  | 46 => ("GuideBookModel", "used", "[I", true)
  | 47 => ("GuideBookModel", "editions", "I", false)
  | 48 => ("GuideBookModel", "asPrinted", "[I", true)
  | 49 => ("GuideBookModel", "proved", "[I", true)
  | _ => ("GuideBookModel", "starred", "[I", true)
def tyX10 : Nat → FieldType := fun k => match k with
  | 0 => .int
  | 1 => .array .int
  | 2 => .int
  | 3 => .int
  | 4 => .array .int
  | 5 => .array .int
  | 6 => .array .long
  | 7 => .int
  | 8 => .int
  | 9 => .array .long
  | 10 => .array .int
  | 11 => .array .int
  | 12 => .array .int
  | 13 => .array .int
  | 14 => .array .int
  | 15 => .int
  | 16 => .int
  | 17 => .int
  | 18 => .int
  | 19 => .array .int
  | 20 => .array .int
  | 21 => .array .int
  | 22 => .array .int
  | 23 => .array .int
  | 24 => .int
  | 25 => .int
  | 26 => .array .int
  | 27 => .array .int
  | 28 => .array .int
  | 29 => .array .int
  | 30 => .array .int
  | 31 => .array .int
  | 32 => .array .int
  | 33 => .array .int
  | 34 => .array .int
  | 35 => .array .long
  | 36 => .int
  | 37 => .array .int
  | 38 => .array .int
  | 39 => .array .int
  | 40 => .array .int
  | 41 => .array .int
  | 42 => .array .boolean
  | 43 => .int
  | 44 => .array .int
  | 45 => .array .int
  | 46 => .array .int
  | 47 => .int
  | 48 => .array .int
  | 49 => .array .int
  | _ => .array .int
abbrev wsX100 : List Cond := u_ws RX10 TX10 51
theorem nmX10 : ∀ a, a < 51 → ∀ b, b < 51 → a ≠ b → (TX10 a).2.1 ≠ (TX10 b).2.1 := by decide +kernel
theorem tyX10_ok : ∀ k, k < 51 → parseFieldDescriptor (TX10 k).2.2.1 = some (tyX10 k) := by decide +kernel
abbrev cX10_thrown : ByteArray := prog_12_method_1_code
def yX10_thrown : MethodName := ⟨RX10, "thrown", "()I"⟩
abbrev cX10_feed : ByteArray := prog_12_method_2_code
def yX10_feed : MethodName := ⟨RX10, "feed", "(JJJ)I"⟩
abbrev cX10_lay : ByteArray := prog_12_method_3_code
def yX10_lay : MethodName := ⟨RX10, "lay", "(J)V"⟩
abbrev cX10_init : ByteArray := prog_12_method_4_code
def yX10_init : MethodName := ⟨RX10, "<init>", "()V"⟩
abbrev cX10_isLetter : ByteArray := prog_12_method_5_code
def yX10_isLetter : MethodName := ⟨RX10, "isLetter", "(I)Z"⟩
abbrev cX10_isDigit : ByteArray := prog_12_method_6_code
def yX10_isDigit : MethodName := ⟨RX10, "isDigit", "(I)Z"⟩
abbrev cX10_rank : ByteArray := prog_12_method_7_code
def yX10_rank : MethodName := ⟨RX10, "rank", "(I)I"⟩
abbrev cX10_isSignOf : ByteArray := prog_12_method_8_code
def yX10_isSignOf : MethodName := ⟨RX10, "isSignOf", "(I)Z"⟩
abbrev cX10_cutAll : ByteArray := prog_12_method_9_code
def yX10_cutAll : MethodName := ⟨RX10, "cutAll", "()V"⟩
abbrev cX10_wrong : ByteArray := prog_12_method_10_code
def yX10_wrong : MethodName := ⟨RX10, "wrong", "(I)V"⟩
abbrev cX10_isSign : ByteArray := prog_12_method_11_code
def yX10_isSign : MethodName := ⟨RX10, "isSign", "(I)Z"⟩
abbrev cX10_isWord : ByteArray := prog_12_method_12_code
def yX10_isWord : MethodName := ⟨RX10, "isWord", "(I)Z"⟩
abbrev cX10_takeSign : ByteArray := prog_12_method_13_code
def yX10_takeSign : MethodName := ⟨RX10, "takeSign", "(I)V"⟩
abbrev cX10_hasSign : ByteArray := prog_12_method_14_code
def yX10_hasSign : MethodName := ⟨RX10, "hasSign", "(I)Z"⟩
abbrev cX10_hasWord : ByteArray := prog_12_method_15_code
def yX10_hasWord : MethodName := ⟨RX10, "hasWord", "(I)Z"⟩
abbrev cX10_takeWord : ByteArray := prog_12_method_16_code
def yX10_takeWord : MethodName := ⟨RX10, "takeWord", "(I)V"⟩
abbrev cX10_emit : ByteArray := prog_12_method_17_code
def yX10_emit : MethodName := ⟨RX10, "emit", "(II)V"⟩
abbrev cX10_text : ByteArray := prog_12_method_18_code
def yX10_text : MethodName := ⟨RX10, "text", "()I"⟩
abbrev cX10_line : ByteArray := prog_12_method_19_code
def yX10_line : MethodName := ⟨RX10, "line", "()V"⟩
abbrev cX10_opens : ByteArray := prog_12_method_20_code
def yX10_opens : MethodName := ⟨RX10, "opens", "()V"⟩
abbrev cX10_partWord : ByteArray := prog_12_method_21_code
def yX10_partWord : MethodName := ⟨RX10, "partWord", "()I"⟩
abbrev cX10_part : ByteArray := prog_12_method_22_code
def yX10_part : MethodName := ⟨RX10, "part", "()Z"⟩
abbrev cX10_goesOnBehind : ByteArray := prog_12_method_23_code
def yX10_goesOnBehind : MethodName := ⟨RX10, "goesOnBehind", "()Z"⟩
abbrev cX10_worth : ByteArray := prog_12_method_24_code
def yX10_worth : MethodName := ⟨RX10, "worth", "(I)I"⟩
abbrev cX10_years : ByteArray := prog_12_method_25_code
def yX10_years : MethodName := ⟨RX10, "years", "(I)I"⟩
abbrev cX10_isPlace : ByteArray := prog_12_method_26_code
def yX10_isPlace : MethodName := ⟨RX10, "isPlace", "(I)Z"⟩
abbrev cX10_isValue : ByteArray := prog_12_method_27_code
def yX10_isValue : MethodName := ⟨RX10, "isValue", "(I)Z"⟩
abbrev cX10_fact : ByteArray := prog_12_method_28_code
def yX10_fact : MethodName := ⟨RX10, "fact", "(III)I"⟩
abbrev cX10_isFact : ByteArray := prog_12_method_29_code
def yX10_isFact : MethodName := ⟨RX10, "isFact", "(I)Z"⟩
abbrev cX10_line_ : ByteArray := prog_12_method_30_code
def yX10_line_ : MethodName := ⟨RX10, "line", "(III)Z"⟩
abbrev cX10_rateOf : ByteArray := prog_12_method_31_code
def yX10_rateOf : MethodName := ⟨RX10, "rateOf", "(I)I"⟩
abbrev cX10_chanceOf : ByteArray := prog_12_method_32_code
def yX10_chanceOf : MethodName := ⟨RX10, "chanceOf", "(I)I"⟩
abbrev cX10_rate : ByteArray := prog_12_method_33_code
def yX10_rate : MethodName := ⟨RX10, "rate", "(I)I"⟩
abbrev cX10_chance : ByteArray := prog_12_method_34_code
def yX10_chance : MethodName := ⟨RX10, "chance", "(I)I"⟩
abbrev cX10_check : ByteArray := prog_12_method_35_code
def yX10_check : MethodName := ⟨RX10, "check", "(II)I"⟩
abbrev cX10_takes : ByteArray := prog_12_method_36_code
def yX10_takes : MethodName := ⟨RX10, "takes", "(II)Z"⟩
abbrev cX10_daysOf : ByteArray := prog_12_method_37_code
def yX10_daysOf : MethodName := ⟨RX10, "daysOf", "(I)I"⟩
abbrev cX10_doubtOf : ByteArray := prog_12_method_38_code
def yX10_doubtOf : MethodName := ⟨RX10, "doubtOf", "(I)J"⟩
abbrev cX10_plan : ByteArray := prog_12_method_39_code
def yX10_plan : MethodName := ⟨RX10, "plan", "(II)I"⟩
abbrev cX10_letter : ByteArray := prog_12_method_40_code
def yX10_letter : MethodName := ⟨RX10, "letter", "(III)I"⟩
abbrev cX10_weightOf : ByteArray := prog_12_method_41_code
def yX10_weightOf : MethodName := ⟨RX10, "weightOf", "(I)I"⟩
abbrev cX10_weight : ByteArray := prog_12_method_42_code
def yX10_weight : MethodName := ⟨RX10, "weight", "(I)I"⟩
abbrev cX10_isOpen : ByteArray := prog_12_method_43_code
def yX10_isOpen : MethodName := ⟨RX10, "isOpen", "(II)Z"⟩
abbrev cX10_heard : ByteArray := prog_12_method_44_code
def yX10_heard : MethodName := ⟨RX10, "heard", "(II)I"⟩
abbrev cX10_believes : ByteArray := prog_12_method_45_code
def yX10_believes : MethodName := ⟨RX10, "believes", "(I)I"⟩
abbrev cX10_believed : ByteArray := prog_12_method_46_code
def yX10_believed : MethodName := ⟨RX10, "believed", "(I)I"⟩
abbrev cX10_quarrel : ByteArray := prog_12_method_47_code
def yX10_quarrel : MethodName := ⟨RX10, "quarrel", "(I)I"⟩
abbrev cX10_proof : ByteArray := prog_12_method_48_code
def yX10_proof : MethodName := ⟨RX10, "proof", "(I)I"⟩
abbrev cX10_mark : ByteArray := prog_12_method_49_code
def yX10_mark : MethodName := ⟨RX10, "mark", "(III)Z"⟩
abbrev cX10_shiftOf : ByteArray := prog_12_method_50_code
def yX10_shiftOf : MethodName := ⟨RX10, "shiftOf", "(I)I"⟩
abbrev cX10_shift : ByteArray := prog_12_method_51_code
def yX10_shift : MethodName := ⟨RX10, "shift", "(I)I"⟩
abbrev cX10_paid : ByteArray := prog_12_method_52_code
def yX10_paid : MethodName := ⟨RX10, "paid", "(IZ)Z"⟩
abbrev cX10_starsOf : ByteArray := prog_12_method_53_code
def yX10_starsOf : MethodName := ⟨RX10, "starsOf", "(I)I"⟩
abbrev cX10_stars : ByteArray := prog_12_method_54_code
def yX10_stars : MethodName := ⟨RX10, "stars", "(I)I"⟩
abbrev cX10_laysOut : ByteArray := prog_12_method_55_code
def yX10_laysOut : MethodName := ⟨RX10, "laysOut", "(I)V"⟩
abbrev cX10_isWith : ByteArray := prog_12_method_56_code
def yX10_isWith : MethodName := ⟨RX10, "isWith", "(II)Z"⟩
abbrev cX10_number : ByteArray := prog_12_method_57_code
def yX10_number : MethodName := ⟨RX10, "number", "(II)I"⟩
abbrev cX10_edition : ByteArray := prog_12_method_58_code
def yX10_edition : MethodName := ⟨RX10, "edition", "()I"⟩
abbrev cX10_proves : ByteArray := prog_12_method_59_code
def yX10_proves : MethodName := ⟨RX10, "proves", "(II)V"⟩
abbrev cX10_printed : ByteArray := prog_12_method_60_code
def yX10_printed : MethodName := ⟨RX10, "printed", "(III)I"⟩
abbrev cX10_errors : ByteArray := prog_12_method_61_code
def yX10_errors : MethodName := ⟨RX10, "errors", "(II)I"⟩
abbrev cX10_count : ByteArray := prog_12_method_62_code
def yX10_count : MethodName := ⟨RX10, "count", "(I)I"⟩
abbrev cX10_look : ByteArray := prog_12_method_63_code
def yX10_look : MethodName := ⟨RX10, "look", "(II)I"⟩
def RJ13 : String := "java/lang/Long"
def TJ13 : u_T := fun k => match k with
  | _ => ("", "", "", false)
def tyJ13 : Nat → FieldType := fun k => match k with
  | _ => .int
abbrev wsJ130 : List Cond := u_ws RJ13 TJ13 0
theorem nmJ13 : ∀ a, a < 0 → ∀ b, b < 0 → a ≠ b → (TJ13 a).2.1 ≠ (TJ13 b).2.1 := by decide +kernel
theorem tyJ13_ok : ∀ k, k < 0 → parseFieldDescriptor (TJ13 k).2.2.1 = some (tyJ13 k) := by decide +kernel
abbrev cJ13_bitCount_95d88 : ByteArray := prog_14_method_50_code
def yJ13_bitCount_95d88 : MethodName := ⟨RJ13, "bitCount", "(J)I"⟩
def RJ9 : String := "java/lang/Math"
def TJ9 : u_T := fun k => match k with
  | _ => ("", "", "", false)
def tyJ9 : Nat → FieldType := fun k => match k with
  | _ => .int
abbrev wsJ90 : List Cond := u_ws RJ9 TJ9 0
theorem nmJ9 : ∀ a, a < 0 → ∀ b, b < 0 → a ≠ b → (TJ9 a).2.1 ≠ (TJ9 b).2.1 := by decide +kernel
theorem tyJ9_ok : ∀ k, k < 0 → parseFieldDescriptor (TJ9 k).2.2.1 = some (tyJ9 k) := by decide +kernel
abbrev cJ9_max_7cf53 : ByteArray := prog_15_method_65_code
def yJ9_max_7cf53 : MethodName := ⟨RJ9, "max", "(II)I"⟩
abbrev cJ9_min_7cf53 : ByteArray := prog_15_method_69_code
def yJ9_min_7cf53 : MethodName := ⟨RJ9, "min", "(II)I"⟩
def RJ0 : String := "java/lang/String"
def TJ0 : u_T := fun k => match k with
  | _ => ("", "", "", false)
def tyJ0 : Nat → FieldType := fun k => match k with
  | _ => .int
abbrev wsJ00 : List Cond := u_ws RJ0 TJ0 0
theorem nmJ0 : ∀ a, a < 0 → ∀ b, b < 0 → a ≠ b → (TJ0 a).2.1 ≠ (TJ0 b).2.1 := by decide +kernel
theorem tyJ0_ok : ∀ k, k < 0 → parseFieldDescriptor (TJ0 k).2.2.1 = some (tyJ0 k) := by decide +kernel
abbrev cJ0_length_8abf5 : ByteArray := prog_17_method_54_code
def yJ0_length_8abf5 : MethodName := ⟨RJ0, "length", "()I"⟩
abbrev cJ0_charAt_5068e : ByteArray := prog_17_method_56_code
def yJ0_charAt_5068e : MethodName := ⟨RJ0, "charAt", "(I)C"⟩
abbrev cJ0_coder_7d493 : ByteArray := prog_17_method_152_code
def yJ0_coder_7d493 : MethodName := ⟨RJ0, "coder", "()B"⟩
abbrev cJ0_isLatin1_aae02 : ByteArray := prog_17_method_154_code
def yJ0_isLatin1_aae02 : MethodName := ⟨RJ0, "isLatin1", "()Z"⟩
abbrev cJ0_checkIndex_df160 : ByteArray := prog_17_method_155_code
def yJ0_checkIndex_df160 : MethodName := ⟨RJ0, "checkIndex", "(II)V"⟩
def RJ1 : String := "java/lang/StringLatin1"
def TJ1 : u_T := fun k => match k with
  | _ => ("", "", "", false)
def tyJ1 : Nat → FieldType := fun k => match k with
  | _ => .int
abbrev wsJ10 : List Cond := u_ws RJ1 TJ1 0
theorem nmJ1 : ∀ a, a < 0 → ∀ b, b < 0 → a ≠ b → (TJ1 a).2.1 ≠ (TJ1 b).2.1 := by decide +kernel
theorem tyJ1_ok : ∀ k, k < 0 → parseFieldDescriptor (TJ1 k).2.2.1 = some (tyJ1 k) := by decide +kernel
abbrev cJ1_charAt_3b067 : ByteArray := prog_18_method_2_code
def yJ1_charAt_3b067 : MethodName := ⟨RJ1, "charAt", "([BI)C"⟩
def RJ2 : String := "java/lang/StringUTF16"
def TJ2 : u_T := fun k => match k with
  | _ => ("", "", "", false)
def tyJ2 : Nat → FieldType := fun k => match k with
  | _ => .int
abbrev wsJ20 : List Cond := u_ws RJ2 TJ2 0
theorem nmJ2 : ∀ a, a < 0 → ∀ b, b < 0 → a ≠ b → (TJ2 a).2.1 ≠ (TJ2 b).2.1 := by decide +kernel
theorem tyJ2_ok : ∀ k, k < 0 → parseFieldDescriptor (TJ2 k).2.2.1 = some (tyJ2 k) := by decide +kernel
abbrev cJ2_getChar_3b067 : ByteArray := prog_19_method_5_code
def yJ2_getChar_3b067 : MethodName := ⟨RJ2, "getChar", "([BI)C"⟩
abbrev cJ2_length_9d52b : ByteArray := prog_19_method_6_code
def yJ2_length_9d52b : MethodName := ⟨RJ2, "length", "([B)I"⟩
abbrev cJ2_charAt_3b067 : ByteArray := prog_19_method_83_code
def yJ2_charAt_3b067 : MethodName := ⟨RJ2, "charAt", "([BI)C"⟩
abbrev cJ2_checkIndex_2214a : ByteArray := prog_19_method_91_code
def yJ2_checkIndex_2214a : MethodName := ⟨RJ2, "checkIndex", "(I[B)V"⟩
def RJ10 : String := "java/lang/System"
def TJ10 : u_T := fun k => match k with
  | _ => ("", "", "", false)
def tyJ10 : Nat → FieldType := fun k => match k with
  | _ => .int
abbrev wsJ100 : List Cond := u_ws RJ10 TJ10 0
theorem nmJ10 : ∀ a, a < 0 → ∀ b, b < 0 → a ≠ b → (TJ10 a).2.1 ≠ (TJ10 b).2.1 := by decide +kernel
theorem tyJ10_ok : ∀ k, k < 0 → parseFieldDescriptor (TJ10 k).2.2.1 = some (tyJ10 k) := by decide +kernel
def RJ7 : String := "java/util/Arrays"
def TJ7 : u_T := fun k => match k with
  | _ => ("", "", "", false)
def tyJ7 : Nat → FieldType := fun k => match k with
  | _ => .int
abbrev wsJ70 : List Cond := u_ws RJ7 TJ7 0
theorem nmJ7 : ∀ a, a < 0 → ∀ b, b < 0 → a ≠ b → (TJ7 a).2.1 ≠ (TJ7 b).2.1 := by decide +kernel
theorem tyJ7_ok : ∀ k, k < 0 → parseFieldDescriptor (TJ7 k).2.2.1 = some (tyJ7 k) := by decide +kernel
abbrev cJ7_fill_d0a16 : ByteArray := prog_22_method_101_code
def yJ7_fill_d0a16 : MethodName := ⟨RJ7, "fill", "([JJ)V"⟩
abbrev cJ7_fill_53178 : ByteArray := prog_22_method_103_code
def yJ7_fill_53178 : MethodName := ⟨RJ7, "fill", "([II)V"⟩
def RJ3 : String := "jdk/internal/util/Preconditions"
def TJ3 : u_T := fun k => match k with
  | _ => ("", "", "", false)
def tyJ3 : Nat → FieldType := fun k => match k with
  | _ => .int
abbrev wsJ30 : List Cond := u_ws RJ3 TJ3 0
theorem nmJ3 : ∀ a, a < 0 → ∀ b, b < 0 → a ≠ b → (TJ3 a).2.1 ≠ (TJ3 b).2.1 := by decide +kernel
theorem tyJ3_ok : ∀ k, k < 0 → parseFieldDescriptor (TJ3 k).2.2.1 = some (tyJ3 k) := by decide +kernel
abbrev cJ3_checkIndex_8e157 : ByteArray := prog_24_method_11_code
def yJ3_checkIndex_8e157 : MethodName := ⟨RJ3, "checkIndex", "(IILjava/util/function/BiFunction;)I"⟩
def RL : String := "GuideBookLaw"
abbrev cL_shift : ByteArray := method_3_code
def yL_shift : MethodName := ⟨RL, "shift", "(LGuideBook;I[J)I"⟩
abbrev cL_look : ByteArray := method_4_code
def yL_look : MethodName := ⟨RL, "look", "(LGuideBook;II[J)I"⟩
abbrev cL_law : ByteArray := code
def yL_law : MethodName := ⟨RL, "law", "([I)Z"⟩
abbrev vwCl : List vw_C := [(RX0, TX0, 3), (RX1, TX1, 5), (RX2, TX2, 10), (RX3, TX3, 8), (RX4, TX4, 1), (RX5, TX5, 4), (RX6, TX6, 6), (RX7, TX7, 2), (RX8, TX8, 4), (RX9, TX9, 11), (RX10, TX10, 51)]
theorem inX0 : ∀ w ∈ u_ws RX0 TX0 3, w ∈ lw_tbl := by decide +kernel
theorem inX1 : ∀ w ∈ u_ws RX1 TX1 5, w ∈ lw_tbl := by decide +kernel
theorem inX2 : ∀ w ∈ u_ws RX2 TX2 10, w ∈ lw_tbl := by decide +kernel
theorem inX3 : ∀ w ∈ u_ws RX3 TX3 8, w ∈ lw_tbl := by decide +kernel
theorem inX4 : ∀ w ∈ u_ws RX4 TX4 1, w ∈ lw_tbl := by decide +kernel
theorem inX5 : ∀ w ∈ u_ws RX5 TX5 4, w ∈ lw_tbl := by decide +kernel
theorem inX6 : ∀ w ∈ u_ws RX6 TX6 6, w ∈ lw_tbl := by decide +kernel
theorem inX7 : ∀ w ∈ u_ws RX7 TX7 2, w ∈ lw_tbl := by decide +kernel
theorem inX8 : ∀ w ∈ u_ws RX8 TX8 4, w ∈ lw_tbl := by decide +kernel
theorem inX9 : ∀ w ∈ u_ws RX9 TX9 11, w ∈ lw_tbl := by decide +kernel
theorem inX10 : ∀ w ∈ u_ws RX10 TX10 51, w ∈ lw_tbl := by decide +kernel
end
section
theorem dX0_init_0 : decode cX0_init 0 = .ok (.aload_n 0, 1) := by decide +kernel
theorem dX0_init_1 : decode cX0_init 1 = .ok (.invokespecial 3, 3) := by decide +kernel
theorem dX0_init_4 : decode cX0_init 4 = .ok (.aload_n 0, 1) := by decide +kernel
theorem dX0_init_5 : decode cX0_init 5 = .ok (.bipush 100, 2) := by decide +kernel
theorem dX0_init_7 : decode cX0_init 7 = .ok (.newarray .long, 2) := by decide +kernel
theorem dX0_init_9 : decode cX0_init 9 = .ok (.putfield 9, 3) := by decide +kernel
theorem dX0_init_12 : decode cX0_init 12 = .ok (.aload_n 0, 1) := by decide +kernel
theorem dX0_init_13 : decode cX0_init 13 = .ok (.bipush 100, 2) := by decide +kernel
theorem dX0_init_15 : decode cX0_init 15 = .ok (.newarray .long, 2) := by decide +kernel
theorem dX0_init_17 : decode cX0_init 17 = .ok (.putfield 15, 3) := by decide +kernel
theorem dX0_init_20 : decode cX0_init 20 = .ok (.return_, 1) := by decide +kernel
theorem dX0_open_0 : decode cX0_open 0 = .ok (.aload_n 0, 1) := by decide +kernel
theorem dX0_open_1 : decode cX0_open 1 = .ok (.iload_n 1, 1) := by decide +kernel
theorem dX0_open_2 : decode cX0_open 2 = .ok (.putfield 18, 3) := by decide +kernel
theorem dX0_open_5 : decode cX0_open 5 = .ok (.aload_n 0, 1) := by decide +kernel
theorem dX0_open_6 : decode cX0_open 6 = .ok (.getfield 9, 3) := by decide +kernel
theorem dX0_open_9 : decode cX0_open 9 = .ok (.lconst 0, 1) := by decide +kernel
theorem dX0_open_10 : decode cX0_open 10 = .ok (.invokestatic 22, 3) := by decide +kernel
theorem dX0_open_13 : decode cX0_open 13 = .ok (.aload_n 0, 1) := by decide +kernel
theorem dX0_open_14 : decode cX0_open 14 = .ok (.getfield 15, 3) := by decide +kernel
theorem dX0_open_17 : decode cX0_open 17 = .ok (.lconst 0, 1) := by decide +kernel
theorem dX0_open_18 : decode cX0_open 18 = .ok (.invokestatic 22, 3) := by decide +kernel
theorem dX0_open_21 : decode cX0_open 21 = .ok (.return_, 1) := by decide +kernel
theorem dX0_offer_0 : decode cX0_offer 0 = .ok (.iload_n 3, 1) := by decide +kernel
theorem dX0_offer_1 : decode cX0_offer 1 = .ok (.i2l, 1) := by decide +kernel
theorem dX0_offer_2 : decode cX0_offer 2 = .ok (.ldc2_w 28, 3) := by decide +kernel
theorem dX0_offer_5 : decode cX0_offer 5 = .ok (.lmul, 1) := by decide +kernel
theorem dX0_offer_6 : decode cX0_offer 6 = .ok (.iload_n 2, 1) := by decide +kernel
theorem dX0_offer_7 : decode cX0_offer 7 = .ok (.i2l, 1) := by decide +kernel
theorem dX0_offer_8 : decode cX0_offer 8 = .ok (.lsub, 1) := by decide +kernel
theorem dX0_offer_9 : decode cX0_offer 9 = .ok (.lstore 5, 2) := by decide +kernel
theorem dX0_offer_11 : decode cX0_offer 11 = .ok (.aload_n 0, 1) := by decide +kernel
theorem dX0_offer_12 : decode cX0_offer 12 = .ok (.getfield 18, 3) := by decide +kernel
theorem dX0_offer_15 : decode cX0_offer 15 = .ok (.istore 7, 2) := by decide +kernel
theorem dX0_offer_17 : decode cX0_offer 17 = .ok (.iload 7, 2) := by decide +kernel
theorem dX0_offer_19 : decode cX0_offer 19 = .ok (.iload_n 2, 1) := by decide +kernel
theorem dX0_offer_20 : decode cX0_offer 20 = .ok (.if_icmp .lt 83, 3) := by decide +kernel
theorem dX0_offer_23 : decode cX0_offer 23 = .ok (.aload_n 0, 1) := by decide +kernel
theorem dX0_offer_24 : decode cX0_offer 24 = .ok (.getfield 9, 3) := by decide +kernel
theorem dX0_offer_27 : decode cX0_offer 27 = .ok (.iload 7, 2) := by decide +kernel
theorem dX0_offer_29 : decode cX0_offer 29 = .ok (.iload_n 2, 1) := by decide +kernel
theorem dX0_offer_30 : decode cX0_offer 30 = .ok (.isub, 1) := by decide +kernel
theorem dX0_offer_31 : decode cX0_offer 31 = .ok (.laload, 1) := by decide +kernel
theorem dX0_offer_32 : decode cX0_offer 32 = .ok (.lload 5, 2) := by decide +kernel
theorem dX0_offer_34 : decode cX0_offer 34 = .ok (.ladd, 1) := by decide +kernel
theorem dX0_offer_35 : decode cX0_offer 35 = .ok (.lstore 8, 2) := by decide +kernel
theorem dX0_offer_37 : decode cX0_offer 37 = .ok (.lload 8, 2) := by decide +kernel
theorem dX0_offer_39 : decode cX0_offer 39 = .ok (.aload_n 0, 1) := by decide +kernel
theorem dX0_offer_40 : decode cX0_offer 40 = .ok (.getfield 9, 3) := by decide +kernel
theorem dX0_offer_43 : decode cX0_offer 43 = .ok (.iload 7, 2) := by decide +kernel
theorem dX0_offer_45 : decode cX0_offer 45 = .ok (.laload, 1) := by decide +kernel
theorem dX0_offer_46 : decode cX0_offer 46 = .ok (.lcmp, 1) := by decide +kernel
theorem dX0_offer_47 : decode cX0_offer 47 = .ok (.ifCond .gt 21, 3) := by decide +kernel
theorem dX0_offer_50 : decode cX0_offer 50 = .ok (.iload 4, 2) := by decide +kernel
theorem dX0_offer_52 : decode cX0_offer 52 = .ok (.ifCond .eq 45, 3) := by decide +kernel
theorem dX0_offer_55 : decode cX0_offer 55 = .ok (.lload 8, 2) := by decide +kernel
theorem dX0_offer_57 : decode cX0_offer 57 = .ok (.aload_n 0, 1) := by decide +kernel
theorem dX0_offer_58 : decode cX0_offer 58 = .ok (.getfield 9, 3) := by decide +kernel
theorem dX0_offer_61 : decode cX0_offer 61 = .ok (.iload 7, 2) := by decide +kernel
theorem dX0_offer_63 : decode cX0_offer 63 = .ok (.laload, 1) := by decide +kernel
theorem dX0_offer_64 : decode cX0_offer 64 = .ok (.lcmp, 1) := by decide +kernel
theorem dX0_offer_65 : decode cX0_offer 65 = .ok (.ifCond .ne 32, 3) := by decide +kernel
theorem dX0_offer_68 : decode cX0_offer 68 = .ok (.aload_n 0, 1) := by decide +kernel
theorem dX0_offer_69 : decode cX0_offer 69 = .ok (.getfield 9, 3) := by decide +kernel
theorem dX0_offer_72 : decode cX0_offer 72 = .ok (.iload 7, 2) := by decide +kernel
theorem dX0_offer_74 : decode cX0_offer 74 = .ok (.lload 8, 2) := by decide +kernel
theorem dX0_offer_76 : decode cX0_offer 76 = .ok (.lastore, 1) := by decide +kernel
theorem dX0_offer_77 : decode cX0_offer 77 = .ok (.aload_n 0, 1) := by decide +kernel
theorem dX0_offer_78 : decode cX0_offer 78 = .ok (.getfield 15, 3) := by decide +kernel
theorem dX0_offer_81 : decode cX0_offer 81 = .ok (.iload 7, 2) := by decide +kernel
theorem dX0_offer_83 : decode cX0_offer 83 = .ok (.aload_n 0, 1) := by decide +kernel
theorem dX0_offer_84 : decode cX0_offer 84 = .ok (.getfield 15, 3) := by decide +kernel
theorem dX0_offer_87 : decode cX0_offer 87 = .ok (.iload 7, 2) := by decide +kernel
theorem dX0_offer_89 : decode cX0_offer 89 = .ok (.iload_n 2, 1) := by decide +kernel
theorem dX0_offer_90 : decode cX0_offer 90 = .ok (.isub, 1) := by decide +kernel
theorem dX0_offer_91 : decode cX0_offer 91 = .ok (.laload, 1) := by decide +kernel
theorem dX0_offer_92 : decode cX0_offer 92 = .ok (.lconst 1, 1) := by decide +kernel
theorem dX0_offer_93 : decode cX0_offer 93 = .ok (.iload_n 1, 1) := by decide +kernel
theorem dX0_offer_94 : decode cX0_offer 94 = .ok (.lshl, 1) := by decide +kernel
theorem dX0_offer_95 : decode cX0_offer 95 = .ok (.lor, 1) := by decide +kernel
theorem dX0_offer_96 : decode cX0_offer 96 = .ok (.lastore, 1) := by decide +kernel
theorem dX0_offer_97 : decode cX0_offer 97 = .ok (.iinc 7 (-1), 3) := by decide +kernel
theorem dX0_offer_100 : decode cX0_offer 100 = .ok (.goto (-83), 3) := by decide +kernel
theorem dX0_offer_103 : decode cX0_offer 103 = .ok (.return_, 1) := by decide +kernel
theorem dX0_picked_0 : decode cX0_picked 0 = .ok (.aload_n 0, 1) := by decide +kernel
theorem dX0_picked_1 : decode cX0_picked 1 = .ok (.getfield 15, 3) := by decide +kernel
theorem dX0_picked_4 : decode cX0_picked 4 = .ok (.aload_n 0, 1) := by decide +kernel
theorem dX0_picked_5 : decode cX0_picked 5 = .ok (.getfield 18, 3) := by decide +kernel
theorem dX0_picked_8 : decode cX0_picked 8 = .ok (.laload, 1) := by decide +kernel
theorem dX0_picked_9 : decode cX0_picked 9 = .ok (.lreturn, 1) := by decide +kernel
theorem dX1_init_0 : decode cX1_init 0 = .ok (.aload_n 0, 1) := by decide +kernel
theorem dX1_init_1 : decode cX1_init 1 = .ok (.invokespecial 3, 3) := by decide +kernel
theorem dX1_init_4 : decode cX1_init 4 = .ok (.aload_n 0, 1) := by decide +kernel
theorem dX1_init_5 : decode cX1_init 5 = .ok (.bipush 10, 2) := by decide +kernel
theorem dX1_init_7 : decode cX1_init 7 = .ok (.bipush 60, 2) := by decide +kernel
theorem dX1_init_9 : decode cX1_init 9 = .ok (.multianewarray 9 2, 4) := by decide +kernel
theorem dX1_init_13 : decode cX1_init 13 = .ok (.putfield 11, 3) := by decide +kernel
theorem dX1_init_16 : decode cX1_init 16 = .ok (.aload_n 0, 1) := by decide +kernel
theorem dX1_init_17 : decode cX1_init 17 = .ok (.bipush 10, 2) := by decide +kernel
theorem dX1_init_19 : decode cX1_init 19 = .ok (.bipush 60, 2) := by decide +kernel
theorem dX1_init_21 : decode cX1_init 21 = .ok (.multianewarray 9 2, 4) := by decide +kernel
theorem dX1_init_25 : decode cX1_init 25 = .ok (.putfield 16, 3) := by decide +kernel
theorem dX1_init_28 : decode cX1_init 28 = .ok (.aload_n 0, 1) := by decide +kernel
theorem dX1_init_29 : decode cX1_init 29 = .ok (.bipush 10, 2) := by decide +kernel
theorem dX1_init_31 : decode cX1_init 31 = .ok (.bipush 10, 2) := by decide +kernel
theorem dX1_init_33 : decode cX1_init 33 = .ok (.multianewarray 9 2, 4) := by decide +kernel
theorem dX1_init_37 : decode cX1_init 37 = .ok (.putfield 19, 3) := by decide +kernel
theorem dX1_init_40 : decode cX1_init 40 = .ok (.aload_n 0, 1) := by decide +kernel
theorem dX1_init_41 : decode cX1_init 41 = .ok (.bipush 10, 2) := by decide +kernel
theorem dX1_init_43 : decode cX1_init 43 = .ok (.newarray .int, 2) := by decide +kernel
theorem dX1_init_45 : decode cX1_init 45 = .ok (.putfield 22, 3) := by decide +kernel
theorem dX1_init_48 : decode cX1_init 48 = .ok (.return_, 1) := by decide +kernel
theorem dX1_has_0 : decode cX1_has 0 = .ok (.iload_n 1, 1) := by decide +kernel
theorem dX1_has_1 : decode cX1_has 1 = .ok (.ifCond .lt 15, 3) := by decide +kernel
theorem dX1_has_4 : decode cX1_has 4 = .ok (.iload_n 1, 1) := by decide +kernel
theorem dX1_has_5 : decode cX1_has 5 = .ok (.aload_n 0, 1) := by decide +kernel
theorem dX1_has_6 : decode cX1_has 6 = .ok (.getfield 26, 3) := by decide +kernel
theorem dX1_has_9 : decode cX1_has 9 = .ok (.if_icmp .ge 7, 3) := by decide +kernel
theorem dX1_has_12 : decode cX1_has 12 = .ok (.iconst 1, 1) := by decide +kernel
theorem dX1_has_13 : decode cX1_has 13 = .ok (.goto 4, 3) := by decide +kernel
theorem dX1_has_16 : decode cX1_has 16 = .ok (.iconst 0, 1) := by decide +kernel
theorem dX1_has_17 : decode cX1_has 17 = .ok (.ireturn, 1) := by decide +kernel
theorem dX1_hasFact_0 : decode cX1_hasFact 0 = .ok (.iload_n 2, 1) := by decide +kernel
theorem dX1_hasFact_1 : decode cX1_hasFact 1 = .ok (.ifCond .lt 17, 3) := by decide +kernel
theorem dX1_hasFact_4 : decode cX1_hasFact 4 = .ok (.iload_n 2, 1) := by decide +kernel
theorem dX1_hasFact_5 : decode cX1_hasFact 5 = .ok (.aload_n 0, 1) := by decide +kernel
theorem dX1_hasFact_6 : decode cX1_hasFact 6 = .ok (.getfield 22, 3) := by decide +kernel
theorem dX1_hasFact_9 : decode cX1_hasFact 9 = .ok (.iload_n 1, 1) := by decide +kernel
theorem dX1_hasFact_10 : decode cX1_hasFact 10 = .ok (.iaload, 1) := by decide +kernel
theorem dX1_hasFact_11 : decode cX1_hasFact 11 = .ok (.if_icmp .ge 7, 3) := by decide +kernel
theorem dX1_hasFact_14 : decode cX1_hasFact 14 = .ok (.iconst 1, 1) := by decide +kernel
theorem dX1_hasFact_15 : decode cX1_hasFact 15 = .ok (.goto 4, 3) := by decide +kernel
theorem dX1_hasFact_18 : decode cX1_hasFact 18 = .ok (.iconst 0, 1) := by decide +kernel
theorem dX1_hasFact_19 : decode cX1_hasFact 19 = .ok (.ireturn, 1) := by decide +kernel
theorem dX1_start_0 : decode cX1_start 0 = .ok (.aload_n 0, 1) := by decide +kernel
theorem dX1_start_1 : decode cX1_start 1 = .ok (.getfield 26, 3) := by decide +kernel
theorem dX1_start_4 : decode cX1_start 4 = .ok (.istore_n 2, 1) := by decide +kernel
theorem dX1_start_5 : decode cX1_start 5 = .ok (.aload_n 0, 1) := by decide +kernel
theorem dX1_start_6 : decode cX1_start 6 = .ok (.getfield 22, 3) := by decide +kernel
theorem dX1_start_9 : decode cX1_start 9 = .ok (.iload_n 2, 1) := by decide +kernel
theorem dX1_start_10 : decode cX1_start 10 = .ok (.iload_n 1, 1) := by decide +kernel
theorem dX1_start_11 : decode cX1_start 11 = .ok (.iastore, 1) := by decide +kernel
theorem dX1_start_12 : decode cX1_start 12 = .ok (.aload_n 0, 1) := by decide +kernel
theorem dX1_start_13 : decode cX1_start 13 = .ok (.dup, 1) := by decide +kernel
theorem dX1_start_14 : decode cX1_start 14 = .ok (.getfield 26, 3) := by decide +kernel
theorem dX1_start_17 : decode cX1_start 17 = .ok (.iconst 1, 1) := by decide +kernel
theorem dX1_start_18 : decode cX1_start 18 = .ok (.iadd, 1) := by decide +kernel
theorem dX1_start_19 : decode cX1_start 19 = .ok (.putfield 26, 3) := by decide +kernel
theorem dX1_start_22 : decode cX1_start 22 = .ok (.iload_n 2, 1) := by decide +kernel
theorem dX1_start_23 : decode cX1_start 23 = .ok (.ireturn, 1) := by decide +kernel
theorem dX1_settle_0 : decode cX1_settle 0 = .ok (.iconst 0, 1) := by decide +kernel
theorem dX1_settle_1 : decode cX1_settle 1 = .ok (.istore_n 3, 1) := by decide +kernel
theorem dX1_settle_2 : decode cX1_settle 2 = .ok (.iload_n 3, 1) := by decide +kernel
theorem dX1_settle_3 : decode cX1_settle 3 = .ok (.aload_n 0, 1) := by decide +kernel
theorem dX1_settle_4 : decode cX1_settle 4 = .ok (.getfield 26, 3) := by decide +kernel
theorem dX1_settle_7 : decode cX1_settle 7 = .ok (.if_icmp .ge 66, 3) := by decide +kernel
theorem dX1_settle_10 : decode cX1_settle 10 = .ok (.aload_n 0, 1) := by decide +kernel
theorem dX1_settle_11 : decode cX1_settle 11 = .ok (.iload_n 3, 1) := by decide +kernel
theorem dX1_settle_12 : decode cX1_settle 12 = .ok (.iload_n 1, 1) := by decide +kernel
theorem dX1_settle_13 : decode cX1_settle 13 = .ok (.invokevirtual 30, 3) := by decide +kernel
theorem dX1_settle_16 : decode cX1_settle 16 = .ok (.ifCond .eq 51, 3) := by decide +kernel
theorem dX1_settle_19 : decode cX1_settle 19 = .ok (.aload_n 0, 1) := by decide +kernel
theorem dX1_settle_20 : decode cX1_settle 20 = .ok (.getfield 16, 3) := by decide +kernel
theorem dX1_settle_23 : decode cX1_settle 23 = .ok (.iload_n 3, 1) := by decide +kernel
theorem dX1_settle_24 : decode cX1_settle 24 = .ok (.aaload, 1) := by decide +kernel
theorem dX1_settle_25 : decode cX1_settle 25 = .ok (.iload_n 1, 1) := by decide +kernel
theorem dX1_settle_26 : decode cX1_settle 26 = .ok (.iaload, 1) := by decide +kernel
theorem dX1_settle_27 : decode cX1_settle 27 = .ok (.ifCond .ne 40, 3) := by decide +kernel
theorem dX1_settle_30 : decode cX1_settle 30 = .ok (.aload_n 0, 1) := by decide +kernel
theorem dX1_settle_31 : decode cX1_settle 31 = .ok (.getfield 11, 3) := by decide +kernel
theorem dX1_settle_34 : decode cX1_settle 34 = .ok (.iload_n 3, 1) := by decide +kernel
theorem dX1_settle_35 : decode cX1_settle 35 = .ok (.aaload, 1) := by decide +kernel
theorem dX1_settle_36 : decode cX1_settle 36 = .ok (.iload_n 1, 1) := by decide +kernel
theorem dX1_settle_37 : decode cX1_settle 37 = .ok (.iaload, 1) := by decide +kernel
theorem dX1_settle_38 : decode cX1_settle 38 = .ok (.iload_n 2, 1) := by decide +kernel
theorem dX1_settle_39 : decode cX1_settle 39 = .ok (.if_icmp .ne 7, 3) := by decide +kernel
theorem dX1_settle_42 : decode cX1_settle 42 = .ok (.iconst 1, 1) := by decide +kernel
theorem dX1_settle_43 : decode cX1_settle 43 = .ok (.goto 4, 3) := by decide +kernel
theorem dX1_settle_46 : decode cX1_settle 46 = .ok (.iconst 0, 1) := by decide +kernel
theorem dX1_settle_47 : decode cX1_settle 47 = .ok (.istore 4, 2) := by decide +kernel
theorem dX1_settle_49 : decode cX1_settle 49 = .ok (.aload_n 0, 1) := by decide +kernel
theorem dX1_settle_50 : decode cX1_settle 50 = .ok (.getfield 16, 3) := by decide +kernel
theorem dX1_settle_53 : decode cX1_settle 53 = .ok (.iload_n 3, 1) := by decide +kernel
theorem dX1_settle_54 : decode cX1_settle 54 = .ok (.aaload, 1) := by decide +kernel
theorem dX1_settle_55 : decode cX1_settle 55 = .ok (.iload_n 1, 1) := by decide +kernel
theorem dX1_settle_56 : decode cX1_settle 56 = .ok (.iload 4, 2) := by decide +kernel
theorem dX1_settle_58 : decode cX1_settle 58 = .ok (.ifCond .eq 7, 3) := by decide +kernel
theorem dX1_settle_61 : decode cX1_settle 61 = .ok (.iconst 1, 1) := by decide +kernel
theorem dX1_settle_62 : decode cX1_settle 62 = .ok (.goto 4, 3) := by decide +kernel
theorem dX1_settle_65 : decode cX1_settle 65 = .ok (.iconst 2, 1) := by decide +kernel
theorem dX1_settle_66 : decode cX1_settle 66 = .ok (.iastore, 1) := by decide +kernel
theorem dX1_settle_67 : decode cX1_settle 67 = .ok (.iinc 3 1, 3) := by decide +kernel
theorem dX1_settle_70 : decode cX1_settle 70 = .ok (.goto (-68), 3) := by decide +kernel
theorem dX1_settle_73 : decode cX1_settle 73 = .ok (.return_, 1) := by decide +kernel
theorem dX2_init_0 : decode cX2_init 0 = .ok (.aload_n 0, 1) := by decide +kernel
theorem dX2_init_1 : decode cX2_init 1 = .ok (.invokespecial 3, 3) := by decide +kernel
theorem dX2_init_4 : decode cX2_init 4 = .ok (.aload_n 0, 1) := by decide +kernel
theorem dX2_init_5 : decode cX2_init 5 = .ok (.bipush 60, 2) := by decide +kernel
theorem dX2_init_7 : decode cX2_init 7 = .ok (.newarray .int, 2) := by decide +kernel
theorem dX2_init_9 : decode cX2_init 9 = .ok (.putfield 9, 3) := by decide +kernel
theorem dX2_init_12 : decode cX2_init 12 = .ok (.aload_n 0, 1) := by decide +kernel
theorem dX2_init_13 : decode cX2_init 13 = .ok (.bipush 60, 2) := by decide +kernel
theorem dX2_init_15 : decode cX2_init 15 = .ok (.newarray .int, 2) := by decide +kernel
theorem dX2_init_17 : decode cX2_init 17 = .ok (.putfield 15, 3) := by decide +kernel
theorem dX2_init_20 : decode cX2_init 20 = .ok (.aload_n 0, 1) := by decide +kernel
theorem dX2_init_21 : decode cX2_init 21 = .ok (.bipush 60, 2) := by decide +kernel
theorem dX2_init_23 : decode cX2_init 23 = .ok (.newarray .int, 2) := by decide +kernel
theorem dX2_init_25 : decode cX2_init 25 = .ok (.putfield 18, 3) := by decide +kernel
theorem dX2_init_28 : decode cX2_init 28 = .ok (.aload_n 0, 1) := by decide +kernel
theorem dX2_init_29 : decode cX2_init 29 = .ok (.bipush 60, 2) := by decide +kernel
theorem dX2_init_31 : decode cX2_init 31 = .ok (.newarray .int, 2) := by decide +kernel
theorem dX2_init_33 : decode cX2_init 33 = .ok (.putfield 21, 3) := by decide +kernel
theorem dX2_init_36 : decode cX2_init 36 = .ok (.aload_n 0, 1) := by decide +kernel
theorem dX2_init_37 : decode cX2_init 37 = .ok (.bipush 60, 2) := by decide +kernel
theorem dX2_init_39 : decode cX2_init 39 = .ok (.newarray .int, 2) := by decide +kernel
theorem dX2_init_41 : decode cX2_init 41 = .ok (.putfield 24, 3) := by decide +kernel
theorem dX2_init_44 : decode cX2_init 44 = .ok (.aload_n 0, 1) := by decide +kernel
theorem dX2_init_45 : decode cX2_init 45 = .ok (.bipush 60, 2) := by decide +kernel
theorem dX2_init_47 : decode cX2_init 47 = .ok (.newarray .int, 2) := by decide +kernel
theorem dX2_init_49 : decode cX2_init 49 = .ok (.putfield 27, 3) := by decide +kernel
theorem dX2_init_52 : decode cX2_init 52 = .ok (.aload_n 0, 1) := by decide +kernel
theorem dX2_init_53 : decode cX2_init 53 = .ok (.bipush 6, 2) := by decide +kernel
theorem dX2_init_55 : decode cX2_init 55 = .ok (.newarray .int, 2) := by decide +kernel
theorem dX2_init_57 : decode cX2_init 57 = .ok (.putfield 30, 3) := by decide +kernel
theorem dX2_init_60 : decode cX2_init 60 = .ok (.aload_n 0, 1) := by decide +kernel
theorem dX2_init_61 : decode cX2_init 61 = .ok (.bipush 6, 2) := by decide +kernel
theorem dX2_init_63 : decode cX2_init 63 = .ok (.newarray .int, 2) := by decide +kernel
theorem dX2_init_65 : decode cX2_init 65 = .ok (.putfield 33, 3) := by decide +kernel
theorem dX2_init_68 : decode cX2_init 68 = .ok (.return_, 1) := by decide +kernel
theorem dX2_has_0 : decode cX2_has 0 = .ok (.iload_n 1, 1) := by decide +kernel
theorem dX2_has_1 : decode cX2_has 1 = .ok (.ifCond .lt 15, 3) := by decide +kernel
theorem dX2_has_4 : decode cX2_has 4 = .ok (.iload_n 1, 1) := by decide +kernel
theorem dX2_has_5 : decode cX2_has 5 = .ok (.aload_n 0, 1) := by decide +kernel
theorem dX2_has_6 : decode cX2_has 6 = .ok (.getfield 36, 3) := by decide +kernel
theorem dX2_has_9 : decode cX2_has 9 = .ok (.if_icmp .ge 7, 3) := by decide +kernel
theorem dX2_has_12 : decode cX2_has 12 = .ok (.iconst 1, 1) := by decide +kernel
theorem dX2_has_13 : decode cX2_has 13 = .ok (.goto 4, 3) := by decide +kernel
theorem dX2_has_16 : decode cX2_has 16 = .ok (.iconst 0, 1) := by decide +kernel
theorem dX2_has_17 : decode cX2_has 17 = .ok (.ireturn, 1) := by decide +kernel
theorem dX2_add_0 : decode cX2_add 0 = .ok (.aload_n 0, 1) := by decide +kernel
theorem dX2_add_1 : decode cX2_add 1 = .ok (.getfield 36, 3) := by decide +kernel
theorem dX2_add_4 : decode cX2_add 4 = .ok (.istore 4, 2) := by decide +kernel
theorem dX2_add_6 : decode cX2_add 6 = .ok (.aload_n 0, 1) := by decide +kernel
theorem dX2_add_7 : decode cX2_add 7 = .ok (.getfield 9, 3) := by decide +kernel
theorem dX2_add_10 : decode cX2_add 10 = .ok (.iload 4, 2) := by decide +kernel
theorem dX2_add_12 : decode cX2_add 12 = .ok (.iload_n 1, 1) := by decide +kernel
theorem dX2_add_13 : decode cX2_add 13 = .ok (.iastore, 1) := by decide +kernel
theorem dX2_add_14 : decode cX2_add 14 = .ok (.aload_n 0, 1) := by decide +kernel
theorem dX2_add_15 : decode cX2_add 15 = .ok (.getfield 15, 3) := by decide +kernel
theorem dX2_add_18 : decode cX2_add 18 = .ok (.iload 4, 2) := by decide +kernel
theorem dX2_add_20 : decode cX2_add 20 = .ok (.iload_n 2, 1) := by decide +kernel
theorem dX2_add_21 : decode cX2_add 21 = .ok (.iastore, 1) := by decide +kernel
theorem dX2_add_22 : decode cX2_add 22 = .ok (.aload_n 0, 1) := by decide +kernel
theorem dX2_add_23 : decode cX2_add 23 = .ok (.getfield 18, 3) := by decide +kernel
theorem dX2_add_26 : decode cX2_add 26 = .ok (.iload 4, 2) := by decide +kernel
theorem dX2_add_28 : decode cX2_add 28 = .ok (.iload_n 3, 1) := by decide +kernel
theorem dX2_add_29 : decode cX2_add 29 = .ok (.iastore, 1) := by decide +kernel
theorem dX2_add_30 : decode cX2_add 30 = .ok (.aload_n 0, 1) := by decide +kernel
theorem dX2_add_31 : decode cX2_add 31 = .ok (.getfield 21, 3) := by decide +kernel
theorem dX2_add_34 : decode cX2_add 34 = .ok (.iload 4, 2) := by decide +kernel
theorem dX2_add_36 : decode cX2_add 36 = .ok (.aload_n 0, 1) := by decide +kernel
theorem dX2_add_37 : decode cX2_add 37 = .ok (.getfield 40, 3) := by decide +kernel
theorem dX2_add_40 : decode cX2_add 40 = .ok (.iastore, 1) := by decide +kernel
theorem dX2_add_41 : decode cX2_add 41 = .ok (.aload_n 0, 1) := by decide +kernel
theorem dX2_add_42 : decode cX2_add 42 = .ok (.getfield 24, 3) := by decide +kernel
theorem dX2_add_45 : decode cX2_add 45 = .ok (.iload 4, 2) := by decide +kernel
theorem dX2_add_47 : decode cX2_add 47 = .ok (.iconst 1, 1) := by decide +kernel
theorem dX2_add_48 : decode cX2_add 48 = .ok (.iastore, 1) := by decide +kernel
theorem dX2_add_49 : decode cX2_add 49 = .ok (.aload_n 0, 1) := by decide +kernel
theorem dX2_add_50 : decode cX2_add 50 = .ok (.getfield 27, 3) := by decide +kernel
theorem dX2_add_53 : decode cX2_add 53 = .ok (.iload 4, 2) := by decide +kernel
theorem dX2_add_55 : decode cX2_add 55 = .ok (.iconst 1, 1) := by decide +kernel
theorem dX2_add_56 : decode cX2_add 56 = .ok (.iastore, 1) := by decide +kernel
theorem dX2_add_57 : decode cX2_add 57 = .ok (.aload_n 0, 1) := by decide +kernel
theorem dX2_add_58 : decode cX2_add 58 = .ok (.dup, 1) := by decide +kernel
theorem dX2_add_59 : decode cX2_add 59 = .ok (.getfield 36, 3) := by decide +kernel
theorem dX2_add_62 : decode cX2_add 62 = .ok (.iconst 1, 1) := by decide +kernel
theorem dX2_add_63 : decode cX2_add 63 = .ok (.iadd, 1) := by decide +kernel
theorem dX2_add_64 : decode cX2_add 64 = .ok (.putfield 36, 3) := by decide +kernel
theorem dX2_add_67 : decode cX2_add 67 = .ok (.iload 4, 2) := by decide +kernel
theorem dX2_add_69 : decode cX2_add 69 = .ok (.ireturn, 1) := by decide +kernel
theorem dX2_renew_0 : decode cX2_renew 0 = .ok (.aload_n 0, 1) := by decide +kernel
theorem dX2_renew_1 : decode cX2_renew 1 = .ok (.getfield 18, 3) := by decide +kernel
theorem dX2_renew_4 : decode cX2_renew 4 = .ok (.iload_n 1, 1) := by decide +kernel
theorem dX2_renew_5 : decode cX2_renew 5 = .ok (.iaload, 1) := by decide +kernel
theorem dX2_renew_6 : decode cX2_renew 6 = .ok (.iload_n 2, 1) := by decide +kernel
theorem dX2_renew_7 : decode cX2_renew 7 = .ok (.if_icmp .eq 7, 3) := by decide +kernel
theorem dX2_renew_10 : decode cX2_renew 10 = .ok (.iconst 1, 1) := by decide +kernel
theorem dX2_renew_11 : decode cX2_renew 11 = .ok (.goto 4, 3) := by decide +kernel
theorem dX2_renew_14 : decode cX2_renew 14 = .ok (.iconst 0, 1) := by decide +kernel
theorem dX2_renew_15 : decode cX2_renew 15 = .ok (.istore_n 3, 1) := by decide +kernel
theorem dX2_renew_16 : decode cX2_renew 16 = .ok (.aload_n 0, 1) := by decide +kernel
theorem dX2_renew_17 : decode cX2_renew 17 = .ok (.getfield 30, 3) := by decide +kernel
theorem dX2_renew_20 : decode cX2_renew 20 = .ok (.aload_n 0, 1) := by decide +kernel
theorem dX2_renew_21 : decode cX2_renew 21 = .ok (.getfield 9, 3) := by decide +kernel
theorem dX2_renew_24 : decode cX2_renew 24 = .ok (.iload_n 1, 1) := by decide +kernel
theorem dX2_renew_25 : decode cX2_renew 25 = .ok (.iaload, 1) := by decide +kernel
theorem dX2_renew_26 : decode cX2_renew 26 = .ok (.dup2, 1) := by decide +kernel
theorem dX2_renew_27 : decode cX2_renew 27 = .ok (.iaload, 1) := by decide +kernel
theorem dX2_renew_28 : decode cX2_renew 28 = .ok (.aload_n 0, 1) := by decide +kernel
theorem dX2_renew_29 : decode cX2_renew 29 = .ok (.getfield 40, 3) := by decide +kernel
theorem dX2_renew_32 : decode cX2_renew 32 = .ok (.aload_n 0, 1) := by decide +kernel
theorem dX2_renew_33 : decode cX2_renew 33 = .ok (.getfield 21, 3) := by decide +kernel
theorem dX2_renew_36 : decode cX2_renew 36 = .ok (.iload_n 1, 1) := by decide +kernel
theorem dX2_renew_37 : decode cX2_renew 37 = .ok (.iaload, 1) := by decide +kernel
theorem dX2_renew_38 : decode cX2_renew 38 = .ok (.isub, 1) := by decide +kernel
theorem dX2_renew_39 : decode cX2_renew 39 = .ok (.iadd, 1) := by decide +kernel
theorem dX2_renew_40 : decode cX2_renew 40 = .ok (.iastore, 1) := by decide +kernel
theorem dX2_renew_41 : decode cX2_renew 41 = .ok (.iload_n 3, 1) := by decide +kernel
theorem dX2_renew_42 : decode cX2_renew 42 = .ok (.ifCond .eq 18, 3) := by decide +kernel
theorem dX2_renew_45 : decode cX2_renew 45 = .ok (.aload_n 0, 1) := by decide +kernel
theorem dX2_renew_46 : decode cX2_renew 46 = .ok (.getfield 33, 3) := by decide +kernel
theorem dX2_renew_49 : decode cX2_renew 49 = .ok (.aload_n 0, 1) := by decide +kernel
theorem dX2_renew_50 : decode cX2_renew 50 = .ok (.getfield 9, 3) := by decide +kernel
theorem dX2_renew_53 : decode cX2_renew 53 = .ok (.iload_n 1, 1) := by decide +kernel
theorem dX2_renew_54 : decode cX2_renew 54 = .ok (.iaload, 1) := by decide +kernel
theorem dX2_renew_55 : decode cX2_renew 55 = .ok (.dup2, 1) := by decide +kernel
theorem dX2_renew_56 : decode cX2_renew 56 = .ok (.iaload, 1) := by decide +kernel
theorem dX2_renew_57 : decode cX2_renew 57 = .ok (.iconst 1, 1) := by decide +kernel
theorem dX2_renew_58 : decode cX2_renew 58 = .ok (.iadd, 1) := by decide +kernel
theorem dX2_renew_59 : decode cX2_renew 59 = .ok (.iastore, 1) := by decide +kernel
theorem dX2_renew_60 : decode cX2_renew 60 = .ok (.aload_n 0, 1) := by decide +kernel
theorem dX2_renew_61 : decode cX2_renew 61 = .ok (.getfield 18, 3) := by decide +kernel
theorem dX2_renew_64 : decode cX2_renew 64 = .ok (.iload_n 1, 1) := by decide +kernel
theorem dX2_renew_65 : decode cX2_renew 65 = .ok (.iload_n 2, 1) := by decide +kernel
theorem dX2_renew_66 : decode cX2_renew 66 = .ok (.iastore, 1) := by decide +kernel
theorem dX2_renew_67 : decode cX2_renew 67 = .ok (.aload_n 0, 1) := by decide +kernel
theorem dX2_renew_68 : decode cX2_renew 68 = .ok (.getfield 21, 3) := by decide +kernel
theorem dX2_renew_71 : decode cX2_renew 71 = .ok (.iload_n 1, 1) := by decide +kernel
theorem dX2_renew_72 : decode cX2_renew 72 = .ok (.aload_n 0, 1) := by decide +kernel
theorem dX2_renew_73 : decode cX2_renew 73 = .ok (.getfield 40, 3) := by decide +kernel
theorem dX2_renew_76 : decode cX2_renew 76 = .ok (.iastore, 1) := by decide +kernel
theorem dX2_renew_77 : decode cX2_renew 77 = .ok (.iload_n 3, 1) := by decide +kernel
theorem dX2_renew_78 : decode cX2_renew 78 = .ok (.ireturn, 1) := by decide +kernel
theorem dX2_rateOf_0 : decode cX2_rateOf 0 = .ok (.aload_n 0, 1) := by decide +kernel
theorem dX2_rateOf_1 : decode cX2_rateOf 1 = .ok (.getfield 30, 3) := by decide +kernel
theorem dX2_rateOf_4 : decode cX2_rateOf 4 = .ok (.iload_n 1, 1) := by decide +kernel
theorem dX2_rateOf_5 : decode cX2_rateOf 5 = .ok (.iaload, 1) := by decide +kernel
theorem dX2_rateOf_6 : decode cX2_rateOf 6 = .ok (.iconst 1, 1) := by decide +kernel
theorem dX2_rateOf_7 : decode cX2_rateOf 7 = .ok (.iadd, 1) := by decide +kernel
theorem dX2_rateOf_8 : decode cX2_rateOf 8 = .ok (.aload_n 0, 1) := by decide +kernel
theorem dX2_rateOf_9 : decode cX2_rateOf 9 = .ok (.getfield 33, 3) := by decide +kernel
theorem dX2_rateOf_12 : decode cX2_rateOf 12 = .ok (.iload_n 1, 1) := by decide +kernel
theorem dX2_rateOf_13 : decode cX2_rateOf 13 = .ok (.iaload, 1) := by decide +kernel
theorem dX2_rateOf_14 : decode cX2_rateOf 14 = .ok (.isub, 1) := by decide +kernel
theorem dX2_rateOf_15 : decode cX2_rateOf 15 = .ok (.i2l, 1) := by decide +kernel
theorem dX2_rateOf_16 : decode cX2_rateOf 16 = .ok (.lstore_n 2, 1) := by decide +kernel
theorem dX2_rateOf_17 : decode cX2_rateOf 17 = .ok (.ldc2_w 43, 3) := by decide +kernel
theorem dX2_rateOf_20 : decode cX2_rateOf 20 = .ok (.lload_n 2, 1) := by decide +kernel
theorem dX2_rateOf_21 : decode cX2_rateOf 21 = .ok (.lmul, 1) := by decide +kernel
theorem dX2_rateOf_22 : decode cX2_rateOf 22 = .ok (.aload_n 0, 1) := by decide +kernel
theorem dX2_rateOf_23 : decode cX2_rateOf 23 = .ok (.getfield 30, 3) := by decide +kernel
theorem dX2_rateOf_26 : decode cX2_rateOf 26 = .ok (.iload_n 1, 1) := by decide +kernel
theorem dX2_rateOf_27 : decode cX2_rateOf 27 = .ok (.iaload, 1) := by decide +kernel
theorem dX2_rateOf_28 : decode cX2_rateOf 28 = .ok (.iconst 2, 1) := by decide +kernel
theorem dX2_rateOf_29 : decode cX2_rateOf 29 = .ok (.iadd, 1) := by decide +kernel
theorem dX2_rateOf_30 : decode cX2_rateOf 30 = .ok (.i2l, 1) := by decide +kernel
theorem dX2_rateOf_31 : decode cX2_rateOf 31 = .ok (.ldiv, 1) := by decide +kernel
theorem dX2_rateOf_32 : decode cX2_rateOf 32 = .ok (.lstore 4, 2) := by decide +kernel
theorem dX2_rateOf_34 : decode cX2_rateOf 34 = .ok (.lload 4, 2) := by decide +kernel
theorem dX2_rateOf_36 : decode cX2_rateOf 36 = .ok (.lconst 0, 1) := by decide +kernel
theorem dX2_rateOf_37 : decode cX2_rateOf 37 = .ok (.lcmp, 1) := by decide +kernel
theorem dX2_rateOf_38 : decode cX2_rateOf 38 = .ok (.ifCond .ge 7, 3) := by decide +kernel
theorem dX2_rateOf_41 : decode cX2_rateOf 41 = .ok (.iconst 0, 1) := by decide +kernel
theorem dX2_rateOf_42 : decode cX2_rateOf 42 = .ok (.goto 6, 3) := by decide +kernel
theorem dX2_rateOf_45 : decode cX2_rateOf 45 = .ok (.lload 4, 2) := by decide +kernel
theorem dX2_rateOf_47 : decode cX2_rateOf 47 = .ok (.l2i, 1) := by decide +kernel
theorem dX2_rateOf_48 : decode cX2_rateOf 48 = .ok (.ireturn, 1) := by decide +kernel
theorem dX2_chanceOf_0 : decode cX2_chanceOf 0 = .ok (.aload_n 0, 1) := by decide +kernel
theorem dX2_chanceOf_1 : decode cX2_chanceOf 1 = .ok (.aload_n 0, 1) := by decide +kernel
theorem dX2_chanceOf_2 : decode cX2_chanceOf 2 = .ok (.getfield 9, 3) := by decide +kernel
theorem dX2_chanceOf_5 : decode cX2_chanceOf 5 = .ok (.iload_n 1, 1) := by decide +kernel
theorem dX2_chanceOf_6 : decode cX2_chanceOf 6 = .ok (.iaload, 1) := by decide +kernel
theorem dX2_chanceOf_7 : decode cX2_chanceOf 7 = .ok (.invokevirtual 45, 3) := by decide +kernel
theorem dX2_chanceOf_10 : decode cX2_chanceOf 10 = .ok (.i2l, 1) := by decide +kernel
theorem dX2_chanceOf_11 : decode cX2_chanceOf 11 = .ok (.lstore_n 2, 1) := by decide +kernel
theorem dX2_chanceOf_12 : decode cX2_chanceOf 12 = .ok (.ldc2_w 43, 3) := by decide +kernel
theorem dX2_chanceOf_15 : decode cX2_chanceOf 15 = .ok (.lstore 4, 2) := by decide +kernel
theorem dX2_chanceOf_17 : decode cX2_chanceOf 17 = .ok (.aload_n 0, 1) := by decide +kernel
theorem dX2_chanceOf_18 : decode cX2_chanceOf 18 = .ok (.getfield 21, 3) := by decide +kernel
theorem dX2_chanceOf_21 : decode cX2_chanceOf 21 = .ok (.iload_n 1, 1) := by decide +kernel
theorem dX2_chanceOf_22 : decode cX2_chanceOf 22 = .ok (.iaload, 1) := by decide +kernel
theorem dX2_chanceOf_23 : decode cX2_chanceOf 23 = .ok (.istore 6, 2) := by decide +kernel
theorem dX2_chanceOf_25 : decode cX2_chanceOf 25 = .ok (.iload 6, 2) := by decide +kernel
theorem dX2_chanceOf_27 : decode cX2_chanceOf 27 = .ok (.aload_n 0, 1) := by decide +kernel
theorem dX2_chanceOf_28 : decode cX2_chanceOf 28 = .ok (.getfield 40, 3) := by decide +kernel
theorem dX2_chanceOf_31 : decode cX2_chanceOf 31 = .ok (.if_icmp .ge 19, 3) := by decide +kernel
theorem dX2_chanceOf_34 : decode cX2_chanceOf 34 = .ok (.lload 4, 2) := by decide +kernel
theorem dX2_chanceOf_36 : decode cX2_chanceOf 36 = .ok (.lload_n 2, 1) := by decide +kernel
theorem dX2_chanceOf_37 : decode cX2_chanceOf 37 = .ok (.lmul, 1) := by decide +kernel
theorem dX2_chanceOf_38 : decode cX2_chanceOf 38 = .ok (.ldc2_w 43, 3) := by decide +kernel
theorem dX2_chanceOf_41 : decode cX2_chanceOf 41 = .ok (.ldiv, 1) := by decide +kernel
theorem dX2_chanceOf_42 : decode cX2_chanceOf 42 = .ok (.lstore 4, 2) := by decide +kernel
theorem dX2_chanceOf_44 : decode cX2_chanceOf 44 = .ok (.iinc 6 1, 3) := by decide +kernel
theorem dX2_chanceOf_47 : decode cX2_chanceOf 47 = .ok (.goto (-22), 3) := by decide +kernel
theorem dX2_chanceOf_50 : decode cX2_chanceOf 50 = .ok (.lload 4, 2) := by decide +kernel
theorem dX2_chanceOf_52 : decode cX2_chanceOf 52 = .ok (.l2i, 1) := by decide +kernel
theorem dX2_chanceOf_53 : decode cX2_chanceOf 53 = .ok (.ireturn, 1) := by decide +kernel
theorem dX2_doubtOf_0 : decode cX2_doubtOf 0 = .ok (.iconst 0, 1) := by decide +kernel
theorem dX2_doubtOf_1 : decode cX2_doubtOf 1 = .ok (.istore_n 2, 1) := by decide +kernel
theorem dX2_doubtOf_2 : decode cX2_doubtOf 2 = .ok (.iconst 0, 1) := by decide +kernel
theorem dX2_doubtOf_3 : decode cX2_doubtOf 3 = .ok (.istore_n 3, 1) := by decide +kernel
theorem dX2_doubtOf_4 : decode cX2_doubtOf 4 = .ok (.iload_n 3, 1) := by decide +kernel
theorem dX2_doubtOf_5 : decode cX2_doubtOf 5 = .ok (.aload_n 0, 1) := by decide +kernel
theorem dX2_doubtOf_6 : decode cX2_doubtOf 6 = .ok (.getfield 36, 3) := by decide +kernel
theorem dX2_doubtOf_9 : decode cX2_doubtOf 9 = .ok (.if_icmp .ge 30, 3) := by decide +kernel
theorem dX2_doubtOf_12 : decode cX2_doubtOf 12 = .ok (.aload_n 0, 1) := by decide +kernel
theorem dX2_doubtOf_13 : decode cX2_doubtOf 13 = .ok (.getfield 15, 3) := by decide +kernel
theorem dX2_doubtOf_16 : decode cX2_doubtOf 16 = .ok (.iload_n 3, 1) := by decide +kernel
theorem dX2_doubtOf_17 : decode cX2_doubtOf 17 = .ok (.iaload, 1) := by decide +kernel
theorem dX2_doubtOf_18 : decode cX2_doubtOf 18 = .ok (.iload_n 1, 1) := by decide +kernel
theorem dX2_doubtOf_19 : decode cX2_doubtOf 19 = .ok (.if_icmp .ne 14, 3) := by decide +kernel
theorem dX2_doubtOf_22 : decode cX2_doubtOf 22 = .ok (.iload_n 2, 1) := by decide +kernel
theorem dX2_doubtOf_23 : decode cX2_doubtOf 23 = .ok (.ldc 49, 2) := by decide +kernel
theorem dX2_doubtOf_25 : decode cX2_doubtOf 25 = .ok (.aload_n 0, 1) := by decide +kernel
theorem dX2_doubtOf_26 : decode cX2_doubtOf 26 = .ok (.iload_n 3, 1) := by decide +kernel
theorem dX2_doubtOf_27 : decode cX2_doubtOf 27 = .ok (.invokevirtual 50, 3) := by decide +kernel
theorem dX2_doubtOf_30 : decode cX2_doubtOf 30 = .ok (.isub, 1) := by decide +kernel
theorem dX2_doubtOf_31 : decode cX2_doubtOf 31 = .ok (.iadd, 1) := by decide +kernel
theorem dX2_doubtOf_32 : decode cX2_doubtOf 32 = .ok (.istore_n 2, 1) := by decide +kernel
theorem dX2_doubtOf_33 : decode cX2_doubtOf 33 = .ok (.iinc 3 1, 3) := by decide +kernel
theorem dX2_doubtOf_36 : decode cX2_doubtOf 36 = .ok (.goto (-32), 3) := by decide +kernel
theorem dX2_doubtOf_39 : decode cX2_doubtOf 39 = .ok (.iload_n 2, 1) := by decide +kernel
theorem dX2_doubtOf_40 : decode cX2_doubtOf 40 = .ok (.ireturn, 1) := by decide +kernel
theorem dX2_countOf_0 : decode cX2_countOf 0 = .ok (.iconst 0, 1) := by decide +kernel
theorem dX2_countOf_1 : decode cX2_countOf 1 = .ok (.istore_n 2, 1) := by decide +kernel
theorem dX2_countOf_2 : decode cX2_countOf 2 = .ok (.iconst 0, 1) := by decide +kernel
theorem dX2_countOf_3 : decode cX2_countOf 3 = .ok (.istore_n 3, 1) := by decide +kernel
theorem dX2_countOf_4 : decode cX2_countOf 4 = .ok (.iload_n 3, 1) := by decide +kernel
theorem dX2_countOf_5 : decode cX2_countOf 5 = .ok (.aload_n 0, 1) := by decide +kernel
theorem dX2_countOf_6 : decode cX2_countOf 6 = .ok (.getfield 36, 3) := by decide +kernel
theorem dX2_countOf_9 : decode cX2_countOf 9 = .ok (.if_icmp .ge 22, 3) := by decide +kernel
theorem dX2_countOf_12 : decode cX2_countOf 12 = .ok (.aload_n 0, 1) := by decide +kernel
theorem dX2_countOf_13 : decode cX2_countOf 13 = .ok (.getfield 15, 3) := by decide +kernel
theorem dX2_countOf_16 : decode cX2_countOf 16 = .ok (.iload_n 3, 1) := by decide +kernel
theorem dX2_countOf_17 : decode cX2_countOf 17 = .ok (.iaload, 1) := by decide +kernel
theorem dX2_countOf_18 : decode cX2_countOf 18 = .ok (.iload_n 1, 1) := by decide +kernel
theorem dX2_countOf_19 : decode cX2_countOf 19 = .ok (.if_icmp .ne 6, 3) := by decide +kernel
theorem dX2_countOf_22 : decode cX2_countOf 22 = .ok (.iinc 2 1, 3) := by decide +kernel
theorem dX2_countOf_25 : decode cX2_countOf 25 = .ok (.iinc 3 1, 3) := by decide +kernel
theorem dX2_countOf_28 : decode cX2_countOf 28 = .ok (.goto (-24), 3) := by decide +kernel
theorem dX2_countOf_31 : decode cX2_countOf 31 = .ok (.iload_n 2, 1) := by decide +kernel
theorem dX2_countOf_32 : decode cX2_countOf 32 = .ok (.ireturn, 1) := by decide +kernel
theorem dX3_init_0 : decode cX3_init 0 = .ok (.aload_n 0, 1) := by decide +kernel
theorem dX3_init_1 : decode cX3_init 1 = .ok (.invokespecial 3, 3) := by decide +kernel
theorem dX3_init_4 : decode cX3_init 4 = .ok (.aload_n 0, 1) := by decide +kernel
theorem dX3_init_5 : decode cX3_init 5 = .ok (.bipush 100, 2) := by decide +kernel
theorem dX3_init_7 : decode cX3_init 7 = .ok (.newarray .int, 2) := by decide +kernel
theorem dX3_init_9 : decode cX3_init 9 = .ok (.putfield 9, 3) := by decide +kernel
theorem dX3_init_12 : decode cX3_init 12 = .ok (.aload_n 0, 1) := by decide +kernel
theorem dX3_init_13 : decode cX3_init 13 = .ok (.bipush 100, 2) := by decide +kernel
theorem dX3_init_15 : decode cX3_init 15 = .ok (.newarray .int, 2) := by decide +kernel
theorem dX3_init_17 : decode cX3_init 17 = .ok (.putfield 15, 3) := by decide +kernel
theorem dX3_init_20 : decode cX3_init 20 = .ok (.aload_n 0, 1) := by decide +kernel
theorem dX3_init_21 : decode cX3_init 21 = .ok (.bipush 100, 2) := by decide +kernel
theorem dX3_init_23 : decode cX3_init 23 = .ok (.newarray .int, 2) := by decide +kernel
theorem dX3_init_25 : decode cX3_init 25 = .ok (.putfield 18, 3) := by decide +kernel
theorem dX3_init_28 : decode cX3_init 28 = .ok (.aload_n 0, 1) := by decide +kernel
theorem dX3_init_29 : decode cX3_init 29 = .ok (.bipush 100, 2) := by decide +kernel
theorem dX3_init_31 : decode cX3_init 31 = .ok (.newarray .int, 2) := by decide +kernel
theorem dX3_init_33 : decode cX3_init 33 = .ok (.putfield 21, 3) := by decide +kernel
theorem dX3_init_36 : decode cX3_init 36 = .ok (.aload_n 0, 1) := by decide +kernel
theorem dX3_init_37 : decode cX3_init 37 = .ok (.bipush 20, 2) := by decide +kernel
theorem dX3_init_39 : decode cX3_init 39 = .ok (.newarray .int, 2) := by decide +kernel
theorem dX3_init_41 : decode cX3_init 41 = .ok (.putfield 24, 3) := by decide +kernel
theorem dX3_init_44 : decode cX3_init 44 = .ok (.aload_n 0, 1) := by decide +kernel
theorem dX3_init_45 : decode cX3_init 45 = .ok (.bipush 20, 2) := by decide +kernel
theorem dX3_init_47 : decode cX3_init 47 = .ok (.newarray .int, 2) := by decide +kernel
theorem dX3_init_49 : decode cX3_init 49 = .ok (.putfield 27, 3) := by decide +kernel
theorem dX3_init_52 : decode cX3_init 52 = .ok (.return_, 1) := by decide +kernel
theorem dX3_has_0 : decode cX3_has 0 = .ok (.iload_n 1, 1) := by decide +kernel
theorem dX3_has_1 : decode cX3_has 1 = .ok (.ifCond .lt 15, 3) := by decide +kernel
theorem dX3_has_4 : decode cX3_has 4 = .ok (.iload_n 1, 1) := by decide +kernel
theorem dX3_has_5 : decode cX3_has 5 = .ok (.aload_n 0, 1) := by decide +kernel
theorem dX3_has_6 : decode cX3_has 6 = .ok (.getfield 30, 3) := by decide +kernel
theorem dX3_has_9 : decode cX3_has 9 = .ok (.if_icmp .ge 7, 3) := by decide +kernel
theorem dX3_has_12 : decode cX3_has 12 = .ok (.iconst 1, 1) := by decide +kernel
theorem dX3_has_13 : decode cX3_has 13 = .ok (.goto 4, 3) := by decide +kernel
theorem dX3_has_16 : decode cX3_has 16 = .ok (.iconst 0, 1) := by decide +kernel
theorem dX3_has_17 : decode cX3_has 17 = .ok (.ireturn, 1) := by decide +kernel
theorem dX3_add_0 : decode cX3_add 0 = .ok (.aload_n 0, 1) := by decide +kernel
theorem dX3_add_1 : decode cX3_add 1 = .ok (.getfield 30, 3) := by decide +kernel
theorem dX3_add_4 : decode cX3_add 4 = .ok (.istore 4, 2) := by decide +kernel
theorem dX3_add_6 : decode cX3_add 6 = .ok (.aload_n 0, 1) := by decide +kernel
theorem dX3_add_7 : decode cX3_add 7 = .ok (.getfield 9, 3) := by decide +kernel
theorem dX3_add_10 : decode cX3_add 10 = .ok (.iload 4, 2) := by decide +kernel
theorem dX3_add_12 : decode cX3_add 12 = .ok (.iload_n 1, 1) := by decide +kernel
theorem dX3_add_13 : decode cX3_add 13 = .ok (.iastore, 1) := by decide +kernel
theorem dX3_add_14 : decode cX3_add 14 = .ok (.aload_n 0, 1) := by decide +kernel
theorem dX3_add_15 : decode cX3_add 15 = .ok (.getfield 15, 3) := by decide +kernel
theorem dX3_add_18 : decode cX3_add 18 = .ok (.iload 4, 2) := by decide +kernel
theorem dX3_add_20 : decode cX3_add 20 = .ok (.iload_n 2, 1) := by decide +kernel
theorem dX3_add_21 : decode cX3_add 21 = .ok (.iastore, 1) := by decide +kernel
theorem dX3_add_22 : decode cX3_add 22 = .ok (.aload_n 0, 1) := by decide +kernel
theorem dX3_add_23 : decode cX3_add 23 = .ok (.getfield 18, 3) := by decide +kernel
theorem dX3_add_26 : decode cX3_add 26 = .ok (.iload 4, 2) := by decide +kernel
theorem dX3_add_28 : decode cX3_add 28 = .ok (.iload_n 3, 1) := by decide +kernel
theorem dX3_add_29 : decode cX3_add 29 = .ok (.iastore, 1) := by decide +kernel
theorem dX3_add_30 : decode cX3_add 30 = .ok (.aload_n 0, 1) := by decide +kernel
theorem dX3_add_31 : decode cX3_add 31 = .ok (.getfield 21, 3) := by decide +kernel
theorem dX3_add_34 : decode cX3_add 34 = .ok (.iload 4, 2) := by decide +kernel
theorem dX3_add_36 : decode cX3_add 36 = .ok (.iconst 0, 1) := by decide +kernel
theorem dX3_add_37 : decode cX3_add 37 = .ok (.iastore, 1) := by decide +kernel
theorem dX3_add_38 : decode cX3_add 38 = .ok (.aload_n 0, 1) := by decide +kernel
theorem dX3_add_39 : decode cX3_add 39 = .ok (.dup, 1) := by decide +kernel
theorem dX3_add_40 : decode cX3_add 40 = .ok (.getfield 30, 3) := by decide +kernel
theorem dX3_add_43 : decode cX3_add 43 = .ok (.iconst 1, 1) := by decide +kernel
theorem dX3_add_44 : decode cX3_add 44 = .ok (.iadd, 1) := by decide +kernel
theorem dX3_add_45 : decode cX3_add 45 = .ok (.putfield 30, 3) := by decide +kernel
theorem dX3_add_48 : decode cX3_add 48 = .ok (.aload_n 0, 1) := by decide +kernel
theorem dX3_add_49 : decode cX3_add 49 = .ok (.dup, 1) := by decide +kernel
theorem dX3_add_50 : decode cX3_add 50 = .ok (.getfield 34, 3) := by decide +kernel
theorem dX3_add_53 : decode cX3_add 53 = .ok (.iconst 1, 1) := by decide +kernel
theorem dX3_add_54 : decode cX3_add 54 = .ok (.iadd, 1) := by decide +kernel
theorem dX3_add_55 : decode cX3_add 55 = .ok (.putfield 34, 3) := by decide +kernel
theorem dX3_add_58 : decode cX3_add 58 = .ok (.iload 4, 2) := by decide +kernel
theorem dX3_add_60 : decode cX3_add 60 = .ok (.ireturn, 1) := by decide +kernel
theorem dX3_isOpenOn_0 : decode cX3_isOpenOn 0 = .ok (.aload_n 0, 1) := by decide +kernel
theorem dX3_isOpenOn_1 : decode cX3_isOpenOn 1 = .ok (.getfield 15, 3) := by decide +kernel
theorem dX3_isOpenOn_4 : decode cX3_isOpenOn 4 = .ok (.iload_n 1, 1) := by decide +kernel
theorem dX3_isOpenOn_5 : decode cX3_isOpenOn 5 = .ok (.iaload, 1) := by decide +kernel
theorem dX3_isOpenOn_6 : decode cX3_isOpenOn 6 = .ok (.iload_n 2, 1) := by decide +kernel
theorem dX3_isOpenOn_7 : decode cX3_isOpenOn 7 = .ok (.if_icmp .ne 16, 3) := by decide +kernel
theorem dX3_isOpenOn_10 : decode cX3_isOpenOn 10 = .ok (.aload_n 0, 1) := by decide +kernel
theorem dX3_isOpenOn_11 : decode cX3_isOpenOn 11 = .ok (.getfield 21, 3) := by decide +kernel
theorem dX3_isOpenOn_14 : decode cX3_isOpenOn 14 = .ok (.iload_n 1, 1) := by decide +kernel
theorem dX3_isOpenOn_15 : decode cX3_isOpenOn 15 = .ok (.iaload, 1) := by decide +kernel
theorem dX3_isOpenOn_16 : decode cX3_isOpenOn 16 = .ok (.ifCond .ne 7, 3) := by decide +kernel
theorem dX3_isOpenOn_19 : decode cX3_isOpenOn 19 = .ok (.iconst 1, 1) := by decide +kernel
theorem dX3_isOpenOn_20 : decode cX3_isOpenOn 20 = .ok (.goto 4, 3) := by decide +kernel
theorem dX3_isOpenOn_23 : decode cX3_isOpenOn 23 = .ok (.iconst 0, 1) := by decide +kernel
theorem dX3_isOpenOn_24 : decode cX3_isOpenOn 24 = .ok (.ireturn, 1) := by decide +kernel
theorem dX3_settle_0 : decode cX3_settle 0 = .ok (.iconst 0, 1) := by decide +kernel
theorem dX3_settle_1 : decode cX3_settle 1 = .ok (.istore_n 3, 1) := by decide +kernel
theorem dX3_settle_2 : decode cX3_settle 2 = .ok (.iload_n 3, 1) := by decide +kernel
theorem dX3_settle_3 : decode cX3_settle 3 = .ok (.aload_n 0, 1) := by decide +kernel
theorem dX3_settle_4 : decode cX3_settle 4 = .ok (.getfield 30, 3) := by decide +kernel
theorem dX3_settle_7 : decode cX3_settle 7 = .ok (.if_icmp .ge 38, 3) := by decide +kernel
theorem dX3_settle_10 : decode cX3_settle 10 = .ok (.aload_n 0, 1) := by decide +kernel
theorem dX3_settle_11 : decode cX3_settle 11 = .ok (.iload_n 3, 1) := by decide +kernel
theorem dX3_settle_12 : decode cX3_settle 12 = .ok (.iload_n 1, 1) := by decide +kernel
theorem dX3_settle_13 : decode cX3_settle 13 = .ok (.invokevirtual 37, 3) := by decide +kernel
theorem dX3_settle_16 : decode cX3_settle 16 = .ok (.ifCond .eq 23, 3) := by decide +kernel
theorem dX3_settle_19 : decode cX3_settle 19 = .ok (.aload_n 0, 1) := by decide +kernel
theorem dX3_settle_20 : decode cX3_settle 20 = .ok (.iload_n 3, 1) := by decide +kernel
theorem dX3_settle_21 : decode cX3_settle 21 = .ok (.aload_n 0, 1) := by decide +kernel
theorem dX3_settle_22 : decode cX3_settle 22 = .ok (.getfield 18, 3) := by decide +kernel
theorem dX3_settle_25 : decode cX3_settle 25 = .ok (.iload_n 3, 1) := by decide +kernel
theorem dX3_settle_26 : decode cX3_settle 26 = .ok (.iaload, 1) := by decide +kernel
theorem dX3_settle_27 : decode cX3_settle 27 = .ok (.iload_n 2, 1) := by decide +kernel
theorem dX3_settle_28 : decode cX3_settle 28 = .ok (.if_icmp .ne 7, 3) := by decide +kernel
theorem dX3_settle_31 : decode cX3_settle 31 = .ok (.iconst 1, 1) := by decide +kernel
theorem dX3_settle_32 : decode cX3_settle 32 = .ok (.goto 4, 3) := by decide +kernel
theorem dX3_settle_35 : decode cX3_settle 35 = .ok (.iconst 0, 1) := by decide +kernel
theorem dX3_settle_36 : decode cX3_settle 36 = .ok (.invokevirtual 41, 3) := by decide +kernel
theorem dX3_settle_39 : decode cX3_settle 39 = .ok (.iinc 3 1, 3) := by decide +kernel
theorem dX3_settle_42 : decode cX3_settle 42 = .ok (.goto (-40), 3) := by decide +kernel
theorem dX3_settle_45 : decode cX3_settle 45 = .ok (.return_, 1) := by decide +kernel
theorem dX3_close_0 : decode cX3_close 0 = .ok (.iload_n 2, 1) := by decide +kernel
theorem dX3_close_1 : decode cX3_close 1 = .ok (.ifCond .eq 10, 3) := by decide +kernel
theorem dX3_close_4 : decode cX3_close 4 = .ok (.aload_n 0, 1) := by decide +kernel
theorem dX3_close_5 : decode cX3_close 5 = .ok (.getfield 24, 3) := by decide +kernel
theorem dX3_close_8 : decode cX3_close 8 = .ok (.goto 7, 3) := by decide +kernel
theorem dX3_close_11 : decode cX3_close 11 = .ok (.aload_n 0, 1) := by decide +kernel
theorem dX3_close_12 : decode cX3_close 12 = .ok (.getfield 27, 3) := by decide +kernel
theorem dX3_close_15 : decode cX3_close 15 = .ok (.astore_n 3, 1) := by decide +kernel
theorem dX3_close_16 : decode cX3_close 16 = .ok (.aload_n 3, 1) := by decide +kernel
theorem dX3_close_17 : decode cX3_close 17 = .ok (.aload_n 0, 1) := by decide +kernel
theorem dX3_close_18 : decode cX3_close 18 = .ok (.getfield 9, 3) := by decide +kernel
theorem dX3_close_21 : decode cX3_close 21 = .ok (.iload_n 1, 1) := by decide +kernel
theorem dX3_close_22 : decode cX3_close 22 = .ok (.iaload, 1) := by decide +kernel
theorem dX3_close_23 : decode cX3_close 23 = .ok (.dup2, 1) := by decide +kernel
theorem dX3_close_24 : decode cX3_close 24 = .ok (.iaload, 1) := by decide +kernel
theorem dX3_close_25 : decode cX3_close 25 = .ok (.iconst 1, 1) := by decide +kernel
theorem dX3_close_26 : decode cX3_close 26 = .ok (.iadd, 1) := by decide +kernel
theorem dX3_close_27 : decode cX3_close 27 = .ok (.iastore, 1) := by decide +kernel
theorem dX3_close_28 : decode cX3_close 28 = .ok (.aload_n 0, 1) := by decide +kernel
theorem dX3_close_29 : decode cX3_close 29 = .ok (.getfield 21, 3) := by decide +kernel
theorem dX3_close_32 : decode cX3_close 32 = .ok (.iload_n 1, 1) := by decide +kernel
theorem dX3_close_33 : decode cX3_close 33 = .ok (.iload_n 2, 1) := by decide +kernel
theorem dX3_close_34 : decode cX3_close 34 = .ok (.ifCond .eq 7, 3) := by decide +kernel
theorem dX3_close_37 : decode cX3_close 37 = .ok (.iconst 1, 1) := by decide +kernel
theorem dX3_close_38 : decode cX3_close 38 = .ok (.goto 4, 3) := by decide +kernel
theorem dX3_close_41 : decode cX3_close 41 = .ok (.iconst 2, 1) := by decide +kernel
theorem dX3_close_42 : decode cX3_close 42 = .ok (.iastore, 1) := by decide +kernel
theorem dX3_close_43 : decode cX3_close 43 = .ok (.aload_n 0, 1) := by decide +kernel
theorem dX3_close_44 : decode cX3_close 44 = .ok (.dup, 1) := by decide +kernel
theorem dX3_close_45 : decode cX3_close 45 = .ok (.getfield 34, 3) := by decide +kernel
theorem dX3_close_48 : decode cX3_close 48 = .ok (.iconst 1, 1) := by decide +kernel
theorem dX3_close_49 : decode cX3_close 49 = .ok (.isub, 1) := by decide +kernel
theorem dX3_close_50 : decode cX3_close 50 = .ok (.putfield 34, 3) := by decide +kernel
theorem dX3_close_53 : decode cX3_close 53 = .ok (.return_, 1) := by decide +kernel
theorem dX3_weightOf_0 : decode cX3_weightOf 0 = .ok (.sipush 1000, 3) := by decide +kernel
theorem dX3_weightOf_3 : decode cX3_weightOf 3 = .ok (.aload_n 0, 1) := by decide +kernel
theorem dX3_weightOf_4 : decode cX3_weightOf 4 = .ok (.getfield 24, 3) := by decide +kernel
theorem dX3_weightOf_7 : decode cX3_weightOf 7 = .ok (.iload_n 1, 1) := by decide +kernel
theorem dX3_weightOf_8 : decode cX3_weightOf 8 = .ok (.iaload, 1) := by decide +kernel
theorem dX3_weightOf_9 : decode cX3_weightOf 9 = .ok (.iconst 1, 1) := by decide +kernel
theorem dX3_weightOf_10 : decode cX3_weightOf 10 = .ok (.iadd, 1) := by decide +kernel
theorem dX3_weightOf_11 : decode cX3_weightOf 11 = .ok (.imul, 1) := by decide +kernel
theorem dX3_weightOf_12 : decode cX3_weightOf 12 = .ok (.aload_n 0, 1) := by decide +kernel
theorem dX3_weightOf_13 : decode cX3_weightOf 13 = .ok (.getfield 24, 3) := by decide +kernel
theorem dX3_weightOf_16 : decode cX3_weightOf 16 = .ok (.iload_n 1, 1) := by decide +kernel
theorem dX3_weightOf_17 : decode cX3_weightOf 17 = .ok (.iaload, 1) := by decide +kernel
theorem dX3_weightOf_18 : decode cX3_weightOf 18 = .ok (.aload_n 0, 1) := by decide +kernel
theorem dX3_weightOf_19 : decode cX3_weightOf 19 = .ok (.getfield 27, 3) := by decide +kernel
theorem dX3_weightOf_22 : decode cX3_weightOf 22 = .ok (.iload_n 1, 1) := by decide +kernel
theorem dX3_weightOf_23 : decode cX3_weightOf 23 = .ok (.iaload, 1) := by decide +kernel
theorem dX3_weightOf_24 : decode cX3_weightOf 24 = .ok (.iadd, 1) := by decide +kernel
theorem dX3_weightOf_25 : decode cX3_weightOf 25 = .ok (.iconst 2, 1) := by decide +kernel
theorem dX3_weightOf_26 : decode cX3_weightOf 26 = .ok (.iadd, 1) := by decide +kernel
theorem dX3_weightOf_27 : decode cX3_weightOf 27 = .ok (.idiv, 1) := by decide +kernel
theorem dX3_weightOf_28 : decode cX3_weightOf 28 = .ok (.ireturn, 1) := by decide +kernel
theorem dX3_weightFor_0 : decode cX3_weightFor 0 = .ok (.iconst 0, 1) := by decide +kernel
theorem dX3_weightFor_1 : decode cX3_weightFor 1 = .ok (.istore_n 3, 1) := by decide +kernel
theorem dX3_weightFor_2 : decode cX3_weightFor 2 = .ok (.iconst 0, 1) := by decide +kernel
theorem dX3_weightFor_3 : decode cX3_weightFor 3 = .ok (.istore 4, 2) := by decide +kernel
theorem dX3_weightFor_5 : decode cX3_weightFor 5 = .ok (.iconst 0, 1) := by decide +kernel
theorem dX3_weightFor_6 : decode cX3_weightFor 6 = .ok (.istore 5, 2) := by decide +kernel
theorem dX3_weightFor_8 : decode cX3_weightFor 8 = .ok (.iload 5, 2) := by decide +kernel
theorem dX3_weightFor_10 : decode cX3_weightFor 10 = .ok (.aload_n 0, 1) := by decide +kernel
theorem dX3_weightFor_11 : decode cX3_weightFor 11 = .ok (.getfield 30, 3) := by decide +kernel
theorem dX3_weightFor_14 : decode cX3_weightFor 14 = .ok (.if_icmp .ge 81, 3) := by decide +kernel
theorem dX3_weightFor_17 : decode cX3_weightFor 17 = .ok (.iconst 1, 1) := by decide +kernel
theorem dX3_weightFor_18 : decode cX3_weightFor 18 = .ok (.aload_n 0, 1) := by decide +kernel
theorem dX3_weightFor_19 : decode cX3_weightFor 19 = .ok (.getfield 9, 3) := by decide +kernel
theorem dX3_weightFor_22 : decode cX3_weightFor 22 = .ok (.iload 5, 2) := by decide +kernel
theorem dX3_weightFor_24 : decode cX3_weightFor 24 = .ok (.iaload, 1) := by decide +kernel
theorem dX3_weightFor_25 : decode cX3_weightFor 25 = .ok (.ishl, 1) := by decide +kernel
theorem dX3_weightFor_26 : decode cX3_weightFor 26 = .ok (.istore 6, 2) := by decide +kernel
theorem dX3_weightFor_28 : decode cX3_weightFor 28 = .ok (.aload_n 0, 1) := by decide +kernel
theorem dX3_weightFor_29 : decode cX3_weightFor 29 = .ok (.iload 5, 2) := by decide +kernel
theorem dX3_weightFor_31 : decode cX3_weightFor 31 = .ok (.iload_n 1, 1) := by decide +kernel
theorem dX3_weightFor_32 : decode cX3_weightFor 32 = .ok (.invokevirtual 37, 3) := by decide +kernel
theorem dX3_weightFor_35 : decode cX3_weightFor 35 = .ok (.ifCond .eq 18, 3) := by decide +kernel
theorem dX3_weightFor_38 : decode cX3_weightFor 38 = .ok (.aload_n 0, 1) := by decide +kernel
theorem dX3_weightFor_39 : decode cX3_weightFor 39 = .ok (.getfield 18, 3) := by decide +kernel
theorem dX3_weightFor_42 : decode cX3_weightFor 42 = .ok (.iload 5, 2) := by decide +kernel
theorem dX3_weightFor_44 : decode cX3_weightFor 44 = .ok (.iaload, 1) := by decide +kernel
theorem dX3_weightFor_45 : decode cX3_weightFor 45 = .ok (.iload_n 2, 1) := by decide +kernel
theorem dX3_weightFor_46 : decode cX3_weightFor 46 = .ok (.if_icmp .ne 7, 3) := by decide +kernel
theorem dX3_weightFor_49 : decode cX3_weightFor 49 = .ok (.iconst 1, 1) := by decide +kernel
theorem dX3_weightFor_50 : decode cX3_weightFor 50 = .ok (.goto 4, 3) := by decide +kernel
theorem dX3_weightFor_53 : decode cX3_weightFor 53 = .ok (.iconst 0, 1) := by decide +kernel
theorem dX3_weightFor_54 : decode cX3_weightFor 54 = .ok (.istore 7, 2) := by decide +kernel
theorem dX3_weightFor_56 : decode cX3_weightFor 56 = .ok (.iload 7, 2) := by decide +kernel
theorem dX3_weightFor_58 : decode cX3_weightFor 58 = .ok (.ifCond .eq 31, 3) := by decide +kernel
theorem dX3_weightFor_61 : decode cX3_weightFor 61 = .ok (.iload_n 3, 1) := by decide +kernel
theorem dX3_weightFor_62 : decode cX3_weightFor 62 = .ok (.iload 6, 2) := by decide +kernel
theorem dX3_weightFor_64 : decode cX3_weightFor 64 = .ok (.iand, 1) := by decide +kernel
theorem dX3_weightFor_65 : decode cX3_weightFor 65 = .ok (.ifCond .ne 24, 3) := by decide +kernel
theorem dX3_weightFor_68 : decode cX3_weightFor 68 = .ok (.iload_n 3, 1) := by decide +kernel
theorem dX3_weightFor_69 : decode cX3_weightFor 69 = .ok (.iload 6, 2) := by decide +kernel
theorem dX3_weightFor_71 : decode cX3_weightFor 71 = .ok (.ior, 1) := by decide +kernel
theorem dX3_weightFor_72 : decode cX3_weightFor 72 = .ok (.istore_n 3, 1) := by decide +kernel
theorem dX3_weightFor_73 : decode cX3_weightFor 73 = .ok (.iload 4, 2) := by decide +kernel
theorem dX3_weightFor_75 : decode cX3_weightFor 75 = .ok (.aload_n 0, 1) := by decide +kernel
theorem dX3_weightFor_76 : decode cX3_weightFor 76 = .ok (.aload_n 0, 1) := by decide +kernel
theorem dX3_weightFor_77 : decode cX3_weightFor 77 = .ok (.getfield 9, 3) := by decide +kernel
theorem dX3_weightFor_80 : decode cX3_weightFor 80 = .ok (.iload 5, 2) := by decide +kernel
theorem dX3_weightFor_82 : decode cX3_weightFor 82 = .ok (.iaload, 1) := by decide +kernel
theorem dX3_weightFor_83 : decode cX3_weightFor 83 = .ok (.invokevirtual 45, 3) := by decide +kernel
theorem dX3_weightFor_86 : decode cX3_weightFor 86 = .ok (.iadd, 1) := by decide +kernel
theorem dX3_weightFor_87 : decode cX3_weightFor 87 = .ok (.istore 4, 2) := by decide +kernel
theorem dX3_weightFor_89 : decode cX3_weightFor 89 = .ok (.iinc 5 1, 3) := by decide +kernel
theorem dX3_weightFor_92 : decode cX3_weightFor 92 = .ok (.goto (-84), 3) := by decide +kernel
theorem dX3_weightFor_95 : decode cX3_weightFor 95 = .ok (.iload 4, 2) := by decide +kernel
theorem dX3_weightFor_97 : decode cX3_weightFor 97 = .ok (.ireturn, 1) := by decide +kernel
theorem dX3_differOn_0 : decode cX3_differOn 0 = .ok (.iconst (-1), 1) := by decide +kernel
theorem dX3_differOn_1 : decode cX3_differOn 1 = .ok (.istore_n 2, 1) := by decide +kernel
theorem dX3_differOn_2 : decode cX3_differOn 2 = .ok (.iconst 0, 1) := by decide +kernel
theorem dX3_differOn_3 : decode cX3_differOn 3 = .ok (.istore_n 3, 1) := by decide +kernel
theorem dX3_differOn_4 : decode cX3_differOn 4 = .ok (.iload_n 3, 1) := by decide +kernel
theorem dX3_differOn_5 : decode cX3_differOn 5 = .ok (.aload_n 0, 1) := by decide +kernel
theorem dX3_differOn_6 : decode cX3_differOn 6 = .ok (.getfield 30, 3) := by decide +kernel
theorem dX3_differOn_9 : decode cX3_differOn 9 = .ok (.if_icmp .ge 45, 3) := by decide +kernel
theorem dX3_differOn_12 : decode cX3_differOn 12 = .ok (.aload_n 0, 1) := by decide +kernel
theorem dX3_differOn_13 : decode cX3_differOn 13 = .ok (.iload_n 3, 1) := by decide +kernel
theorem dX3_differOn_14 : decode cX3_differOn 14 = .ok (.iload_n 1, 1) := by decide +kernel
theorem dX3_differOn_15 : decode cX3_differOn 15 = .ok (.invokevirtual 37, 3) := by decide +kernel
theorem dX3_differOn_18 : decode cX3_differOn 18 = .ok (.ifCond .ne 6, 3) := by decide +kernel
theorem dX3_differOn_21 : decode cX3_differOn 21 = .ok (.goto 27, 3) := by decide +kernel
theorem dX3_differOn_24 : decode cX3_differOn 24 = .ok (.iload_n 2, 1) := by decide +kernel
theorem dX3_differOn_25 : decode cX3_differOn 25 = .ok (.iconst (-1), 1) := by decide +kernel
theorem dX3_differOn_26 : decode cX3_differOn 26 = .ok (.if_icmp .eq 15, 3) := by decide +kernel
theorem dX3_differOn_29 : decode cX3_differOn 29 = .ok (.iload_n 2, 1) := by decide +kernel
theorem dX3_differOn_30 : decode cX3_differOn 30 = .ok (.aload_n 0, 1) := by decide +kernel
theorem dX3_differOn_31 : decode cX3_differOn 31 = .ok (.getfield 18, 3) := by decide +kernel
theorem dX3_differOn_34 : decode cX3_differOn 34 = .ok (.iload_n 3, 1) := by decide +kernel
theorem dX3_differOn_35 : decode cX3_differOn 35 = .ok (.iaload, 1) := by decide +kernel
theorem dX3_differOn_36 : decode cX3_differOn 36 = .ok (.if_icmp .eq 5, 3) := by decide +kernel
theorem dX3_differOn_39 : decode cX3_differOn 39 = .ok (.iconst 1, 1) := by decide +kernel
theorem dX3_differOn_40 : decode cX3_differOn 40 = .ok (.ireturn, 1) := by decide +kernel
theorem dX3_differOn_41 : decode cX3_differOn 41 = .ok (.aload_n 0, 1) := by decide +kernel
theorem dX3_differOn_42 : decode cX3_differOn 42 = .ok (.getfield 18, 3) := by decide +kernel
theorem dX3_differOn_45 : decode cX3_differOn 45 = .ok (.iload_n 3, 1) := by decide +kernel
theorem dX3_differOn_46 : decode cX3_differOn 46 = .ok (.iaload, 1) := by decide +kernel
theorem dX3_differOn_47 : decode cX3_differOn 47 = .ok (.istore_n 2, 1) := by decide +kernel
theorem dX3_differOn_48 : decode cX3_differOn 48 = .ok (.iinc 3 1, 3) := by decide +kernel
theorem dX3_differOn_51 : decode cX3_differOn 51 = .ok (.goto (-47), 3) := by decide +kernel
theorem dX3_differOn_54 : decode cX3_differOn 54 = .ok (.iconst 0, 1) := by decide +kernel
theorem dX3_differOn_55 : decode cX3_differOn 55 = .ok (.ireturn, 1) := by decide +kernel
theorem dX4_init_0 : decode cX4_init 0 = .ok (.aload_n 0, 1) := by decide +kernel
theorem dX4_init_1 : decode cX4_init 1 = .ok (.invokespecial 3, 3) := by decide +kernel
theorem dX4_init_4 : decode cX4_init 4 = .ok (.aload_n 0, 1) := by decide +kernel
theorem dX4_init_5 : decode cX4_init 5 = .ok (.bipush 10, 2) := by decide +kernel
theorem dX4_init_7 : decode cX4_init 7 = .ok (.iconst 5, 1) := by decide +kernel
theorem dX4_init_8 : decode cX4_init 8 = .ok (.multianewarray 9 2, 4) := by decide +kernel
theorem dX4_init_12 : decode cX4_init 12 = .ok (.putfield 11, 3) := by decide +kernel
theorem dX4_init_15 : decode cX4_init 15 = .ok (.iconst 0, 1) := by decide +kernel
theorem dX4_init_16 : decode cX4_init 16 = .ok (.istore_n 1, 1) := by decide +kernel
theorem dX4_init_17 : decode cX4_init 17 = .ok (.iload_n 1, 1) := by decide +kernel
theorem dX4_init_18 : decode cX4_init 18 = .ok (.bipush 10, 2) := by decide +kernel
theorem dX4_init_20 : decode cX4_init 20 = .ok (.if_icmp .ge 19, 3) := by decide +kernel
theorem dX4_init_23 : decode cX4_init 23 = .ok (.aload_n 0, 1) := by decide +kernel
theorem dX4_init_24 : decode cX4_init 24 = .ok (.getfield 11, 3) := by decide +kernel
theorem dX4_init_27 : decode cX4_init 27 = .ok (.iload_n 1, 1) := by decide +kernel
theorem dX4_init_28 : decode cX4_init 28 = .ok (.aaload, 1) := by decide +kernel
theorem dX4_init_29 : decode cX4_init 29 = .ok (.iconst (-1), 1) := by decide +kernel
theorem dX4_init_30 : decode cX4_init 30 = .ok (.invokestatic 16, 3) := by decide +kernel
theorem dX4_init_33 : decode cX4_init 33 = .ok (.iinc 1 1, 3) := by decide +kernel
theorem dX4_init_36 : decode cX4_init 36 = .ok (.goto (-19), 3) := by decide +kernel
theorem dX4_init_39 : decode cX4_init 39 = .ok (.return_, 1) := by decide +kernel
theorem dX4_shiftOf_0 : decode cX4_shiftOf 0 = .ok (.iconst 0, 1) := by decide +kernel
theorem dX4_shiftOf_1 : decode cX4_shiftOf 1 = .ok (.istore_n 2, 1) := by decide +kernel
theorem dX4_shiftOf_2 : decode cX4_shiftOf 2 = .ok (.iconst 0, 1) := by decide +kernel
theorem dX4_shiftOf_3 : decode cX4_shiftOf 3 = .ok (.istore_n 3, 1) := by decide +kernel
theorem dX4_shiftOf_4 : decode cX4_shiftOf 4 = .ok (.iconst 0, 1) := by decide +kernel
theorem dX4_shiftOf_5 : decode cX4_shiftOf 5 = .ok (.istore 4, 2) := by decide +kernel
theorem dX4_shiftOf_7 : decode cX4_shiftOf 7 = .ok (.iload 4, 2) := by decide +kernel
theorem dX4_shiftOf_9 : decode cX4_shiftOf 9 = .ok (.bipush 10, 2) := by decide +kernel
theorem dX4_shiftOf_11 : decode cX4_shiftOf 11 = .ok (.if_icmp .ge 54, 3) := by decide +kernel
theorem dX4_shiftOf_14 : decode cX4_shiftOf 14 = .ok (.aload_n 0, 1) := by decide +kernel
theorem dX4_shiftOf_15 : decode cX4_shiftOf 15 = .ok (.getfield 11, 3) := by decide +kernel
theorem dX4_shiftOf_18 : decode cX4_shiftOf 18 = .ok (.iload 4, 2) := by decide +kernel
theorem dX4_shiftOf_20 : decode cX4_shiftOf 20 = .ok (.aaload, 1) := by decide +kernel
theorem dX4_shiftOf_21 : decode cX4_shiftOf 21 = .ok (.iload_n 1, 1) := by decide +kernel
theorem dX4_shiftOf_22 : decode cX4_shiftOf 22 = .ok (.iaload, 1) := by decide +kernel
theorem dX4_shiftOf_23 : decode cX4_shiftOf 23 = .ok (.istore 5, 2) := by decide +kernel
theorem dX4_shiftOf_25 : decode cX4_shiftOf 25 = .ok (.aload_n 0, 1) := by decide +kernel
theorem dX4_shiftOf_26 : decode cX4_shiftOf 26 = .ok (.getfield 11, 3) := by decide +kernel
theorem dX4_shiftOf_29 : decode cX4_shiftOf 29 = .ok (.iload 4, 2) := by decide +kernel
theorem dX4_shiftOf_31 : decode cX4_shiftOf 31 = .ok (.aaload, 1) := by decide +kernel
theorem dX4_shiftOf_32 : decode cX4_shiftOf 32 = .ok (.iconst 0, 1) := by decide +kernel
theorem dX4_shiftOf_33 : decode cX4_shiftOf 33 = .ok (.iaload, 1) := by decide +kernel
theorem dX4_shiftOf_34 : decode cX4_shiftOf 34 = .ok (.istore 6, 2) := by decide +kernel
theorem dX4_shiftOf_36 : decode cX4_shiftOf 36 = .ok (.iload 5, 2) := by decide +kernel
theorem dX4_shiftOf_38 : decode cX4_shiftOf 38 = .ok (.iconst (-1), 1) := by decide +kernel
theorem dX4_shiftOf_39 : decode cX4_shiftOf 39 = .ok (.if_icmp .eq 20, 3) := by decide +kernel
theorem dX4_shiftOf_42 : decode cX4_shiftOf 42 = .ok (.iload 6, 2) := by decide +kernel
theorem dX4_shiftOf_44 : decode cX4_shiftOf 44 = .ok (.iconst (-1), 1) := by decide +kernel
theorem dX4_shiftOf_45 : decode cX4_shiftOf 45 = .ok (.if_icmp .eq 14, 3) := by decide +kernel
theorem dX4_shiftOf_48 : decode cX4_shiftOf 48 = .ok (.iload_n 2, 1) := by decide +kernel
theorem dX4_shiftOf_49 : decode cX4_shiftOf 49 = .ok (.iload 5, 2) := by decide +kernel
theorem dX4_shiftOf_51 : decode cX4_shiftOf 51 = .ok (.iload 6, 2) := by decide +kernel
theorem dX4_shiftOf_53 : decode cX4_shiftOf 53 = .ok (.isub, 1) := by decide +kernel
theorem dX4_shiftOf_54 : decode cX4_shiftOf 54 = .ok (.iadd, 1) := by decide +kernel
theorem dX4_shiftOf_55 : decode cX4_shiftOf 55 = .ok (.istore_n 2, 1) := by decide +kernel
theorem dX4_shiftOf_56 : decode cX4_shiftOf 56 = .ok (.iinc 3 1, 3) := by decide +kernel
theorem dX4_shiftOf_59 : decode cX4_shiftOf 59 = .ok (.iinc 4 1, 3) := by decide +kernel
theorem dX4_shiftOf_62 : decode cX4_shiftOf 62 = .ok (.goto (-55), 3) := by decide +kernel
theorem dX4_shiftOf_65 : decode cX4_shiftOf 65 = .ok (.iload_n 3, 1) := by decide +kernel
theorem dX4_shiftOf_66 : decode cX4_shiftOf 66 = .ok (.ifCond .ne 7, 3) := by decide +kernel
theorem dX4_shiftOf_69 : decode cX4_shiftOf 69 = .ok (.iconst 0, 1) := by decide +kernel
theorem dX4_shiftOf_70 : decode cX4_shiftOf 70 = .ok (.goto 6, 3) := by decide +kernel
theorem dX4_shiftOf_73 : decode cX4_shiftOf 73 = .ok (.iload_n 2, 1) := by decide +kernel
theorem dX4_shiftOf_74 : decode cX4_shiftOf 74 = .ok (.iload_n 3, 1) := by decide +kernel
theorem dX4_shiftOf_75 : decode cX4_shiftOf 75 = .ok (.idiv, 1) := by decide +kernel
theorem dX4_shiftOf_76 : decode cX4_shiftOf 76 = .ok (.ireturn, 1) := by decide +kernel
theorem dX4_onScale_0 : decode cX4_onScale 0 = .ok (.aload_n 0, 1) := by decide +kernel
theorem dX4_onScale_1 : decode cX4_onScale 1 = .ok (.getfield 11, 3) := by decide +kernel
theorem dX4_onScale_4 : decode cX4_onScale 4 = .ok (.iload_n 1, 1) := by decide +kernel
theorem dX4_onScale_5 : decode cX4_onScale 5 = .ok (.aaload, 1) := by decide +kernel
theorem dX4_onScale_6 : decode cX4_onScale 6 = .ok (.iload_n 2, 1) := by decide +kernel
theorem dX4_onScale_7 : decode cX4_onScale 7 = .ok (.iaload, 1) := by decide +kernel
theorem dX4_onScale_8 : decode cX4_onScale 8 = .ok (.aload_n 0, 1) := by decide +kernel
theorem dX4_onScale_9 : decode cX4_onScale 9 = .ok (.iload_n 2, 1) := by decide +kernel
theorem dX4_onScale_10 : decode cX4_onScale 10 = .ok (.invokevirtual 22, 3) := by decide +kernel
theorem dX4_onScale_13 : decode cX4_onScale 13 = .ok (.isub, 1) := by decide +kernel
theorem dX4_onScale_14 : decode cX4_onScale 14 = .ok (.istore_n 3, 1) := by decide +kernel
theorem dX4_onScale_15 : decode cX4_onScale 15 = .ok (.iconst 0, 1) := by decide +kernel
theorem dX4_onScale_16 : decode cX4_onScale 16 = .ok (.bipush 100, 2) := by decide +kernel
theorem dX4_onScale_18 : decode cX4_onScale 18 = .ok (.iload_n 3, 1) := by decide +kernel
theorem dX4_onScale_19 : decode cX4_onScale 19 = .ok (.invokestatic 26, 3) := by decide +kernel
theorem dX4_onScale_22 : decode cX4_onScale 22 = .ok (.invokestatic 32, 3) := by decide +kernel
theorem dX4_onScale_25 : decode cX4_onScale 25 = .ok (.ireturn, 1) := by decide +kernel
theorem dX4_describe_0 : decode cX4_describe 0 = .ok (.iconst 0, 1) := by decide +kernel
theorem dX4_describe_1 : decode cX4_describe 1 = .ok (.istore_n 3, 1) := by decide +kernel
theorem dX4_describe_2 : decode cX4_describe 2 = .ok (.iconst 0, 1) := by decide +kernel
theorem dX4_describe_3 : decode cX4_describe 3 = .ok (.istore 4, 2) := by decide +kernel
theorem dX4_describe_5 : decode cX4_describe 5 = .ok (.bipush 100, 2) := by decide +kernel
theorem dX4_describe_7 : decode cX4_describe 7 = .ok (.istore 5, 2) := by decide +kernel
theorem dX4_describe_9 : decode cX4_describe 9 = .ok (.iconst 0, 1) := by decide +kernel
theorem dX4_describe_10 : decode cX4_describe 10 = .ok (.istore 6, 2) := by decide +kernel
theorem dX4_describe_12 : decode cX4_describe 12 = .ok (.iconst 0, 1) := by decide +kernel
theorem dX4_describe_13 : decode cX4_describe 13 = .ok (.istore 7, 2) := by decide +kernel
theorem dX4_describe_15 : decode cX4_describe 15 = .ok (.iload 7, 2) := by decide +kernel
theorem dX4_describe_17 : decode cX4_describe 17 = .ok (.iconst 5, 1) := by decide +kernel
theorem dX4_describe_18 : decode cX4_describe 18 = .ok (.if_icmp .ge 59, 3) := by decide +kernel
theorem dX4_describe_21 : decode cX4_describe 21 = .ok (.aload_n 0, 1) := by decide +kernel
theorem dX4_describe_22 : decode cX4_describe 22 = .ok (.getfield 11, 3) := by decide +kernel
theorem dX4_describe_25 : decode cX4_describe 25 = .ok (.iload_n 1, 1) := by decide +kernel
theorem dX4_describe_26 : decode cX4_describe 26 = .ok (.aaload, 1) := by decide +kernel
theorem dX4_describe_27 : decode cX4_describe 27 = .ok (.iload 7, 2) := by decide +kernel
theorem dX4_describe_29 : decode cX4_describe 29 = .ok (.iaload, 1) := by decide +kernel
theorem dX4_describe_30 : decode cX4_describe 30 = .ok (.iconst (-1), 1) := by decide +kernel
theorem dX4_describe_31 : decode cX4_describe 31 = .ok (.if_icmp .eq 40, 3) := by decide +kernel
theorem dX4_describe_34 : decode cX4_describe 34 = .ok (.aload_n 0, 1) := by decide +kernel
theorem dX4_describe_35 : decode cX4_describe 35 = .ok (.iload_n 1, 1) := by decide +kernel
theorem dX4_describe_36 : decode cX4_describe 36 = .ok (.iload 7, 2) := by decide +kernel
theorem dX4_describe_38 : decode cX4_describe 38 = .ok (.invokevirtual 35, 3) := by decide +kernel
theorem dX4_describe_41 : decode cX4_describe 41 = .ok (.istore 8, 2) := by decide +kernel
theorem dX4_describe_43 : decode cX4_describe 43 = .ok (.iinc 3 1, 3) := by decide +kernel
theorem dX4_describe_46 : decode cX4_describe 46 = .ok (.iload 4, 2) := by decide +kernel
theorem dX4_describe_48 : decode cX4_describe 48 = .ok (.iload 8, 2) := by decide +kernel
theorem dX4_describe_50 : decode cX4_describe 50 = .ok (.iadd, 1) := by decide +kernel
theorem dX4_describe_51 : decode cX4_describe 51 = .ok (.istore 4, 2) := by decide +kernel
theorem dX4_describe_53 : decode cX4_describe 53 = .ok (.iload 5, 2) := by decide +kernel
theorem dX4_describe_55 : decode cX4_describe 55 = .ok (.iload 8, 2) := by decide +kernel
theorem dX4_describe_57 : decode cX4_describe 57 = .ok (.invokestatic 26, 3) := by decide +kernel
theorem dX4_describe_60 : decode cX4_describe 60 = .ok (.istore 5, 2) := by decide +kernel
theorem dX4_describe_62 : decode cX4_describe 62 = .ok (.iload 6, 2) := by decide +kernel
theorem dX4_describe_64 : decode cX4_describe 64 = .ok (.iload 8, 2) := by decide +kernel
theorem dX4_describe_66 : decode cX4_describe 66 = .ok (.invokestatic 32, 3) := by decide +kernel
theorem dX4_describe_69 : decode cX4_describe 69 = .ok (.istore 6, 2) := by decide +kernel
theorem dX4_describe_71 : decode cX4_describe 71 = .ok (.iinc 7 1, 3) := by decide +kernel
theorem dX4_describe_74 : decode cX4_describe 74 = .ok (.goto (-59), 3) := by decide +kernel
theorem dX4_describe_77 : decode cX4_describe 77 = .ok (.aload_n 2, 1) := by decide +kernel
theorem dX4_describe_78 : decode cX4_describe 78 = .ok (.iconst 0, 1) := by decide +kernel
theorem dX4_describe_79 : decode cX4_describe 79 = .ok (.iload_n 3, 1) := by decide +kernel
theorem dX4_describe_80 : decode cX4_describe 80 = .ok (.iastore, 1) := by decide +kernel
theorem dX4_describe_81 : decode cX4_describe 81 = .ok (.aload_n 2, 1) := by decide +kernel
theorem dX4_describe_82 : decode cX4_describe 82 = .ok (.iconst 1, 1) := by decide +kernel
theorem dX4_describe_83 : decode cX4_describe 83 = .ok (.iload_n 3, 1) := by decide +kernel
theorem dX4_describe_84 : decode cX4_describe 84 = .ok (.ifCond .ne 7, 3) := by decide +kernel
theorem dX4_describe_87 : decode cX4_describe 87 = .ok (.iconst 0, 1) := by decide +kernel
theorem dX4_describe_88 : decode cX4_describe 88 = .ok (.goto 7, 3) := by decide +kernel
theorem dX4_describe_91 : decode cX4_describe 91 = .ok (.iload 4, 2) := by decide +kernel
theorem dX4_describe_93 : decode cX4_describe 93 = .ok (.iload_n 3, 1) := by decide +kernel
theorem dX4_describe_94 : decode cX4_describe 94 = .ok (.idiv, 1) := by decide +kernel
theorem dX4_describe_95 : decode cX4_describe 95 = .ok (.iastore, 1) := by decide +kernel
theorem dX4_describe_96 : decode cX4_describe 96 = .ok (.aload_n 2, 1) := by decide +kernel
theorem dX4_describe_97 : decode cX4_describe 97 = .ok (.iconst 2, 1) := by decide +kernel
theorem dX4_describe_98 : decode cX4_describe 98 = .ok (.iload_n 3, 1) := by decide +kernel
theorem dX4_describe_99 : decode cX4_describe 99 = .ok (.ifCond .ne 7, 3) := by decide +kernel
theorem dX4_describe_102 : decode cX4_describe 102 = .ok (.iconst 0, 1) := by decide +kernel
theorem dX4_describe_103 : decode cX4_describe 103 = .ok (.goto 5, 3) := by decide +kernel
theorem dX4_describe_106 : decode cX4_describe 106 = .ok (.iload 5, 2) := by decide +kernel
theorem dX4_describe_108 : decode cX4_describe 108 = .ok (.iastore, 1) := by decide +kernel
theorem dX4_describe_109 : decode cX4_describe 109 = .ok (.aload_n 2, 1) := by decide +kernel
theorem dX4_describe_110 : decode cX4_describe 110 = .ok (.iconst 3, 1) := by decide +kernel
theorem dX4_describe_111 : decode cX4_describe 111 = .ok (.iload 6, 2) := by decide +kernel
theorem dX4_describe_113 : decode cX4_describe 113 = .ok (.iastore, 1) := by decide +kernel
theorem dX4_describe_114 : decode cX4_describe 114 = .ok (.return_, 1) := by decide +kernel
theorem dX5_init_0 : decode cX5_init 0 = .ok (.aload_n 0, 1) := by decide +kernel
theorem dX5_init_1 : decode cX5_init 1 = .ok (.invokespecial 3, 3) := by decide +kernel
theorem dX5_init_4 : decode cX5_init 4 = .ok (.aload_n 0, 1) := by decide +kernel
theorem dX5_init_5 : decode cX5_init 5 = .ok (.new 9, 3) := by decide +kernel
theorem dX5_init_8 : decode cX5_init 8 = .ok (.dup, 1) := by decide +kernel
theorem dX5_init_9 : decode cX5_init 9 = .ok (.invokespecial 11, 3) := by decide +kernel
theorem dX5_init_12 : decode cX5_init 12 = .ok (.putfield 12, 3) := by decide +kernel
theorem dX5_init_15 : decode cX5_init 15 = .ok (.aload_n 0, 1) := by decide +kernel
theorem dX5_init_16 : decode cX5_init 16 = .ok (.new 18, 3) := by decide +kernel
theorem dX5_init_19 : decode cX5_init 19 = .ok (.dup, 1) := by decide +kernel
theorem dX5_init_20 : decode cX5_init 20 = .ok (.invokespecial 20, 3) := by decide +kernel
theorem dX5_init_23 : decode cX5_init 23 = .ok (.putfield 21, 3) := by decide +kernel
theorem dX5_init_26 : decode cX5_init 26 = .ok (.return_, 1) := by decide +kernel
theorem dX5_parse_0 : decode cX5_parse 0 = .ok (.aload_n 0, 1) := by decide +kernel
theorem dX5_parse_1 : decode cX5_parse 1 = .ok (.getfield 12, 3) := by decide +kernel
theorem dX5_parse_4 : decode cX5_parse 4 = .ok (.aload_n 1, 1) := by decide +kernel
theorem dX5_parse_5 : decode cX5_parse 5 = .ok (.invokevirtual 25, 3) := by decide +kernel
theorem dX5_parse_8 : decode cX5_parse 8 = .ok (.aload_n 0, 1) := by decide +kernel
theorem dX5_parse_9 : decode cX5_parse 9 = .ok (.getfield 21, 3) := by decide +kernel
theorem dX5_parse_12 : decode cX5_parse 12 = .ok (.invokevirtual 29, 3) := by decide +kernel
theorem dX5_parse_15 : decode cX5_parse 15 = .ok (.aload_n 0, 1) := by decide +kernel
theorem dX5_parse_16 : decode cX5_parse 16 = .ok (.iconst 0, 1) := by decide +kernel
theorem dX5_parse_17 : decode cX5_parse 17 = .ok (.putfield 32, 3) := by decide +kernel
theorem dX5_parse_20 : decode cX5_parse 20 = .ok (.aload_n 0, 1) := by decide +kernel
theorem dX5_parse_21 : decode cX5_parse 21 = .ok (.iconst 0, 1) := by decide +kernel
theorem dX5_parse_22 : decode cX5_parse 22 = .ok (.putfield 36, 3) := by decide +kernel
theorem dX5_parse_25 : decode cX5_parse 25 = .ok (.iconst 0, 1) := by decide +kernel
theorem dX5_parse_26 : decode cX5_parse 26 = .ok (.istore_n 2, 1) := by decide +kernel
theorem dX5_parse_27 : decode cX5_parse 27 = .ok (.iload_n 2, 1) := by decide +kernel
theorem dX5_parse_28 : decode cX5_parse 28 = .ok (.bipush 16, 2) := by decide +kernel
theorem dX5_parse_30 : decode cX5_parse 30 = .ok (.if_icmp .gt 29, 3) := by decide +kernel
theorem dX5_parse_33 : decode cX5_parse 33 = .ok (.aload_n 0, 1) := by decide +kernel
theorem dX5_parse_34 : decode cX5_parse 34 = .ok (.invokevirtual 39, 3) := by decide +kernel
theorem dX5_parse_37 : decode cX5_parse 37 = .ok (.ifCond .eq 22, 3) := by decide +kernel
theorem dX5_parse_40 : decode cX5_parse 40 = .ok (.aload_n 0, 1) := by decide +kernel
theorem dX5_parse_41 : decode cX5_parse 41 = .ok (.iload_n 2, 1) := by decide +kernel
theorem dX5_parse_42 : decode cX5_parse 42 = .ok (.invokevirtual 43, 3) := by decide +kernel
theorem dX5_parse_45 : decode cX5_parse 45 = .ok (.ifCond .ne 8, 3) := by decide +kernel
theorem dX5_parse_48 : decode cX5_parse 48 = .ok (.aload_n 0, 1) := by decide +kernel
theorem dX5_parse_49 : decode cX5_parse 49 = .ok (.getfield 36, 3) := by decide +kernel
theorem dX5_parse_52 : decode cX5_parse 52 = .ok (.ireturn, 1) := by decide +kernel
theorem dX5_parse_53 : decode cX5_parse 53 = .ok (.iinc 2 1, 3) := by decide +kernel
theorem dX5_parse_56 : decode cX5_parse 56 = .ok (.goto (-29), 3) := by decide +kernel
theorem dX5_parse_59 : decode cX5_parse 59 = .ok (.iconst 0, 1) := by decide +kernel
theorem dX5_parse_60 : decode cX5_parse 60 = .ok (.ireturn, 1) := by decide +kernel
theorem dX5_parseLine_0 : decode cX5_parseLine 0 = .ok (.aload_n 0, 1) := by decide +kernel
theorem dX5_parseLine_1 : decode cX5_parseLine 1 = .ok (.invokevirtual 39, 3) := by decide +kernel
theorem dX5_parseLine_4 : decode cX5_parseLine 4 = .ok (.sipush 201, 3) := by decide +kernel
theorem dX5_parseLine_7 : decode cX5_parseLine 7 = .ok (.if_icmp .eq 9, 3) := by decide +kernel
theorem dX5_parseLine_10 : decode cX5_parseLine 10 = .ok (.aload_n 0, 1) := by decide +kernel
theorem dX5_parseLine_11 : decode cX5_parseLine 11 = .ok (.iconst 1, 1) := by decide +kernel
theorem dX5_parseLine_12 : decode cX5_parseLine 12 = .ok (.invokevirtual 47, 3) := by decide +kernel
theorem dX5_parseLine_15 : decode cX5_parseLine 15 = .ok (.ireturn, 1) := by decide +kernel
theorem dX5_parseLine_16 : decode cX5_parseLine 16 = .ok (.iload_n 1, 1) := by decide +kernel
theorem dX5_parseLine_17 : decode cX5_parseLine 17 = .ok (.bipush 16, 2) := by decide +kernel
theorem dX5_parseLine_19 : decode cX5_parseLine 19 = .ok (.if_icmp .lt 9, 3) := by decide +kernel
theorem dX5_parseLine_22 : decode cX5_parseLine 22 = .ok (.aload_n 0, 1) := by decide +kernel
theorem dX5_parseLine_23 : decode cX5_parseLine 23 = .ok (.iconst 5, 1) := by decide +kernel
theorem dX5_parseLine_24 : decode cX5_parseLine 24 = .ok (.invokevirtual 47, 3) := by decide +kernel
theorem dX5_parseLine_27 : decode cX5_parseLine 27 = .ok (.ireturn, 1) := by decide +kernel
theorem dX5_parseLine_28 : decode cX5_parseLine 28 = .ok (.aload_n 0, 1) := by decide +kernel
theorem dX5_parseLine_29 : decode cX5_parseLine 29 = .ok (.dup, 1) := by decide +kernel
theorem dX5_parseLine_30 : decode cX5_parseLine 30 = .ok (.getfield 32, 3) := by decide +kernel
theorem dX5_parseLine_33 : decode cX5_parseLine 33 = .ok (.iconst 1, 1) := by decide +kernel
theorem dX5_parseLine_34 : decode cX5_parseLine 34 = .ok (.iadd, 1) := by decide +kernel
theorem dX5_parseLine_35 : decode cX5_parseLine 35 = .ok (.putfield 32, 3) := by decide +kernel
theorem dX5_parseLine_38 : decode cX5_parseLine 38 = .ok (.aload_n 0, 1) := by decide +kernel
theorem dX5_parseLine_39 : decode cX5_parseLine 39 = .ok (.invokevirtual 39, 3) := by decide +kernel
theorem dX5_parseLine_42 : decode cX5_parseLine 42 = .ok (.iconst 2, 1) := by decide +kernel
theorem dX5_parseLine_43 : decode cX5_parseLine 43 = .ok (.if_icmp .eq 9, 3) := by decide +kernel
theorem dX5_parseLine_46 : decode cX5_parseLine 46 = .ok (.aload_n 0, 1) := by decide +kernel
theorem dX5_parseLine_47 : decode cX5_parseLine 47 = .ok (.iconst 1, 1) := by decide +kernel
theorem dX5_parseLine_48 : decode cX5_parseLine 48 = .ok (.invokevirtual 47, 3) := by decide +kernel
theorem dX5_parseLine_51 : decode cX5_parseLine 51 = .ok (.ireturn, 1) := by decide +kernel
theorem dX5_parseLine_52 : decode cX5_parseLine 52 = .ok (.aload_n 0, 1) := by decide +kernel
theorem dX5_parseLine_53 : decode cX5_parseLine 53 = .ok (.getfield 12, 3) := by decide +kernel
theorem dX5_parseLine_56 : decode cX5_parseLine 56 = .ok (.getfield 50, 3) := by decide +kernel
theorem dX5_parseLine_59 : decode cX5_parseLine 59 = .ok (.aload_n 0, 1) := by decide +kernel
theorem dX5_parseLine_60 : decode cX5_parseLine 60 = .ok (.getfield 32, 3) := by decide +kernel
theorem dX5_parseLine_63 : decode cX5_parseLine 63 = .ok (.iaload, 1) := by decide +kernel
theorem dX5_parseLine_64 : decode cX5_parseLine 64 = .ok (.istore_n 2, 1) := by decide +kernel
theorem dX5_parseLine_65 : decode cX5_parseLine 65 = .ok (.iload_n 2, 1) := by decide +kernel
theorem dX5_parseLine_66 : decode cX5_parseLine 66 = .ok (.iconst 5, 1) := by decide +kernel
theorem dX5_parseLine_67 : decode cX5_parseLine 67 = .ok (.if_icmp .le 9, 3) := by decide +kernel
theorem dX5_parseLine_70 : decode cX5_parseLine 70 = .ok (.aload_n 0, 1) := by decide +kernel
theorem dX5_parseLine_71 : decode cX5_parseLine 71 = .ok (.iconst 4, 1) := by decide +kernel
theorem dX5_parseLine_72 : decode cX5_parseLine 72 = .ok (.invokevirtual 47, 3) := by decide +kernel
theorem dX5_parseLine_75 : decode cX5_parseLine 75 = .ok (.ireturn, 1) := by decide +kernel
theorem dX5_parseLine_76 : decode cX5_parseLine 76 = .ok (.aload_n 0, 1) := by decide +kernel
theorem dX5_parseLine_77 : decode cX5_parseLine 77 = .ok (.dup, 1) := by decide +kernel
theorem dX5_parseLine_78 : decode cX5_parseLine 78 = .ok (.getfield 32, 3) := by decide +kernel
theorem dX5_parseLine_81 : decode cX5_parseLine 81 = .ok (.iconst 1, 1) := by decide +kernel
theorem dX5_parseLine_82 : decode cX5_parseLine 82 = .ok (.iadd, 1) := by decide +kernel
theorem dX5_parseLine_83 : decode cX5_parseLine 83 = .ok (.putfield 32, 3) := by decide +kernel
theorem dX5_parseLine_86 : decode cX5_parseLine 86 = .ok (.aload_n 0, 1) := by decide +kernel
theorem dX5_parseLine_87 : decode cX5_parseLine 87 = .ok (.sipush 202, 3) := by decide +kernel
theorem dX5_parseLine_90 : decode cX5_parseLine 90 = .ok (.invokevirtual 54, 3) := by decide +kernel
theorem dX5_parseLine_93 : decode cX5_parseLine 93 = .ok (.ifCond .eq 21, 3) := by decide +kernel
theorem dX5_parseLine_96 : decode cX5_parseLine 96 = .ok (.aload_n 0, 1) := by decide +kernel
theorem dX5_parseLine_97 : decode cX5_parseLine 97 = .ok (.iconst 0, 1) := by decide +kernel
theorem dX5_parseLine_98 : decode cX5_parseLine 98 = .ok (.iconst 0, 1) := by decide +kernel
theorem dX5_parseLine_99 : decode cX5_parseLine 99 = .ok (.invokevirtual 57, 3) := by decide +kernel
theorem dX5_parseLine_102 : decode cX5_parseLine 102 = .ok (.ifCond .eq 12, 3) := by decide +kernel
theorem dX5_parseLine_105 : decode cX5_parseLine 105 = .ok (.aload_n 0, 1) := by decide +kernel
theorem dX5_parseLine_106 : decode cX5_parseLine 106 = .ok (.bipush 59, 2) := by decide +kernel
theorem dX5_parseLine_108 : decode cX5_parseLine 108 = .ok (.invokevirtual 54, 3) := by decide +kernel
theorem dX5_parseLine_111 : decode cX5_parseLine 111 = .ok (.ifCond .ne 5, 3) := by decide +kernel
theorem dX5_parseLine_114 : decode cX5_parseLine 114 = .ok (.iconst 0, 1) := by decide +kernel
theorem dX5_parseLine_115 : decode cX5_parseLine 115 = .ok (.ireturn, 1) := by decide +kernel
theorem dX5_parseLine_116 : decode cX5_parseLine 116 = .ok (.aload_n 0, 1) := by decide +kernel
theorem dX5_parseLine_117 : decode cX5_parseLine 117 = .ok (.getfield 21, 3) := by decide +kernel
theorem dX5_parseLine_120 : decode cX5_parseLine 120 = .ok (.iload_n 2, 1) := by decide +kernel
theorem dX5_parseLine_121 : decode cX5_parseLine 121 = .ok (.invokevirtual 61, 3) := by decide +kernel
theorem dX5_parseLine_124 : decode cX5_parseLine 124 = .ok (.iconst 1, 1) := by decide +kernel
theorem dX5_parseLine_125 : decode cX5_parseLine 125 = .ok (.ireturn, 1) := by decide +kernel
theorem dX5_parseJoined_0 : decode cX5_parseJoined 0 = .ok (.iload_n 1, 1) := by decide +kernel
theorem dX5_parseJoined_1 : decode cX5_parseJoined 1 = .ok (.iconst 2, 1) := by decide +kernel
theorem dX5_parseJoined_2 : decode cX5_parseJoined 2 = .ok (.if_icmp .le 9, 3) := by decide +kernel
theorem dX5_parseJoined_5 : decode cX5_parseJoined 5 = .ok (.aload_n 0, 1) := by decide +kernel
theorem dX5_parseJoined_6 : decode cX5_parseJoined 6 = .ok (.iload_n 2, 1) := by decide +kernel
theorem dX5_parseJoined_7 : decode cX5_parseJoined 7 = .ok (.invokevirtual 65, 3) := by decide +kernel
theorem dX5_parseJoined_10 : decode cX5_parseJoined 10 = .ok (.ireturn, 1) := by decide +kernel
theorem dX5_parseJoined_11 : decode cX5_parseJoined 11 = .ok (.aload_n 0, 1) := by decide +kernel
theorem dX5_parseJoined_12 : decode cX5_parseJoined 12 = .ok (.iload_n 1, 1) := by decide +kernel
theorem dX5_parseJoined_13 : decode cX5_parseJoined 13 = .ok (.iconst 1, 1) := by decide +kernel
theorem dX5_parseJoined_14 : decode cX5_parseJoined 14 = .ok (.iadd, 1) := by decide +kernel
theorem dX5_parseJoined_15 : decode cX5_parseJoined 15 = .ok (.iload_n 2, 1) := by decide +kernel
theorem dX5_parseJoined_16 : decode cX5_parseJoined 16 = .ok (.invokevirtual 57, 3) := by decide +kernel
theorem dX5_parseJoined_19 : decode cX5_parseJoined 19 = .ok (.ifCond .ne 5, 3) := by decide +kernel
theorem dX5_parseJoined_22 : decode cX5_parseJoined 22 = .ok (.iconst 0, 1) := by decide +kernel
theorem dX5_parseJoined_23 : decode cX5_parseJoined 23 = .ok (.ireturn, 1) := by decide +kernel
theorem dX5_parseJoined_24 : decode cX5_parseJoined 24 = .ok (.iload_n 1, 1) := by decide +kernel
theorem dX5_parseJoined_25 : decode cX5_parseJoined 25 = .ok (.iconst 1, 1) := by decide +kernel
theorem dX5_parseJoined_26 : decode cX5_parseJoined 26 = .ok (.if_icmp .ne 7, 3) := by decide +kernel
theorem dX5_parseJoined_29 : decode cX5_parseJoined 29 = .ok (.iconst 1, 1) := by decide +kernel
theorem dX5_parseJoined_30 : decode cX5_parseJoined 30 = .ok (.goto 6, 3) := by decide +kernel
theorem dX5_parseJoined_33 : decode cX5_parseJoined 33 = .ok (.sipush 600, 3) := by decide +kernel
theorem dX5_parseJoined_36 : decode cX5_parseJoined 36 = .ok (.istore_n 3, 1) := by decide +kernel
theorem dX5_parseJoined_37 : decode cX5_parseJoined 37 = .ok (.iconst 0, 1) := by decide +kernel
theorem dX5_parseJoined_38 : decode cX5_parseJoined 38 = .ok (.istore 4, 2) := by decide +kernel
theorem dX5_parseJoined_40 : decode cX5_parseJoined 40 = .ok (.iload 4, 2) := by decide +kernel
theorem dX5_parseJoined_42 : decode cX5_parseJoined 42 = .ok (.iload_n 3, 1) := by decide +kernel
theorem dX5_parseJoined_43 : decode cX5_parseJoined 43 = .ok (.if_icmp .ge 59, 3) := by decide +kernel
theorem dX5_parseJoined_46 : decode cX5_parseJoined 46 = .ok (.aload_n 0, 1) := by decide +kernel
theorem dX5_parseJoined_47 : decode cX5_parseJoined 47 = .ok (.invokevirtual 39, 3) := by decide +kernel
theorem dX5_parseJoined_50 : decode cX5_parseJoined 50 = .ok (.invokestatic 68, 3) := by decide +kernel
theorem dX5_parseJoined_53 : decode cX5_parseJoined 53 = .ok (.iload_n 1, 1) := by decide +kernel
theorem dX5_parseJoined_54 : decode cX5_parseJoined 54 = .ok (.if_icmp .ne 48, 3) := by decide +kernel
theorem dX5_parseJoined_57 : decode cX5_parseJoined 57 = .ok (.aload_n 0, 1) := by decide +kernel
theorem dX5_parseJoined_58 : decode cX5_parseJoined 58 = .ok (.invokevirtual 39, 3) := by decide +kernel
theorem dX5_parseJoined_61 : decode cX5_parseJoined 61 = .ok (.istore 5, 2) := by decide +kernel
theorem dX5_parseJoined_63 : decode cX5_parseJoined 63 = .ok (.aload_n 0, 1) := by decide +kernel
theorem dX5_parseJoined_64 : decode cX5_parseJoined 64 = .ok (.dup, 1) := by decide +kernel
theorem dX5_parseJoined_65 : decode cX5_parseJoined 65 = .ok (.getfield 32, 3) := by decide +kernel
theorem dX5_parseJoined_68 : decode cX5_parseJoined 68 = .ok (.iconst 1, 1) := by decide +kernel
theorem dX5_parseJoined_69 : decode cX5_parseJoined 69 = .ok (.iadd, 1) := by decide +kernel
theorem dX5_parseJoined_70 : decode cX5_parseJoined 70 = .ok (.putfield 32, 3) := by decide +kernel
theorem dX5_parseJoined_73 : decode cX5_parseJoined 73 = .ok (.aload_n 0, 1) := by decide +kernel
theorem dX5_parseJoined_74 : decode cX5_parseJoined 74 = .ok (.iload_n 1, 1) := by decide +kernel
theorem dX5_parseJoined_75 : decode cX5_parseJoined 75 = .ok (.iconst 1, 1) := by decide +kernel
theorem dX5_parseJoined_76 : decode cX5_parseJoined 76 = .ok (.iadd, 1) := by decide +kernel
theorem dX5_parseJoined_77 : decode cX5_parseJoined 77 = .ok (.iload_n 2, 1) := by decide +kernel
theorem dX5_parseJoined_78 : decode cX5_parseJoined 78 = .ok (.invokevirtual 57, 3) := by decide +kernel
theorem dX5_parseJoined_81 : decode cX5_parseJoined 81 = .ok (.ifCond .ne 5, 3) := by decide +kernel
theorem dX5_parseJoined_84 : decode cX5_parseJoined 84 = .ok (.iconst 0, 1) := by decide +kernel
theorem dX5_parseJoined_85 : decode cX5_parseJoined 85 = .ok (.ireturn, 1) := by decide +kernel
theorem dX5_parseJoined_86 : decode cX5_parseJoined 86 = .ok (.aload_n 0, 1) := by decide +kernel
theorem dX5_parseJoined_87 : decode cX5_parseJoined 87 = .ok (.getfield 21, 3) := by decide +kernel
theorem dX5_parseJoined_90 : decode cX5_parseJoined 90 = .ok (.iload 5, 2) := by decide +kernel
theorem dX5_parseJoined_92 : decode cX5_parseJoined 92 = .ok (.ineg, 1) := by decide +kernel
theorem dX5_parseJoined_93 : decode cX5_parseJoined 93 = .ok (.invokevirtual 72, 3) := by decide +kernel
theorem dX5_parseJoined_96 : decode cX5_parseJoined 96 = .ok (.iinc 4 1, 3) := by decide +kernel
theorem dX5_parseJoined_99 : decode cX5_parseJoined 99 = .ok (.goto (-59), 3) := by decide +kernel
theorem dX5_parseJoined_102 : decode cX5_parseJoined 102 = .ok (.iconst 1, 1) := by decide +kernel
theorem dX5_parseJoined_103 : decode cX5_parseJoined 103 = .ok (.ireturn, 1) := by decide +kernel
theorem dX5_parsePart_0 : decode cX5_parsePart 0 = .ok (.aload_n 0, 1) := by decide +kernel
theorem dX5_parsePart_1 : decode cX5_parsePart 1 = .ok (.invokevirtual 39, 3) := by decide +kernel
theorem dX5_parsePart_4 : decode cX5_parsePart 4 = .ok (.istore_n 2, 1) := by decide +kernel
theorem dX5_parsePart_5 : decode cX5_parsePart 5 = .ok (.iload_n 2, 1) := by decide +kernel
theorem dX5_parsePart_6 : decode cX5_parsePart 6 = .ok (.invokestatic 75, 3) := by decide +kernel
theorem dX5_parsePart_9 : decode cX5_parsePart 9 = .ok (.istore_n 3, 1) := by decide +kernel
theorem dX5_parsePart_10 : decode cX5_parsePart 10 = .ok (.iload_n 2, 1) := by decide +kernel
theorem dX5_parsePart_11 : decode cX5_parsePart 11 = .ok (.bipush 40, 2) := by decide +kernel
theorem dX5_parsePart_13 : decode cX5_parsePart 13 = .ok (.if_icmp .eq 18, 3) := by decide +kernel
theorem dX5_parsePart_16 : decode cX5_parsePart 16 = .ok (.iload_n 2, 1) := by decide +kernel
theorem dX5_parsePart_17 : decode cX5_parsePart 17 = .ok (.iconst 2, 1) := by decide +kernel
theorem dX5_parsePart_18 : decode cX5_parsePart 18 = .ok (.if_icmp .eq 13, 3) := by decide +kernel
theorem dX5_parsePart_21 : decode cX5_parsePart 21 = .ok (.iload_n 3, 1) := by decide +kernel
theorem dX5_parsePart_22 : decode cX5_parsePart 22 = .ok (.ifCond .ne 9, 3) := by decide +kernel
theorem dX5_parsePart_25 : decode cX5_parsePart 25 = .ok (.aload_n 0, 1) := by decide +kernel
theorem dX5_parsePart_26 : decode cX5_parsePart 26 = .ok (.iconst 1, 1) := by decide +kernel
theorem dX5_parsePart_27 : decode cX5_parsePart 27 = .ok (.invokevirtual 47, 3) := by decide +kernel
theorem dX5_parsePart_30 : decode cX5_parsePart 30 = .ok (.ireturn, 1) := by decide +kernel
theorem dX5_parsePart_31 : decode cX5_parsePart 31 = .ok (.iload_n 1, 1) := by decide +kernel
theorem dX5_parsePart_32 : decode cX5_parsePart 32 = .ok (.iconst 5, 1) := by decide +kernel
theorem dX5_parsePart_33 : decode cX5_parsePart 33 = .ok (.if_icmp .lt 9, 3) := by decide +kernel
theorem dX5_parsePart_36 : decode cX5_parsePart 36 = .ok (.aload_n 0, 1) := by decide +kernel
theorem dX5_parsePart_37 : decode cX5_parsePart 37 = .ok (.iconst 5, 1) := by decide +kernel
theorem dX5_parsePart_38 : decode cX5_parsePart 38 = .ok (.invokevirtual 47, 3) := by decide +kernel
theorem dX5_parsePart_41 : decode cX5_parsePart 41 = .ok (.ireturn, 1) := by decide +kernel
theorem dX5_parsePart_42 : decode cX5_parsePart 42 = .ok (.iload_n 2, 1) := by decide +kernel
theorem dX5_parsePart_43 : decode cX5_parsePart 43 = .ok (.bipush 40, 2) := by decide +kernel
theorem dX5_parsePart_45 : decode cX5_parsePart 45 = .ok (.if_icmp .ne 39, 3) := by decide +kernel
theorem dX5_parsePart_48 : decode cX5_parsePart 48 = .ok (.aload_n 0, 1) := by decide +kernel
theorem dX5_parsePart_49 : decode cX5_parsePart 49 = .ok (.dup, 1) := by decide +kernel
theorem dX5_parsePart_50 : decode cX5_parsePart 50 = .ok (.getfield 32, 3) := by decide +kernel
theorem dX5_parsePart_53 : decode cX5_parsePart 53 = .ok (.iconst 1, 1) := by decide +kernel
theorem dX5_parsePart_54 : decode cX5_parsePart 54 = .ok (.iadd, 1) := by decide +kernel
theorem dX5_parsePart_55 : decode cX5_parsePart 55 = .ok (.putfield 32, 3) := by decide +kernel
theorem dX5_parsePart_58 : decode cX5_parsePart 58 = .ok (.aload_n 0, 1) := by decide +kernel
theorem dX5_parsePart_59 : decode cX5_parsePart 59 = .ok (.iconst 0, 1) := by decide +kernel
theorem dX5_parsePart_60 : decode cX5_parsePart 60 = .ok (.iload_n 1, 1) := by decide +kernel
theorem dX5_parsePart_61 : decode cX5_parsePart 61 = .ok (.iconst 1, 1) := by decide +kernel
theorem dX5_parsePart_62 : decode cX5_parsePart 62 = .ok (.iadd, 1) := by decide +kernel
theorem dX5_parsePart_63 : decode cX5_parsePart 63 = .ok (.invokevirtual 57, 3) := by decide +kernel
theorem dX5_parsePart_66 : decode cX5_parsePart 66 = .ok (.ifCond .eq 16, 3) := by decide +kernel
theorem dX5_parsePart_69 : decode cX5_parsePart 69 = .ok (.aload_n 0, 1) := by decide +kernel
theorem dX5_parsePart_70 : decode cX5_parsePart 70 = .ok (.bipush 41, 2) := by decide +kernel
theorem dX5_parsePart_72 : decode cX5_parsePart 72 = .ok (.invokevirtual 54, 3) := by decide +kernel
theorem dX5_parsePart_75 : decode cX5_parsePart 75 = .ok (.ifCond .eq 7, 3) := by decide +kernel
theorem dX5_parsePart_78 : decode cX5_parsePart 78 = .ok (.iconst 1, 1) := by decide +kernel
theorem dX5_parsePart_79 : decode cX5_parsePart 79 = .ok (.goto 4, 3) := by decide +kernel
theorem dX5_parsePart_82 : decode cX5_parsePart 82 = .ok (.iconst 0, 1) := by decide +kernel
theorem dX5_parsePart_83 : decode cX5_parsePart 83 = .ok (.ireturn, 1) := by decide +kernel
theorem dX5_parsePart_84 : decode cX5_parsePart 84 = .ok (.aload_n 0, 1) := by decide +kernel
theorem dX5_parsePart_85 : decode cX5_parsePart 85 = .ok (.getfield 21, 3) := by decide +kernel
theorem dX5_parsePart_88 : decode cX5_parsePart 88 = .ok (.iload_n 3, 1) := by decide +kernel
theorem dX5_parsePart_89 : decode cX5_parsePart 89 = .ok (.ifCond .eq 8, 3) := by decide +kernel
theorem dX5_parsePart_92 : decode cX5_parsePart 92 = .ok (.iload_n 2, 1) := by decide +kernel
theorem dX5_parsePart_93 : decode cX5_parsePart 93 = .ok (.ineg, 1) := by decide +kernel
theorem dX5_parsePart_94 : decode cX5_parsePart 94 = .ok (.goto 15, 3) := by decide +kernel
theorem dX5_parsePart_97 : decode cX5_parsePart 97 = .ok (.aload_n 0, 1) := by decide +kernel
theorem dX5_parsePart_98 : decode cX5_parsePart 98 = .ok (.getfield 12, 3) := by decide +kernel
theorem dX5_parsePart_101 : decode cX5_parsePart 101 = .ok (.getfield 50, 3) := by decide +kernel
theorem dX5_parsePart_104 : decode cX5_parsePart 104 = .ok (.aload_n 0, 1) := by decide +kernel
theorem dX5_parsePart_105 : decode cX5_parsePart 105 = .ok (.getfield 32, 3) := by decide +kernel
theorem dX5_parsePart_108 : decode cX5_parsePart 108 = .ok (.iaload, 1) := by decide +kernel
theorem dX5_parsePart_109 : decode cX5_parsePart 109 = .ok (.invokevirtual 72, 3) := by decide +kernel
theorem dX5_parsePart_112 : decode cX5_parsePart 112 = .ok (.aload_n 0, 1) := by decide +kernel
theorem dX5_parsePart_113 : decode cX5_parsePart 113 = .ok (.dup, 1) := by decide +kernel
theorem dX5_parsePart_114 : decode cX5_parsePart 114 = .ok (.getfield 32, 3) := by decide +kernel
theorem dX5_parsePart_117 : decode cX5_parsePart 117 = .ok (.iconst 1, 1) := by decide +kernel
theorem dX5_parsePart_118 : decode cX5_parsePart 118 = .ok (.iadd, 1) := by decide +kernel
theorem dX5_parsePart_119 : decode cX5_parsePart 119 = .ok (.putfield 32, 3) := by decide +kernel
theorem dX5_parsePart_122 : decode cX5_parsePart 122 = .ok (.iconst 1, 1) := by decide +kernel
theorem dX5_parsePart_123 : decode cX5_parsePart 123 = .ok (.ireturn, 1) := by decide +kernel
theorem dX5_joins_0 : decode cX5_joins 0 = .ok (.iload_n 0, 1) := by decide +kernel
theorem dX5_joins_1 : decode cX5_joins 1 = .ok (.lookupswitch 57 #[(43, 55), (45, 55), (60, 53), (61, 53), (203, 51)], 51) := by decide +kernel
theorem dX5_joins_52 : decode cX5_joins 52 = .ok (.iconst 0, 1) := by decide +kernel
theorem dX5_joins_53 : decode cX5_joins 53 = .ok (.ireturn, 1) := by decide +kernel
theorem dX5_joins_54 : decode cX5_joins 54 = .ok (.iconst 1, 1) := by decide +kernel
theorem dX5_joins_55 : decode cX5_joins 55 = .ok (.ireturn, 1) := by decide +kernel
theorem dX5_joins_56 : decode cX5_joins 56 = .ok (.iconst 2, 1) := by decide +kernel
theorem dX5_joins_57 : decode cX5_joins 57 = .ok (.ireturn, 1) := by decide +kernel
theorem dX5_joins_58 : decode cX5_joins 58 = .ok (.iconst (-1), 1) := by decide +kernel
theorem dX5_joins_59 : decode cX5_joins 59 = .ok (.ireturn, 1) := by decide +kernel
theorem dX5_token_0 : decode cX5_token 0 = .ok (.aload_n 0, 1) := by decide +kernel
theorem dX5_token_1 : decode cX5_token 1 = .ok (.getfield 32, 3) := by decide +kernel
theorem dX5_token_4 : decode cX5_token 4 = .ok (.aload_n 0, 1) := by decide +kernel
theorem dX5_token_5 : decode cX5_token 5 = .ok (.getfield 12, 3) := by decide +kernel
theorem dX5_token_8 : decode cX5_token 8 = .ok (.getfield 78, 3) := by decide +kernel
theorem dX5_token_11 : decode cX5_token 11 = .ok (.if_icmp .ge 18, 3) := by decide +kernel
theorem dX5_token_14 : decode cX5_token 14 = .ok (.aload_n 0, 1) := by decide +kernel
theorem dX5_token_15 : decode cX5_token 15 = .ok (.getfield 12, 3) := by decide +kernel
theorem dX5_token_18 : decode cX5_token 18 = .ok (.getfield 81, 3) := by decide +kernel
theorem dX5_token_21 : decode cX5_token 21 = .ok (.aload_n 0, 1) := by decide +kernel
theorem dX5_token_22 : decode cX5_token 22 = .ok (.getfield 32, 3) := by decide +kernel
theorem dX5_token_25 : decode cX5_token 25 = .ok (.iaload, 1) := by decide +kernel
theorem dX5_token_26 : decode cX5_token 26 = .ok (.goto 4, 3) := by decide +kernel
theorem dX5_token_29 : decode cX5_token 29 = .ok (.iconst 0, 1) := by decide +kernel
theorem dX5_token_30 : decode cX5_token 30 = .ok (.ireturn, 1) := by decide +kernel
theorem dX5_pass_0 : decode cX5_pass 0 = .ok (.aload_n 0, 1) := by decide +kernel
theorem dX5_pass_1 : decode cX5_pass 1 = .ok (.invokevirtual 39, 3) := by decide +kernel
theorem dX5_pass_4 : decode cX5_pass 4 = .ok (.iload_n 1, 1) := by decide +kernel
theorem dX5_pass_5 : decode cX5_pass 5 = .ok (.if_icmp .eq 9, 3) := by decide +kernel
theorem dX5_pass_8 : decode cX5_pass 8 = .ok (.aload_n 0, 1) := by decide +kernel
theorem dX5_pass_9 : decode cX5_pass 9 = .ok (.iconst 1, 1) := by decide +kernel
theorem dX5_pass_10 : decode cX5_pass 10 = .ok (.invokevirtual 47, 3) := by decide +kernel
theorem dX5_pass_13 : decode cX5_pass 13 = .ok (.ireturn, 1) := by decide +kernel
theorem dX5_pass_14 : decode cX5_pass 14 = .ok (.aload_n 0, 1) := by decide +kernel
theorem dX5_pass_15 : decode cX5_pass 15 = .ok (.dup, 1) := by decide +kernel
theorem dX5_pass_16 : decode cX5_pass 16 = .ok (.getfield 32, 3) := by decide +kernel
theorem dX5_pass_19 : decode cX5_pass 19 = .ok (.iconst 1, 1) := by decide +kernel
theorem dX5_pass_20 : decode cX5_pass 20 = .ok (.iadd, 1) := by decide +kernel
theorem dX5_pass_21 : decode cX5_pass 21 = .ok (.putfield 32, 3) := by decide +kernel
theorem dX5_pass_24 : decode cX5_pass 24 = .ok (.iconst 1, 1) := by decide +kernel
theorem dX5_pass_25 : decode cX5_pass 25 = .ok (.ireturn, 1) := by decide +kernel
theorem dX5_refuse_0 : decode cX5_refuse 0 = .ok (.aload_n 0, 1) := by decide +kernel
theorem dX5_refuse_1 : decode cX5_refuse 1 = .ok (.getfield 32, 3) := by decide +kernel
theorem dX5_refuse_4 : decode cX5_refuse 4 = .ok (.aload_n 0, 1) := by decide +kernel
theorem dX5_refuse_5 : decode cX5_refuse 5 = .ok (.getfield 12, 3) := by decide +kernel
theorem dX5_refuse_8 : decode cX5_refuse 8 = .ok (.getfield 78, 3) := by decide +kernel
theorem dX5_refuse_11 : decode cX5_refuse 11 = .ok (.if_icmp .ge 18, 3) := by decide +kernel
theorem dX5_refuse_14 : decode cX5_refuse 14 = .ok (.aload_n 0, 1) := by decide +kernel
theorem dX5_refuse_15 : decode cX5_refuse 15 = .ok (.getfield 12, 3) := by decide +kernel
theorem dX5_refuse_18 : decode cX5_refuse 18 = .ok (.getfield 84, 3) := by decide +kernel
theorem dX5_refuse_21 : decode cX5_refuse 21 = .ok (.aload_n 0, 1) := by decide +kernel
theorem dX5_refuse_22 : decode cX5_refuse 22 = .ok (.getfield 32, 3) := by decide +kernel
theorem dX5_refuse_25 : decode cX5_refuse 25 = .ok (.iaload, 1) := by decide +kernel
theorem dX5_refuse_26 : decode cX5_refuse 26 = .ok (.goto 4, 3) := by decide +kernel
theorem dX5_refuse_29 : decode cX5_refuse 29 = .ok (.iconst 0, 1) := by decide +kernel
theorem dX5_refuse_30 : decode cX5_refuse 30 = .ok (.istore_n 2, 1) := by decide +kernel
theorem dX5_refuse_31 : decode cX5_refuse 31 = .ok (.aload_n 0, 1) := by decide +kernel
theorem dX5_refuse_32 : decode cX5_refuse 32 = .ok (.iload_n 1, 1) := by decide +kernel
theorem dX5_refuse_33 : decode cX5_refuse 33 = .ok (.bipush 16, 2) := by decide +kernel
theorem dX5_refuse_35 : decode cX5_refuse 35 = .ok (.iload_n 2, 1) := by decide +kernel
theorem dX5_refuse_36 : decode cX5_refuse 36 = .ok (.imul, 1) := by decide +kernel
theorem dX5_refuse_37 : decode cX5_refuse 37 = .ok (.iadd, 1) := by decide +kernel
theorem dX5_refuse_38 : decode cX5_refuse 38 = .ok (.putfield 36, 3) := by decide +kernel
theorem dX5_refuse_41 : decode cX5_refuse 41 = .ok (.iconst 0, 1) := by decide +kernel
theorem dX5_refuse_42 : decode cX5_refuse 42 = .ok (.ireturn, 1) := by decide +kernel
theorem dX6_init_0 : decode cX6_init 0 = .ok (.aload_n 0, 1) := by decide +kernel
theorem dX6_init_1 : decode cX6_init 1 = .ok (.invokespecial 3, 3) := by decide +kernel
theorem dX6_init_4 : decode cX6_init 4 = .ok (.aload_n 0, 1) := by decide +kernel
theorem dX6_init_5 : decode cX6_init 5 = .ok (.sipush 600, 3) := by decide +kernel
theorem dX6_init_8 : decode cX6_init 8 = .ok (.newarray .int, 2) := by decide +kernel
theorem dX6_init_10 : decode cX6_init 10 = .ok (.putfield 9, 3) := by decide +kernel
theorem dX6_init_13 : decode cX6_init 13 = .ok (.aload_n 0, 1) := by decide +kernel
theorem dX6_init_14 : decode cX6_init 14 = .ok (.bipush 16, 2) := by decide +kernel
theorem dX6_init_16 : decode cX6_init 16 = .ok (.newarray .int, 2) := by decide +kernel
theorem dX6_init_18 : decode cX6_init 18 = .ok (.putfield 15, 3) := by decide +kernel
theorem dX6_init_21 : decode cX6_init 21 = .ok (.aload_n 0, 1) := by decide +kernel
theorem dX6_init_22 : decode cX6_init 22 = .ok (.bipush 16, 2) := by decide +kernel
theorem dX6_init_24 : decode cX6_init 24 = .ok (.newarray .int, 2) := by decide +kernel
theorem dX6_init_26 : decode cX6_init 26 = .ok (.putfield 18, 3) := by decide +kernel
theorem dX6_init_29 : decode cX6_init 29 = .ok (.aload_n 0, 1) := by decide +kernel
theorem dX6_init_30 : decode cX6_init 30 = .ok (.bipush 32, 2) := by decide +kernel
theorem dX6_init_32 : decode cX6_init 32 = .ok (.newarray .int, 2) := by decide +kernel
theorem dX6_init_34 : decode cX6_init 34 = .ok (.putfield 21, 3) := by decide +kernel
theorem dX6_init_37 : decode cX6_init 37 = .ok (.return_, 1) := by decide +kernel
theorem dX6_clear_0 : decode cX6_clear 0 = .ok (.aload_n 0, 1) := by decide +kernel
theorem dX6_clear_1 : decode cX6_clear 1 = .ok (.iconst 0, 1) := by decide +kernel
theorem dX6_clear_2 : decode cX6_clear 2 = .ok (.putfield 24, 3) := by decide +kernel
theorem dX6_clear_5 : decode cX6_clear 5 = .ok (.aload_n 0, 1) := by decide +kernel
theorem dX6_clear_6 : decode cX6_clear 6 = .ok (.iconst 0, 1) := by decide +kernel
theorem dX6_clear_7 : decode cX6_clear 7 = .ok (.putfield 28, 3) := by decide +kernel
theorem dX6_clear_10 : decode cX6_clear 10 = .ok (.return_, 1) := by decide +kernel
theorem dX6_add_0 : decode cX6_add 0 = .ok (.aload_n 0, 1) := by decide +kernel
theorem dX6_add_1 : decode cX6_add 1 = .ok (.getfield 24, 3) := by decide +kernel
theorem dX6_add_4 : decode cX6_add 4 = .ok (.sipush 600, 3) := by decide +kernel
theorem dX6_add_7 : decode cX6_add 7 = .ok (.if_icmp .ge 23, 3) := by decide +kernel
theorem dX6_add_10 : decode cX6_add 10 = .ok (.aload_n 0, 1) := by decide +kernel
theorem dX6_add_11 : decode cX6_add 11 = .ok (.getfield 9, 3) := by decide +kernel
theorem dX6_add_14 : decode cX6_add 14 = .ok (.aload_n 0, 1) := by decide +kernel
theorem dX6_add_15 : decode cX6_add 15 = .ok (.getfield 24, 3) := by decide +kernel
theorem dX6_add_18 : decode cX6_add 18 = .ok (.iload_n 1, 1) := by decide +kernel
theorem dX6_add_19 : decode cX6_add 19 = .ok (.iastore, 1) := by decide +kernel
theorem dX6_add_20 : decode cX6_add 20 = .ok (.aload_n 0, 1) := by decide +kernel
theorem dX6_add_21 : decode cX6_add 21 = .ok (.dup, 1) := by decide +kernel
theorem dX6_add_22 : decode cX6_add 22 = .ok (.getfield 24, 3) := by decide +kernel
theorem dX6_add_25 : decode cX6_add 25 = .ok (.iconst 1, 1) := by decide +kernel
theorem dX6_add_26 : decode cX6_add 26 = .ok (.iadd, 1) := by decide +kernel
theorem dX6_add_27 : decode cX6_add 27 = .ok (.putfield 24, 3) := by decide +kernel
theorem dX6_add_30 : decode cX6_add 30 = .ok (.return_, 1) := by decide +kernel
theorem dX6_endLine_0 : decode cX6_endLine 0 = .ok (.aload_n 0, 1) := by decide +kernel
theorem dX6_endLine_1 : decode cX6_endLine 1 = .ok (.getfield 28, 3) := by decide +kernel
theorem dX6_endLine_4 : decode cX6_endLine 4 = .ok (.bipush 16, 2) := by decide +kernel
theorem dX6_endLine_6 : decode cX6_endLine 6 = .ok (.if_icmp .ge 36, 3) := by decide +kernel
theorem dX6_endLine_9 : decode cX6_endLine 9 = .ok (.aload_n 0, 1) := by decide +kernel
theorem dX6_endLine_10 : decode cX6_endLine 10 = .ok (.getfield 15, 3) := by decide +kernel
theorem dX6_endLine_13 : decode cX6_endLine 13 = .ok (.aload_n 0, 1) := by decide +kernel
theorem dX6_endLine_14 : decode cX6_endLine 14 = .ok (.getfield 28, 3) := by decide +kernel
theorem dX6_endLine_17 : decode cX6_endLine 17 = .ok (.aload_n 0, 1) := by decide +kernel
theorem dX6_endLine_18 : decode cX6_endLine 18 = .ok (.getfield 24, 3) := by decide +kernel
theorem dX6_endLine_21 : decode cX6_endLine 21 = .ok (.iastore, 1) := by decide +kernel
theorem dX6_endLine_22 : decode cX6_endLine 22 = .ok (.aload_n 0, 1) := by decide +kernel
theorem dX6_endLine_23 : decode cX6_endLine 23 = .ok (.getfield 18, 3) := by decide +kernel
theorem dX6_endLine_26 : decode cX6_endLine 26 = .ok (.aload_n 0, 1) := by decide +kernel
theorem dX6_endLine_27 : decode cX6_endLine 27 = .ok (.getfield 28, 3) := by decide +kernel
theorem dX6_endLine_30 : decode cX6_endLine 30 = .ok (.iload_n 1, 1) := by decide +kernel
theorem dX6_endLine_31 : decode cX6_endLine 31 = .ok (.iastore, 1) := by decide +kernel
theorem dX6_endLine_32 : decode cX6_endLine 32 = .ok (.aload_n 0, 1) := by decide +kernel
theorem dX6_endLine_33 : decode cX6_endLine 33 = .ok (.dup, 1) := by decide +kernel
theorem dX6_endLine_34 : decode cX6_endLine 34 = .ok (.getfield 28, 3) := by decide +kernel
theorem dX6_endLine_37 : decode cX6_endLine 37 = .ok (.iconst 1, 1) := by decide +kernel
theorem dX6_endLine_38 : decode cX6_endLine 38 = .ok (.iadd, 1) := by decide +kernel
theorem dX6_endLine_39 : decode cX6_endLine 39 = .ok (.putfield 28, 3) := by decide +kernel
theorem dX6_endLine_42 : decode cX6_endLine 42 = .ok (.return_, 1) := by decide +kernel
theorem dX6_copy_0 : decode cX6_copy 0 = .ok (.aload_n 0, 1) := by decide +kernel
theorem dX6_copy_1 : decode cX6_copy 1 = .ok (.aload_n 1, 1) := by decide +kernel
theorem dX6_copy_2 : decode cX6_copy 2 = .ok (.getfield 24, 3) := by decide +kernel
theorem dX6_copy_5 : decode cX6_copy 5 = .ok (.putfield 24, 3) := by decide +kernel
theorem dX6_copy_8 : decode cX6_copy 8 = .ok (.aload_n 0, 1) := by decide +kernel
theorem dX6_copy_9 : decode cX6_copy 9 = .ok (.aload_n 1, 1) := by decide +kernel
theorem dX6_copy_10 : decode cX6_copy 10 = .ok (.getfield 28, 3) := by decide +kernel
theorem dX6_copy_13 : decode cX6_copy 13 = .ok (.putfield 28, 3) := by decide +kernel
theorem dX6_copy_16 : decode cX6_copy 16 = .ok (.aload_n 1, 1) := by decide +kernel
theorem dX6_copy_17 : decode cX6_copy 17 = .ok (.getfield 9, 3) := by decide +kernel
theorem dX6_copy_20 : decode cX6_copy 20 = .ok (.iconst 0, 1) := by decide +kernel
theorem dX6_copy_21 : decode cX6_copy 21 = .ok (.aload_n 0, 1) := by decide +kernel
theorem dX6_copy_22 : decode cX6_copy 22 = .ok (.getfield 9, 3) := by decide +kernel
theorem dX6_copy_25 : decode cX6_copy 25 = .ok (.iconst 0, 1) := by decide +kernel
theorem dX6_copy_26 : decode cX6_copy 26 = .ok (.aload_n 0, 1) := by decide +kernel
theorem dX6_copy_27 : decode cX6_copy 27 = .ok (.getfield 24, 3) := by decide +kernel
theorem dX6_copy_30 : decode cX6_copy 30 = .ok (.invokestatic 31, 3) := by decide +kernel
theorem dX6_copy_33 : decode cX6_copy 33 = .ok (.aload_n 1, 1) := by decide +kernel
theorem dX6_copy_34 : decode cX6_copy 34 = .ok (.getfield 15, 3) := by decide +kernel
theorem dX6_copy_37 : decode cX6_copy 37 = .ok (.iconst 0, 1) := by decide +kernel
theorem dX6_copy_38 : decode cX6_copy 38 = .ok (.aload_n 0, 1) := by decide +kernel
theorem dX6_copy_39 : decode cX6_copy 39 = .ok (.getfield 15, 3) := by decide +kernel
theorem dX6_copy_42 : decode cX6_copy 42 = .ok (.iconst 0, 1) := by decide +kernel
theorem dX6_copy_43 : decode cX6_copy 43 = .ok (.aload_n 0, 1) := by decide +kernel
theorem dX6_copy_44 : decode cX6_copy 44 = .ok (.getfield 28, 3) := by decide +kernel
theorem dX6_copy_47 : decode cX6_copy 47 = .ok (.invokestatic 31, 3) := by decide +kernel
theorem dX6_copy_50 : decode cX6_copy 50 = .ok (.aload_n 1, 1) := by decide +kernel
theorem dX6_copy_51 : decode cX6_copy 51 = .ok (.getfield 18, 3) := by decide +kernel
theorem dX6_copy_54 : decode cX6_copy 54 = .ok (.iconst 0, 1) := by decide +kernel
theorem dX6_copy_55 : decode cX6_copy 55 = .ok (.aload_n 0, 1) := by decide +kernel
theorem dX6_copy_56 : decode cX6_copy 56 = .ok (.getfield 18, 3) := by decide +kernel
theorem dX6_copy_59 : decode cX6_copy 59 = .ok (.iconst 0, 1) := by decide +kernel
theorem dX6_copy_60 : decode cX6_copy 60 = .ok (.aload_n 0, 1) := by decide +kernel
theorem dX6_copy_61 : decode cX6_copy 61 = .ok (.getfield 28, 3) := by decide +kernel
theorem dX6_copy_64 : decode cX6_copy 64 = .ok (.invokestatic 31, 3) := by decide +kernel
theorem dX6_copy_67 : decode cX6_copy 67 = .ok (.return_, 1) := by decide +kernel
theorem dX6_starsFor_0 : decode cX6_starsFor 0 = .ok (.iconst 0, 1) := by decide +kernel
theorem dX6_starsFor_1 : decode cX6_starsFor 1 = .ok (.istore_n 2, 1) := by decide +kernel
theorem dX6_starsFor_2 : decode cX6_starsFor 2 = .ok (.iconst 0, 1) := by decide +kernel
theorem dX6_starsFor_3 : decode cX6_starsFor 3 = .ok (.istore_n 3, 1) := by decide +kernel
theorem dX6_starsFor_4 : decode cX6_starsFor 4 = .ok (.iload_n 3, 1) := by decide +kernel
theorem dX6_starsFor_5 : decode cX6_starsFor 5 = .ok (.aload_n 0, 1) := by decide +kernel
theorem dX6_starsFor_6 : decode cX6_starsFor 6 = .ok (.getfield 28, 3) := by decide +kernel
theorem dX6_starsFor_9 : decode cX6_starsFor 9 = .ok (.if_icmp .ge 38, 3) := by decide +kernel
theorem dX6_starsFor_12 : decode cX6_starsFor 12 = .ok (.aload_n 0, 1) := by decide +kernel
theorem dX6_starsFor_13 : decode cX6_starsFor 13 = .ok (.iload_n 2, 1) := by decide +kernel
theorem dX6_starsFor_14 : decode cX6_starsFor 14 = .ok (.aload_n 0, 1) := by decide +kernel
theorem dX6_starsFor_15 : decode cX6_starsFor 15 = .ok (.getfield 15, 3) := by decide +kernel
theorem dX6_starsFor_18 : decode cX6_starsFor 18 = .ok (.iload_n 3, 1) := by decide +kernel
theorem dX6_starsFor_19 : decode cX6_starsFor 19 = .ok (.iaload, 1) := by decide +kernel
theorem dX6_starsFor_20 : decode cX6_starsFor 20 = .ok (.aload_n 1, 1) := by decide +kernel
theorem dX6_starsFor_21 : decode cX6_starsFor 21 = .ok (.invokevirtual 37, 3) := by decide +kernel
theorem dX6_starsFor_24 : decode cX6_starsFor 24 = .ok (.ifCond .eq 10, 3) := by decide +kernel
theorem dX6_starsFor_27 : decode cX6_starsFor 27 = .ok (.aload_n 0, 1) := by decide +kernel
theorem dX6_starsFor_28 : decode cX6_starsFor 28 = .ok (.getfield 18, 3) := by decide +kernel
theorem dX6_starsFor_31 : decode cX6_starsFor 31 = .ok (.iload_n 3, 1) := by decide +kernel
theorem dX6_starsFor_32 : decode cX6_starsFor 32 = .ok (.iaload, 1) := by decide +kernel
theorem dX6_starsFor_33 : decode cX6_starsFor 33 = .ok (.ireturn, 1) := by decide +kernel
theorem dX6_starsFor_34 : decode cX6_starsFor 34 = .ok (.aload_n 0, 1) := by decide +kernel
theorem dX6_starsFor_35 : decode cX6_starsFor 35 = .ok (.getfield 15, 3) := by decide +kernel
theorem dX6_starsFor_38 : decode cX6_starsFor 38 = .ok (.iload_n 3, 1) := by decide +kernel
theorem dX6_starsFor_39 : decode cX6_starsFor 39 = .ok (.iaload, 1) := by decide +kernel
theorem dX6_starsFor_40 : decode cX6_starsFor 40 = .ok (.istore_n 2, 1) := by decide +kernel
theorem dX6_starsFor_41 : decode cX6_starsFor 41 = .ok (.iinc 3 1, 3) := by decide +kernel
theorem dX6_starsFor_44 : decode cX6_starsFor 44 = .ok (.goto (-40), 3) := by decide +kernel
theorem dX6_starsFor_47 : decode cX6_starsFor 47 = .ok (.iconst 0, 1) := by decide +kernel
theorem dX6_starsFor_48 : decode cX6_starsFor 48 = .ok (.ireturn, 1) := by decide +kernel
theorem dX6_valueOf_0 : decode cX6_valueOf 0 = .ok (.iconst 0, 1) := by decide +kernel
theorem dX6_valueOf_1 : decode cX6_valueOf 1 = .ok (.istore 4, 2) := by decide +kernel
theorem dX6_valueOf_3 : decode cX6_valueOf 3 = .ok (.iload_n 1, 1) := by decide +kernel
theorem dX6_valueOf_4 : decode cX6_valueOf 4 = .ok (.istore 5, 2) := by decide +kernel
theorem dX6_valueOf_6 : decode cX6_valueOf 6 = .ok (.iload 5, 2) := by decide +kernel
theorem dX6_valueOf_8 : decode cX6_valueOf 8 = .ok (.iload_n 2, 1) := by decide +kernel
theorem dX6_valueOf_9 : decode cX6_valueOf 9 = .ok (.if_icmp .ge 111, 3) := by decide +kernel
theorem dX6_valueOf_12 : decode cX6_valueOf 12 = .ok (.aload_n 0, 1) := by decide +kernel
theorem dX6_valueOf_13 : decode cX6_valueOf 13 = .ok (.getfield 9, 3) := by decide +kernel
theorem dX6_valueOf_16 : decode cX6_valueOf 16 = .ok (.iload 5, 2) := by decide +kernel
theorem dX6_valueOf_18 : decode cX6_valueOf 18 = .ok (.iaload, 1) := by decide +kernel
theorem dX6_valueOf_19 : decode cX6_valueOf 19 = .ok (.istore 6, 2) := by decide +kernel
theorem dX6_valueOf_21 : decode cX6_valueOf 21 = .ok (.iload 6, 2) := by decide +kernel
theorem dX6_valueOf_23 : decode cX6_valueOf 23 = .ok (.ifCond .ge 12, 3) := by decide +kernel
theorem dX6_valueOf_26 : decode cX6_valueOf 26 = .ok (.iload 6, 2) := by decide +kernel
theorem dX6_valueOf_28 : decode cX6_valueOf 28 = .ok (.ineg, 1) := by decide +kernel
theorem dX6_valueOf_29 : decode cX6_valueOf 29 = .ok (.invokestatic 41, 3) := by decide +kernel
theorem dX6_valueOf_32 : decode cX6_valueOf 32 = .ok (.ifCond .eq 42, 3) := by decide +kernel
theorem dX6_valueOf_35 : decode cX6_valueOf 35 = .ok (.iload 4, 2) := by decide +kernel
theorem dX6_valueOf_37 : decode cX6_valueOf 37 = .ok (.bipush 32, 2) := by decide +kernel
theorem dX6_valueOf_39 : decode cX6_valueOf 39 = .ok (.if_icmp .ge 75, 3) := by decide +kernel
theorem dX6_valueOf_42 : decode cX6_valueOf 42 = .ok (.aload_n 0, 1) := by decide +kernel
theorem dX6_valueOf_43 : decode cX6_valueOf 43 = .ok (.getfield 21, 3) := by decide +kernel
theorem dX6_valueOf_46 : decode cX6_valueOf 46 = .ok (.iload 4, 2) := by decide +kernel
theorem dX6_valueOf_48 : decode cX6_valueOf 48 = .ok (.iload 6, 2) := by decide +kernel
theorem dX6_valueOf_50 : decode cX6_valueOf 50 = .ok (.ifCond .lt 8, 3) := by decide +kernel
theorem dX6_valueOf_53 : decode cX6_valueOf 53 = .ok (.iload 6, 2) := by decide +kernel
theorem dX6_valueOf_55 : decode cX6_valueOf 55 = .ok (.goto 12, 3) := by decide +kernel
theorem dX6_valueOf_58 : decode cX6_valueOf 58 = .ok (.aload_n 3, 1) := by decide +kernel
theorem dX6_valueOf_59 : decode cX6_valueOf 59 = .ok (.iload 6, 2) := by decide +kernel
theorem dX6_valueOf_61 : decode cX6_valueOf 61 = .ok (.ineg, 1) := by decide +kernel
theorem dX6_valueOf_62 : decode cX6_valueOf 62 = .ok (.sipush 204, 3) := by decide +kernel
theorem dX6_valueOf_65 : decode cX6_valueOf 65 = .ok (.isub, 1) := by decide +kernel
theorem dX6_valueOf_66 : decode cX6_valueOf 66 = .ok (.iaload, 1) := by decide +kernel
theorem dX6_valueOf_67 : decode cX6_valueOf 67 = .ok (.iastore, 1) := by decide +kernel
theorem dX6_valueOf_68 : decode cX6_valueOf 68 = .ok (.iinc 4 1, 3) := by decide +kernel
theorem dX6_valueOf_71 : decode cX6_valueOf 71 = .ok (.goto 43, 3) := by decide +kernel
theorem dX6_valueOf_74 : decode cX6_valueOf 74 = .ok (.iload 4, 2) := by decide +kernel
theorem dX6_valueOf_76 : decode cX6_valueOf 76 = .ok (.iconst 2, 1) := by decide +kernel
theorem dX6_valueOf_77 : decode cX6_valueOf 77 = .ok (.if_icmp .lt 37, 3) := by decide +kernel
theorem dX6_valueOf_80 : decode cX6_valueOf 80 = .ok (.iinc 4 (-1), 3) := by decide +kernel
theorem dX6_valueOf_83 : decode cX6_valueOf 83 = .ok (.aload_n 0, 1) := by decide +kernel
theorem dX6_valueOf_84 : decode cX6_valueOf 84 = .ok (.getfield 21, 3) := by decide +kernel
theorem dX6_valueOf_87 : decode cX6_valueOf 87 = .ok (.iload 4, 2) := by decide +kernel
theorem dX6_valueOf_89 : decode cX6_valueOf 89 = .ok (.iconst 1, 1) := by decide +kernel
theorem dX6_valueOf_90 : decode cX6_valueOf 90 = .ok (.isub, 1) := by decide +kernel
theorem dX6_valueOf_91 : decode cX6_valueOf 91 = .ok (.iload 6, 2) := by decide +kernel
theorem dX6_valueOf_93 : decode cX6_valueOf 93 = .ok (.ineg, 1) := by decide +kernel
theorem dX6_valueOf_94 : decode cX6_valueOf 94 = .ok (.aload_n 0, 1) := by decide +kernel
theorem dX6_valueOf_95 : decode cX6_valueOf 95 = .ok (.getfield 21, 3) := by decide +kernel
theorem dX6_valueOf_98 : decode cX6_valueOf 98 = .ok (.iload 4, 2) := by decide +kernel
theorem dX6_valueOf_100 : decode cX6_valueOf 100 = .ok (.iconst 1, 1) := by decide +kernel
theorem dX6_valueOf_101 : decode cX6_valueOf 101 = .ok (.isub, 1) := by decide +kernel
theorem dX6_valueOf_102 : decode cX6_valueOf 102 = .ok (.iaload, 1) := by decide +kernel
theorem dX6_valueOf_103 : decode cX6_valueOf 103 = .ok (.aload_n 0, 1) := by decide +kernel
theorem dX6_valueOf_104 : decode cX6_valueOf 104 = .ok (.getfield 21, 3) := by decide +kernel
theorem dX6_valueOf_107 : decode cX6_valueOf 107 = .ok (.iload 4, 2) := by decide +kernel
theorem dX6_valueOf_109 : decode cX6_valueOf 109 = .ok (.iaload, 1) := by decide +kernel
theorem dX6_valueOf_110 : decode cX6_valueOf 110 = .ok (.invokestatic 45, 3) := by decide +kernel
theorem dX6_valueOf_113 : decode cX6_valueOf 113 = .ok (.iastore, 1) := by decide +kernel
theorem dX6_valueOf_114 : decode cX6_valueOf 114 = .ok (.iinc 5 1, 3) := by decide +kernel
theorem dX6_valueOf_117 : decode cX6_valueOf 117 = .ok (.goto (-111), 3) := by decide +kernel
theorem dX6_valueOf_120 : decode cX6_valueOf 120 = .ok (.iload 4, 2) := by decide +kernel
theorem dX6_valueOf_122 : decode cX6_valueOf 122 = .ok (.ifCond .ne 7, 3) := by decide +kernel
theorem dX6_valueOf_125 : decode cX6_valueOf 125 = .ok (.iconst 0, 1) := by decide +kernel
theorem dX6_valueOf_126 : decode cX6_valueOf 126 = .ok (.goto 12, 3) := by decide +kernel
theorem dX6_valueOf_129 : decode cX6_valueOf 129 = .ok (.aload_n 0, 1) := by decide +kernel
theorem dX6_valueOf_130 : decode cX6_valueOf 130 = .ok (.getfield 21, 3) := by decide +kernel
theorem dX6_valueOf_133 : decode cX6_valueOf 133 = .ok (.iload 4, 2) := by decide +kernel
theorem dX6_valueOf_135 : decode cX6_valueOf 135 = .ok (.iconst 1, 1) := by decide +kernel
theorem dX6_valueOf_136 : decode cX6_valueOf 136 = .ok (.isub, 1) := by decide +kernel
theorem dX6_valueOf_137 : decode cX6_valueOf 137 = .ok (.iaload, 1) := by decide +kernel
theorem dX6_valueOf_138 : decode cX6_valueOf 138 = .ok (.ireturn, 1) := by decide +kernel
theorem dX6_joined_0 : decode cX6_joined 0 = .ok (.iload_n 0, 1) := by decide +kernel
theorem dX6_joined_1 : decode cX6_joined 1 = .ok (.lookupswitch 73 #[(43, 43), (45, 47), (60, 51), (61, 62)], 43) := by decide +kernel
theorem dX6_joined_44 : decode cX6_joined 44 = .ok (.iload_n 1, 1) := by decide +kernel
theorem dX6_joined_45 : decode cX6_joined 45 = .ok (.iload_n 2, 1) := by decide +kernel
theorem dX6_joined_46 : decode cX6_joined 46 = .ok (.iadd, 1) := by decide +kernel
theorem dX6_joined_47 : decode cX6_joined 47 = .ok (.ireturn, 1) := by decide +kernel
theorem dX6_joined_48 : decode cX6_joined 48 = .ok (.iload_n 1, 1) := by decide +kernel
theorem dX6_joined_49 : decode cX6_joined 49 = .ok (.iload_n 2, 1) := by decide +kernel
theorem dX6_joined_50 : decode cX6_joined 50 = .ok (.isub, 1) := by decide +kernel
theorem dX6_joined_51 : decode cX6_joined 51 = .ok (.ireturn, 1) := by decide +kernel
theorem dX6_joined_52 : decode cX6_joined 52 = .ok (.iload_n 1, 1) := by decide +kernel
theorem dX6_joined_53 : decode cX6_joined 53 = .ok (.iload_n 2, 1) := by decide +kernel
theorem dX6_joined_54 : decode cX6_joined 54 = .ok (.if_icmp .ge 7, 3) := by decide +kernel
theorem dX6_joined_57 : decode cX6_joined 57 = .ok (.iconst 1, 1) := by decide +kernel
theorem dX6_joined_58 : decode cX6_joined 58 = .ok (.goto 4, 3) := by decide +kernel
theorem dX6_joined_61 : decode cX6_joined 61 = .ok (.iconst 0, 1) := by decide +kernel
theorem dX6_joined_62 : decode cX6_joined 62 = .ok (.ireturn, 1) := by decide +kernel
theorem dX6_joined_63 : decode cX6_joined 63 = .ok (.iload_n 1, 1) := by decide +kernel
theorem dX6_joined_64 : decode cX6_joined 64 = .ok (.iload_n 2, 1) := by decide +kernel
theorem dX6_joined_65 : decode cX6_joined 65 = .ok (.if_icmp .ne 7, 3) := by decide +kernel
theorem dX6_joined_68 : decode cX6_joined 68 = .ok (.iconst 1, 1) := by decide +kernel
theorem dX6_joined_69 : decode cX6_joined 69 = .ok (.goto 4, 3) := by decide +kernel
theorem dX6_joined_72 : decode cX6_joined 72 = .ok (.iconst 0, 1) := by decide +kernel
theorem dX6_joined_73 : decode cX6_joined 73 = .ok (.ireturn, 1) := by decide +kernel
theorem dX6_joined_74 : decode cX6_joined 74 = .ok (.iload_n 1, 1) := by decide +kernel
theorem dX6_joined_75 : decode cX6_joined 75 = .ok (.ifCond .eq 11, 3) := by decide +kernel
theorem dX6_joined_78 : decode cX6_joined 78 = .ok (.iload_n 2, 1) := by decide +kernel
theorem dX6_joined_79 : decode cX6_joined 79 = .ok (.ifCond .eq 7, 3) := by decide +kernel
theorem dX6_joined_82 : decode cX6_joined 82 = .ok (.iconst 1, 1) := by decide +kernel
theorem dX6_joined_83 : decode cX6_joined 83 = .ok (.goto 4, 3) := by decide +kernel
theorem dX6_joined_86 : decode cX6_joined 86 = .ok (.iconst 0, 1) := by decide +kernel
theorem dX6_joined_87 : decode cX6_joined 87 = .ok (.ireturn, 1) := by decide +kernel
theorem dX7_init_0 : decode cX7_init 0 = .ok (.aload_n 0, 1) := by decide +kernel
theorem dX7_init_1 : decode cX7_init 1 = .ok (.invokespecial 3, 3) := by decide +kernel
theorem dX7_init_4 : decode cX7_init 4 = .ok (.aload_n 0, 1) := by decide +kernel
theorem dX7_init_5 : decode cX7_init 5 = .ok (.sipush 600, 3) := by decide +kernel
theorem dX7_init_8 : decode cX7_init 8 = .ok (.newarray .byte, 2) := by decide +kernel
theorem dX7_init_10 : decode cX7_init 10 = .ok (.putfield 9, 3) := by decide +kernel
theorem dX7_init_13 : decode cX7_init 13 = .ok (.return_, 1) := by decide +kernel
theorem dX7_appendBytes_0 : decode cX7_appendBytes 0 = .ok (.bipush 56, 2) := by decide +kernel
theorem dX7_appendBytes_2 : decode cX7_appendBytes 2 = .ok (.istore_n 3, 1) := by decide +kernel
theorem dX7_appendBytes_3 : decode cX7_appendBytes 3 = .ok (.iload_n 3, 1) := by decide +kernel
theorem dX7_appendBytes_4 : decode cX7_appendBytes 4 = .ok (.ifCond .lt 21, 3) := by decide +kernel
theorem dX7_appendBytes_7 : decode cX7_appendBytes 7 = .ok (.aload_n 0, 1) := by decide +kernel
theorem dX7_appendBytes_8 : decode cX7_appendBytes 8 = .ok (.lload_n 1, 1) := by decide +kernel
theorem dX7_appendBytes_9 : decode cX7_appendBytes 9 = .ok (.iload_n 3, 1) := by decide +kernel
theorem dX7_appendBytes_10 : decode cX7_appendBytes 10 = .ok (.lushr, 1) := by decide +kernel
theorem dX7_appendBytes_11 : decode cX7_appendBytes 11 = .ok (.ldc2_w 15, 3) := by decide +kernel
theorem dX7_appendBytes_14 : decode cX7_appendBytes 14 = .ok (.land, 1) := by decide +kernel
theorem dX7_appendBytes_15 : decode cX7_appendBytes 15 = .ok (.l2i, 1) := by decide +kernel
theorem dX7_appendBytes_16 : decode cX7_appendBytes 16 = .ok (.invokevirtual 17, 3) := by decide +kernel
theorem dX7_appendBytes_19 : decode cX7_appendBytes 19 = .ok (.iinc 3 (-8), 3) := by decide +kernel
theorem dX7_appendBytes_22 : decode cX7_appendBytes 22 = .ok (.goto (-19), 3) := by decide +kernel
theorem dX7_appendBytes_25 : decode cX7_appendBytes 25 = .ok (.return_, 1) := by decide +kernel
theorem dX7_append_0 : decode cX7_append 0 = .ok (.iload_n 1, 1) := by decide +kernel
theorem dX7_append_1 : decode cX7_append 1 = .ok (.bipush 10, 2) := by decide +kernel
theorem dX7_append_3 : decode cX7_append 3 = .ok (.if_icmp .eq 15, 3) := by decide +kernel
theorem dX7_append_6 : decode cX7_append 6 = .ok (.iload_n 1, 1) := by decide +kernel
theorem dX7_append_7 : decode cX7_append 7 = .ok (.bipush 32, 2) := by decide +kernel
theorem dX7_append_9 : decode cX7_append 9 = .ok (.if_icmp .lt 13, 3) := by decide +kernel
theorem dX7_append_12 : decode cX7_append 12 = .ok (.iload_n 1, 1) := by decide +kernel
theorem dX7_append_13 : decode cX7_append 13 = .ok (.bipush 126, 2) := by decide +kernel
theorem dX7_append_15 : decode cX7_append 15 = .ok (.if_icmp .gt 7, 3) := by decide +kernel
theorem dX7_append_18 : decode cX7_append 18 = .ok (.iconst 1, 1) := by decide +kernel
theorem dX7_append_19 : decode cX7_append 19 = .ok (.goto 4, 3) := by decide +kernel
theorem dX7_append_22 : decode cX7_append 22 = .ok (.iconst 0, 1) := by decide +kernel
theorem dX7_append_23 : decode cX7_append 23 = .ok (.istore_n 2, 1) := by decide +kernel
theorem dX7_append_24 : decode cX7_append 24 = .ok (.iload_n 2, 1) := by decide +kernel
theorem dX7_append_25 : decode cX7_append 25 = .ok (.ifCond .eq 34, 3) := by decide +kernel
theorem dX7_append_28 : decode cX7_append 28 = .ok (.aload_n 0, 1) := by decide +kernel
theorem dX7_append_29 : decode cX7_append 29 = .ok (.getfield 21, 3) := by decide +kernel
theorem dX7_append_32 : decode cX7_append 32 = .ok (.sipush 600, 3) := by decide +kernel
theorem dX7_append_35 : decode cX7_append 35 = .ok (.if_icmp .ge 24, 3) := by decide +kernel
theorem dX7_append_38 : decode cX7_append 38 = .ok (.aload_n 0, 1) := by decide +kernel
theorem dX7_append_39 : decode cX7_append 39 = .ok (.getfield 9, 3) := by decide +kernel
theorem dX7_append_42 : decode cX7_append 42 = .ok (.aload_n 0, 1) := by decide +kernel
theorem dX7_append_43 : decode cX7_append 43 = .ok (.getfield 21, 3) := by decide +kernel
theorem dX7_append_46 : decode cX7_append 46 = .ok (.iload_n 1, 1) := by decide +kernel
theorem dX7_append_47 : decode cX7_append 47 = .ok (.i2b, 1) := by decide +kernel
theorem dX7_append_48 : decode cX7_append 48 = .ok (.bastore, 1) := by decide +kernel
theorem dX7_append_49 : decode cX7_append 49 = .ok (.aload_n 0, 1) := by decide +kernel
theorem dX7_append_50 : decode cX7_append 50 = .ok (.dup, 1) := by decide +kernel
theorem dX7_append_51 : decode cX7_append 51 = .ok (.getfield 21, 3) := by decide +kernel
theorem dX7_append_54 : decode cX7_append 54 = .ok (.iconst 1, 1) := by decide +kernel
theorem dX7_append_55 : decode cX7_append 55 = .ok (.iadd, 1) := by decide +kernel
theorem dX7_append_56 : decode cX7_append 56 = .ok (.putfield 21, 3) := by decide +kernel
theorem dX7_append_59 : decode cX7_append 59 = .ok (.return_, 1) := by decide +kernel
theorem dX7_isBlank_0 : decode cX7_isBlank 0 = .ok (.iload_n 1, 1) := by decide +kernel
theorem dX7_isBlank_1 : decode cX7_isBlank 1 = .ok (.aload_n 0, 1) := by decide +kernel
theorem dX7_isBlank_2 : decode cX7_isBlank 2 = .ok (.getfield 21, 3) := by decide +kernel
theorem dX7_isBlank_5 : decode cX7_isBlank 5 = .ok (.iconst 1, 1) := by decide +kernel
theorem dX7_isBlank_6 : decode cX7_isBlank 6 = .ok (.isub, 1) := by decide +kernel
theorem dX7_isBlank_7 : decode cX7_isBlank 7 = .ok (.invokestatic 25, 3) := by decide +kernel
theorem dX7_isBlank_10 : decode cX7_isBlank 10 = .ok (.ifCond .eq 29, 3) := by decide +kernel
theorem dX7_isBlank_13 : decode cX7_isBlank 13 = .ok (.aload_n 0, 1) := by decide +kernel
theorem dX7_isBlank_14 : decode cX7_isBlank 14 = .ok (.getfield 9, 3) := by decide +kernel
theorem dX7_isBlank_17 : decode cX7_isBlank 17 = .ok (.iload_n 1, 1) := by decide +kernel
theorem dX7_isBlank_18 : decode cX7_isBlank 18 = .ok (.baload, 1) := by decide +kernel
theorem dX7_isBlank_19 : decode cX7_isBlank 19 = .ok (.bipush 10, 2) := by decide +kernel
theorem dX7_isBlank_21 : decode cX7_isBlank 21 = .ok (.if_icmp .eq 14, 3) := by decide +kernel
theorem dX7_isBlank_24 : decode cX7_isBlank 24 = .ok (.aload_n 0, 1) := by decide +kernel
theorem dX7_isBlank_25 : decode cX7_isBlank 25 = .ok (.getfield 9, 3) := by decide +kernel
theorem dX7_isBlank_28 : decode cX7_isBlank 28 = .ok (.iload_n 1, 1) := by decide +kernel
theorem dX7_isBlank_29 : decode cX7_isBlank 29 = .ok (.baload, 1) := by decide +kernel
theorem dX7_isBlank_30 : decode cX7_isBlank 30 = .ok (.bipush 32, 2) := by decide +kernel
theorem dX7_isBlank_32 : decode cX7_isBlank 32 = .ok (.if_icmp .ne 7, 3) := by decide +kernel
theorem dX7_isBlank_35 : decode cX7_isBlank 35 = .ok (.iconst 1, 1) := by decide +kernel
theorem dX7_isBlank_36 : decode cX7_isBlank 36 = .ok (.goto 4, 3) := by decide +kernel
theorem dX7_isBlank_39 : decode cX7_isBlank 39 = .ok (.iconst 0, 1) := by decide +kernel
theorem dX7_isBlank_40 : decode cX7_isBlank 40 = .ok (.ireturn, 1) := by decide +kernel
theorem dX7_isLetter_0 : decode cX7_isLetter 0 = .ok (.iload_n 1, 1) := by decide +kernel
theorem dX7_isLetter_1 : decode cX7_isLetter 1 = .ok (.aload_n 0, 1) := by decide +kernel
theorem dX7_isLetter_2 : decode cX7_isLetter 2 = .ok (.getfield 21, 3) := by decide +kernel
theorem dX7_isLetter_5 : decode cX7_isLetter 5 = .ok (.iconst 1, 1) := by decide +kernel
theorem dX7_isLetter_6 : decode cX7_isLetter 6 = .ok (.isub, 1) := by decide +kernel
theorem dX7_isLetter_7 : decode cX7_isLetter 7 = .ok (.invokestatic 25, 3) := by decide +kernel
theorem dX7_isLetter_10 : decode cX7_isLetter 10 = .ok (.ifCond .eq 29, 3) := by decide +kernel
theorem dX7_isLetter_13 : decode cX7_isLetter 13 = .ok (.aload_n 0, 1) := by decide +kernel
theorem dX7_isLetter_14 : decode cX7_isLetter 14 = .ok (.getfield 9, 3) := by decide +kernel
theorem dX7_isLetter_17 : decode cX7_isLetter 17 = .ok (.iload_n 1, 1) := by decide +kernel
theorem dX7_isLetter_18 : decode cX7_isLetter 18 = .ok (.baload, 1) := by decide +kernel
theorem dX7_isLetter_19 : decode cX7_isLetter 19 = .ok (.bipush 97, 2) := by decide +kernel
theorem dX7_isLetter_21 : decode cX7_isLetter 21 = .ok (.if_icmp .lt 18, 3) := by decide +kernel
theorem dX7_isLetter_24 : decode cX7_isLetter 24 = .ok (.aload_n 0, 1) := by decide +kernel
theorem dX7_isLetter_25 : decode cX7_isLetter 25 = .ok (.getfield 9, 3) := by decide +kernel
theorem dX7_isLetter_28 : decode cX7_isLetter 28 = .ok (.iload_n 1, 1) := by decide +kernel
theorem dX7_isLetter_29 : decode cX7_isLetter 29 = .ok (.baload, 1) := by decide +kernel
theorem dX7_isLetter_30 : decode cX7_isLetter 30 = .ok (.bipush 122, 2) := by decide +kernel
theorem dX7_isLetter_32 : decode cX7_isLetter 32 = .ok (.if_icmp .gt 7, 3) := by decide +kernel
theorem dX7_isLetter_35 : decode cX7_isLetter 35 = .ok (.iconst 1, 1) := by decide +kernel
theorem dX7_isLetter_36 : decode cX7_isLetter 36 = .ok (.goto 4, 3) := by decide +kernel
theorem dX7_isLetter_39 : decode cX7_isLetter 39 = .ok (.iconst 0, 1) := by decide +kernel
theorem dX7_isLetter_40 : decode cX7_isLetter 40 = .ok (.ireturn, 1) := by decide +kernel
theorem dX7_isDigit_0 : decode cX7_isDigit 0 = .ok (.iload_n 1, 1) := by decide +kernel
theorem dX7_isDigit_1 : decode cX7_isDigit 1 = .ok (.aload_n 0, 1) := by decide +kernel
theorem dX7_isDigit_2 : decode cX7_isDigit 2 = .ok (.getfield 21, 3) := by decide +kernel
theorem dX7_isDigit_5 : decode cX7_isDigit 5 = .ok (.iconst 1, 1) := by decide +kernel
theorem dX7_isDigit_6 : decode cX7_isDigit 6 = .ok (.isub, 1) := by decide +kernel
theorem dX7_isDigit_7 : decode cX7_isDigit 7 = .ok (.invokestatic 25, 3) := by decide +kernel
theorem dX7_isDigit_10 : decode cX7_isDigit 10 = .ok (.ifCond .eq 29, 3) := by decide +kernel
theorem dX7_isDigit_13 : decode cX7_isDigit 13 = .ok (.aload_n 0, 1) := by decide +kernel
theorem dX7_isDigit_14 : decode cX7_isDigit 14 = .ok (.getfield 9, 3) := by decide +kernel
theorem dX7_isDigit_17 : decode cX7_isDigit 17 = .ok (.iload_n 1, 1) := by decide +kernel
theorem dX7_isDigit_18 : decode cX7_isDigit 18 = .ok (.baload, 1) := by decide +kernel
theorem dX7_isDigit_19 : decode cX7_isDigit 19 = .ok (.bipush 48, 2) := by decide +kernel
theorem dX7_isDigit_21 : decode cX7_isDigit 21 = .ok (.if_icmp .lt 18, 3) := by decide +kernel
theorem dX7_isDigit_24 : decode cX7_isDigit 24 = .ok (.aload_n 0, 1) := by decide +kernel
theorem dX7_isDigit_25 : decode cX7_isDigit 25 = .ok (.getfield 9, 3) := by decide +kernel
theorem dX7_isDigit_28 : decode cX7_isDigit 28 = .ok (.iload_n 1, 1) := by decide +kernel
theorem dX7_isDigit_29 : decode cX7_isDigit 29 = .ok (.baload, 1) := by decide +kernel
theorem dX7_isDigit_30 : decode cX7_isDigit 30 = .ok (.bipush 57, 2) := by decide +kernel
theorem dX7_isDigit_32 : decode cX7_isDigit 32 = .ok (.if_icmp .gt 7, 3) := by decide +kernel
theorem dX7_isDigit_35 : decode cX7_isDigit 35 = .ok (.iconst 1, 1) := by decide +kernel
theorem dX7_isDigit_36 : decode cX7_isDigit 36 = .ok (.goto 4, 3) := by decide +kernel
theorem dX7_isDigit_39 : decode cX7_isDigit 39 = .ok (.iconst 0, 1) := by decide +kernel
theorem dX7_isDigit_40 : decode cX7_isDigit 40 = .ok (.ireturn, 1) := by decide +kernel
theorem dX7_endOfLetters_0 : decode cX7_endOfLetters 0 = .ok (.iload_n 1, 1) := by decide +kernel
theorem dX7_endOfLetters_1 : decode cX7_endOfLetters 1 = .ok (.istore_n 2, 1) := by decide +kernel
theorem dX7_endOfLetters_2 : decode cX7_endOfLetters 2 = .ok (.iload_n 2, 1) := by decide +kernel
theorem dX7_endOfLetters_3 : decode cX7_endOfLetters 3 = .ok (.aload_n 0, 1) := by decide +kernel
theorem dX7_endOfLetters_4 : decode cX7_endOfLetters 4 = .ok (.getfield 21, 3) := by decide +kernel
theorem dX7_endOfLetters_7 : decode cX7_endOfLetters 7 = .ok (.if_icmp .ge 17, 3) := by decide +kernel
theorem dX7_endOfLetters_10 : decode cX7_endOfLetters 10 = .ok (.aload_n 0, 1) := by decide +kernel
theorem dX7_endOfLetters_11 : decode cX7_endOfLetters 11 = .ok (.iload_n 2, 1) := by decide +kernel
theorem dX7_endOfLetters_12 : decode cX7_endOfLetters 12 = .ok (.invokevirtual 29, 3) := by decide +kernel
theorem dX7_endOfLetters_15 : decode cX7_endOfLetters 15 = .ok (.ifCond .eq 9, 3) := by decide +kernel
theorem dX7_endOfLetters_18 : decode cX7_endOfLetters 18 = .ok (.iinc 2 1, 3) := by decide +kernel
theorem dX7_endOfLetters_21 : decode cX7_endOfLetters 21 = .ok (.goto (-19), 3) := by decide +kernel
theorem dX7_endOfLetters_24 : decode cX7_endOfLetters 24 = .ok (.iload_n 2, 1) := by decide +kernel
theorem dX7_endOfLetters_25 : decode cX7_endOfLetters 25 = .ok (.ireturn, 1) := by decide +kernel
theorem dX7_endOfDigits_0 : decode cX7_endOfDigits 0 = .ok (.iload_n 1, 1) := by decide +kernel
theorem dX7_endOfDigits_1 : decode cX7_endOfDigits 1 = .ok (.istore_n 2, 1) := by decide +kernel
theorem dX7_endOfDigits_2 : decode cX7_endOfDigits 2 = .ok (.iload_n 2, 1) := by decide +kernel
theorem dX7_endOfDigits_3 : decode cX7_endOfDigits 3 = .ok (.aload_n 0, 1) := by decide +kernel
theorem dX7_endOfDigits_4 : decode cX7_endOfDigits 4 = .ok (.getfield 21, 3) := by decide +kernel
theorem dX7_endOfDigits_7 : decode cX7_endOfDigits 7 = .ok (.if_icmp .ge 17, 3) := by decide +kernel
theorem dX7_endOfDigits_10 : decode cX7_endOfDigits 10 = .ok (.aload_n 0, 1) := by decide +kernel
theorem dX7_endOfDigits_11 : decode cX7_endOfDigits 11 = .ok (.iload_n 2, 1) := by decide +kernel
theorem dX7_endOfDigits_12 : decode cX7_endOfDigits 12 = .ok (.invokevirtual 33, 3) := by decide +kernel
theorem dX7_endOfDigits_15 : decode cX7_endOfDigits 15 = .ok (.ifCond .eq 9, 3) := by decide +kernel
theorem dX7_endOfDigits_18 : decode cX7_endOfDigits 18 = .ok (.iinc 2 1, 3) := by decide +kernel
theorem dX7_endOfDigits_21 : decode cX7_endOfDigits 21 = .ok (.goto (-19), 3) := by decide +kernel
theorem dX7_endOfDigits_24 : decode cX7_endOfDigits 24 = .ok (.iload_n 2, 1) := by decide +kernel
theorem dX7_endOfDigits_25 : decode cX7_endOfDigits 25 = .ok (.ireturn, 1) := by decide +kernel
theorem dX7_spells_0 : decode cX7_spells 0 = .ok (.iload_n 1, 1) := by decide +kernel
theorem dX7_spells_1 : decode cX7_spells 1 = .ok (.ifCond .lt 21, 3) := by decide +kernel
theorem dX7_spells_4 : decode cX7_spells 4 = .ok (.iload_n 2, 1) := by decide +kernel
theorem dX7_spells_5 : decode cX7_spells 5 = .ok (.aload_n 0, 1) := by decide +kernel
theorem dX7_spells_6 : decode cX7_spells 6 = .ok (.getfield 21, 3) := by decide +kernel
theorem dX7_spells_9 : decode cX7_spells 9 = .ok (.if_icmp .gt 13, 3) := by decide +kernel
theorem dX7_spells_12 : decode cX7_spells 12 = .ok (.iload_n 2, 1) := by decide +kernel
theorem dX7_spells_13 : decode cX7_spells 13 = .ok (.iload_n 1, 1) := by decide +kernel
theorem dX7_spells_14 : decode cX7_spells 14 = .ok (.isub, 1) := by decide +kernel
theorem dX7_spells_15 : decode cX7_spells 15 = .ok (.aload_n 3, 1) := by decide +kernel
theorem dX7_spells_16 : decode cX7_spells 16 = .ok (.invokevirtual 36, 3) := by decide +kernel
theorem dX7_spells_19 : decode cX7_spells 19 = .ok (.if_icmp .eq 5, 3) := by decide +kernel
theorem dX7_spells_22 : decode cX7_spells 22 = .ok (.iconst 0, 1) := by decide +kernel
theorem dX7_spells_23 : decode cX7_spells 23 = .ok (.ireturn, 1) := by decide +kernel
theorem dX7_spells_24 : decode cX7_spells 24 = .ok (.iconst 0, 1) := by decide +kernel
theorem dX7_spells_25 : decode cX7_spells 25 = .ok (.istore 4, 2) := by decide +kernel
theorem dX7_spells_27 : decode cX7_spells 27 = .ok (.iload 4, 2) := by decide +kernel
theorem dX7_spells_29 : decode cX7_spells 29 = .ok (.aload_n 3, 1) := by decide +kernel
theorem dX7_spells_30 : decode cX7_spells 30 = .ok (.invokevirtual 36, 3) := by decide +kernel
theorem dX7_spells_33 : decode cX7_spells 33 = .ok (.if_icmp .ge 29, 3) := by decide +kernel
theorem dX7_spells_36 : decode cX7_spells 36 = .ok (.aload_n 0, 1) := by decide +kernel
theorem dX7_spells_37 : decode cX7_spells 37 = .ok (.getfield 9, 3) := by decide +kernel
theorem dX7_spells_40 : decode cX7_spells 40 = .ok (.iload_n 1, 1) := by decide +kernel
theorem dX7_spells_41 : decode cX7_spells 41 = .ok (.iload 4, 2) := by decide +kernel
theorem dX7_spells_43 : decode cX7_spells 43 = .ok (.iadd, 1) := by decide +kernel
theorem dX7_spells_44 : decode cX7_spells 44 = .ok (.baload, 1) := by decide +kernel
theorem dX7_spells_45 : decode cX7_spells 45 = .ok (.aload_n 3, 1) := by decide +kernel
theorem dX7_spells_46 : decode cX7_spells 46 = .ok (.iload 4, 2) := by decide +kernel
theorem dX7_spells_48 : decode cX7_spells 48 = .ok (.invokevirtual 41, 3) := by decide +kernel
theorem dX7_spells_51 : decode cX7_spells 51 = .ok (.if_icmp .eq 5, 3) := by decide +kernel
theorem dX7_spells_54 : decode cX7_spells 54 = .ok (.iconst 0, 1) := by decide +kernel
theorem dX7_spells_55 : decode cX7_spells 55 = .ok (.ireturn, 1) := by decide +kernel
theorem dX7_spells_56 : decode cX7_spells 56 = .ok (.iinc 4 1, 3) := by decide +kernel
theorem dX7_spells_59 : decode cX7_spells 59 = .ok (.goto (-32), 3) := by decide +kernel
theorem dX7_spells_62 : decode cX7_spells 62 = .ok (.iconst 1, 1) := by decide +kernel
theorem dX7_spells_63 : decode cX7_spells 63 = .ok (.ireturn, 1) := by decide +kernel
theorem dX8_init_0 : decode cX8_init 0 = .ok (.aload_n 0, 1) := by decide +kernel
theorem dX8_init_1 : decode cX8_init 1 = .ok (.invokespecial 3, 3) := by decide +kernel
theorem dX8_init_4 : decode cX8_init 4 = .ok (.aload_n 0, 1) := by decide +kernel
theorem dX8_init_5 : decode cX8_init 5 = .ok (.sipush 601, 3) := by decide +kernel
theorem dX8_init_8 : decode cX8_init 8 = .ok (.newarray .int, 2) := by decide +kernel
theorem dX8_init_10 : decode cX8_init 10 = .ok (.putfield 9, 3) := by decide +kernel
theorem dX8_init_13 : decode cX8_init 13 = .ok (.aload_n 0, 1) := by decide +kernel
theorem dX8_init_14 : decode cX8_init 14 = .ok (.sipush 601, 3) := by decide +kernel
theorem dX8_init_17 : decode cX8_init 17 = .ok (.newarray .int, 2) := by decide +kernel
theorem dX8_init_19 : decode cX8_init 19 = .ok (.putfield 15, 3) := by decide +kernel
theorem dX8_init_22 : decode cX8_init 22 = .ok (.aload_n 0, 1) := by decide +kernel
theorem dX8_init_23 : decode cX8_init 23 = .ok (.sipush 601, 3) := by decide +kernel
theorem dX8_init_26 : decode cX8_init 26 = .ok (.newarray .int, 2) := by decide +kernel
theorem dX8_init_28 : decode cX8_init 28 = .ok (.putfield 18, 3) := by decide +kernel
theorem dX8_init_31 : decode cX8_init 31 = .ok (.return_, 1) := by decide +kernel
theorem dX8_scan_0 : decode cX8_scan 0 = .ok (.aload_n 0, 1) := by decide +kernel
theorem dX8_scan_1 : decode cX8_scan 1 = .ok (.iconst 0, 1) := by decide +kernel
theorem dX8_scan_2 : decode cX8_scan 2 = .ok (.putfield 21, 3) := by decide +kernel
theorem dX8_scan_5 : decode cX8_scan 5 = .ok (.iconst 0, 1) := by decide +kernel
theorem dX8_scan_6 : decode cX8_scan 6 = .ok (.istore_n 2, 1) := by decide +kernel
theorem dX8_scan_7 : decode cX8_scan 7 = .ok (.iload_n 2, 1) := by decide +kernel
theorem dX8_scan_8 : decode cX8_scan 8 = .ok (.aload_n 1, 1) := by decide +kernel
theorem dX8_scan_9 : decode cX8_scan 9 = .ok (.getfield 25, 3) := by decide +kernel
theorem dX8_scan_12 : decode cX8_scan 12 = .ok (.if_icmp .ge 23, 3) := by decide +kernel
theorem dX8_scan_15 : decode cX8_scan 15 = .ok (.aload_n 1, 1) := by decide +kernel
theorem dX8_scan_16 : decode cX8_scan 16 = .ok (.iload_n 2, 1) := by decide +kernel
theorem dX8_scan_17 : decode cX8_scan 17 = .ok (.invokestatic 30, 3) := by decide +kernel
theorem dX8_scan_20 : decode cX8_scan 20 = .ok (.ifCond .eq 9, 3) := by decide +kernel
theorem dX8_scan_23 : decode cX8_scan 23 = .ok (.aload_n 0, 1) := by decide +kernel
theorem dX8_scan_24 : decode cX8_scan 24 = .ok (.aload_n 1, 1) := by decide +kernel
theorem dX8_scan_25 : decode cX8_scan 25 = .ok (.iload_n 2, 1) := by decide +kernel
theorem dX8_scan_26 : decode cX8_scan 26 = .ok (.invokevirtual 34, 3) := by decide +kernel
theorem dX8_scan_29 : decode cX8_scan 29 = .ok (.iinc 2 1, 3) := by decide +kernel
theorem dX8_scan_32 : decode cX8_scan 32 = .ok (.goto (-25), 3) := by decide +kernel
theorem dX8_scan_35 : decode cX8_scan 35 = .ok (.aload_n 0, 1) := by decide +kernel
theorem dX8_scan_36 : decode cX8_scan 36 = .ok (.iconst 0, 1) := by decide +kernel
theorem dX8_scan_37 : decode cX8_scan 37 = .ok (.aload_n 1, 1) := by decide +kernel
theorem dX8_scan_38 : decode cX8_scan 38 = .ok (.getfield 25, 3) := by decide +kernel
theorem dX8_scan_41 : decode cX8_scan 41 = .ok (.iconst 0, 1) := by decide +kernel
theorem dX8_scan_42 : decode cX8_scan 42 = .ok (.invokevirtual 38, 3) := by decide +kernel
theorem dX8_scan_45 : decode cX8_scan 45 = .ok (.return_, 1) := by decide +kernel
theorem dX8_startsToken_0 : decode cX8_startsToken 0 = .ok (.aload_n 0, 1) := by decide +kernel
theorem dX8_startsToken_1 : decode cX8_startsToken 1 = .ok (.iload_n 1, 1) := by decide +kernel
theorem dX8_startsToken_2 : decode cX8_startsToken 2 = .ok (.invokevirtual 42, 3) := by decide +kernel
theorem dX8_startsToken_5 : decode cX8_startsToken 5 = .ok (.ifCond .eq 13, 3) := by decide +kernel
theorem dX8_startsToken_8 : decode cX8_startsToken 8 = .ok (.aload_n 0, 1) := by decide +kernel
theorem dX8_startsToken_9 : decode cX8_startsToken 9 = .ok (.iload_n 1, 1) := by decide +kernel
theorem dX8_startsToken_10 : decode cX8_startsToken 10 = .ok (.iconst 1, 1) := by decide +kernel
theorem dX8_startsToken_11 : decode cX8_startsToken 11 = .ok (.isub, 1) := by decide +kernel
theorem dX8_startsToken_12 : decode cX8_startsToken 12 = .ok (.invokevirtual 42, 3) := by decide +kernel
theorem dX8_startsToken_15 : decode cX8_startsToken 15 = .ok (.ifCond .ne 21, 3) := by decide +kernel
theorem dX8_startsToken_18 : decode cX8_startsToken 18 = .ok (.aload_n 0, 1) := by decide +kernel
theorem dX8_startsToken_19 : decode cX8_startsToken 19 = .ok (.iload_n 1, 1) := by decide +kernel
theorem dX8_startsToken_20 : decode cX8_startsToken 20 = .ok (.invokevirtual 46, 3) := by decide +kernel
theorem dX8_startsToken_23 : decode cX8_startsToken 23 = .ok (.ifCond .eq 17, 3) := by decide +kernel
theorem dX8_startsToken_26 : decode cX8_startsToken 26 = .ok (.aload_n 0, 1) := by decide +kernel
theorem dX8_startsToken_27 : decode cX8_startsToken 27 = .ok (.iload_n 1, 1) := by decide +kernel
theorem dX8_startsToken_28 : decode cX8_startsToken 28 = .ok (.iconst 1, 1) := by decide +kernel
theorem dX8_startsToken_29 : decode cX8_startsToken 29 = .ok (.isub, 1) := by decide +kernel
theorem dX8_startsToken_30 : decode cX8_startsToken 30 = .ok (.invokevirtual 46, 3) := by decide +kernel
theorem dX8_startsToken_33 : decode cX8_startsToken 33 = .ok (.ifCond .eq 7, 3) := by decide +kernel
theorem dX8_startsToken_36 : decode cX8_startsToken 36 = .ok (.iconst 1, 1) := by decide +kernel
theorem dX8_startsToken_37 : decode cX8_startsToken 37 = .ok (.goto 4, 3) := by decide +kernel
theorem dX8_startsToken_40 : decode cX8_startsToken 40 = .ok (.iconst 0, 1) := by decide +kernel
theorem dX8_startsToken_41 : decode cX8_startsToken 41 = .ok (.istore_n 2, 1) := by decide +kernel
theorem dX8_startsToken_42 : decode cX8_startsToken 42 = .ok (.iload_n 2, 1) := by decide +kernel
theorem dX8_startsToken_43 : decode cX8_startsToken 43 = .ok (.ifCond .ne 15, 3) := by decide +kernel
theorem dX8_startsToken_46 : decode cX8_startsToken 46 = .ok (.aload_n 0, 1) := by decide +kernel
theorem dX8_startsToken_47 : decode cX8_startsToken 47 = .ok (.iload_n 1, 1) := by decide +kernel
theorem dX8_startsToken_48 : decode cX8_startsToken 48 = .ok (.invokevirtual 49, 3) := by decide +kernel
theorem dX8_startsToken_51 : decode cX8_startsToken 51 = .ok (.ifCond .ne 7, 3) := by decide +kernel
theorem dX8_startsToken_54 : decode cX8_startsToken 54 = .ok (.iconst 1, 1) := by decide +kernel
theorem dX8_startsToken_55 : decode cX8_startsToken 55 = .ok (.goto 4, 3) := by decide +kernel
theorem dX8_startsToken_58 : decode cX8_startsToken 58 = .ok (.iconst 0, 1) := by decide +kernel
theorem dX8_startsToken_59 : decode cX8_startsToken 59 = .ok (.ireturn, 1) := by decide +kernel
theorem dX8_addFrom_0 : decode cX8_addFrom 0 = .ok (.aload_n 1, 1) := by decide +kernel
theorem dX8_addFrom_1 : decode cX8_addFrom 1 = .ok (.iload_n 2, 1) := by decide +kernel
theorem dX8_addFrom_2 : decode cX8_addFrom 2 = .ok (.invokevirtual 42, 3) := by decide +kernel
theorem dX8_addFrom_5 : decode cX8_addFrom 5 = .ok (.ifCond .eq 22, 3) := by decide +kernel
theorem dX8_addFrom_8 : decode cX8_addFrom 8 = .ok (.aload_n 0, 1) := by decide +kernel
theorem dX8_addFrom_9 : decode cX8_addFrom 9 = .ok (.aload_n 1, 1) := by decide +kernel
theorem dX8_addFrom_10 : decode cX8_addFrom 10 = .ok (.iload_n 2, 1) := by decide +kernel
theorem dX8_addFrom_11 : decode cX8_addFrom 11 = .ok (.aload_n 1, 1) := by decide +kernel
theorem dX8_addFrom_12 : decode cX8_addFrom 12 = .ok (.iload_n 2, 1) := by decide +kernel
theorem dX8_addFrom_13 : decode cX8_addFrom 13 = .ok (.invokevirtual 52, 3) := by decide +kernel
theorem dX8_addFrom_16 : decode cX8_addFrom 16 = .ok (.invokestatic 56, 3) := by decide +kernel
theorem dX8_addFrom_19 : decode cX8_addFrom 19 = .ok (.iload_n 2, 1) := by decide +kernel
theorem dX8_addFrom_20 : decode cX8_addFrom 20 = .ok (.iconst 0, 1) := by decide +kernel
theorem dX8_addFrom_21 : decode cX8_addFrom 21 = .ok (.invokevirtual 38, 3) := by decide +kernel
theorem dX8_addFrom_24 : decode cX8_addFrom 24 = .ok (.goto 40, 3) := by decide +kernel
theorem dX8_addFrom_27 : decode cX8_addFrom 27 = .ok (.aload_n 1, 1) := by decide +kernel
theorem dX8_addFrom_28 : decode cX8_addFrom 28 = .ok (.iload_n 2, 1) := by decide +kernel
theorem dX8_addFrom_29 : decode cX8_addFrom 29 = .ok (.invokevirtual 46, 3) := by decide +kernel
theorem dX8_addFrom_32 : decode cX8_addFrom 32 = .ok (.ifCond .eq 17, 3) := by decide +kernel
theorem dX8_addFrom_35 : decode cX8_addFrom 35 = .ok (.aload_n 0, 1) := by decide +kernel
theorem dX8_addFrom_36 : decode cX8_addFrom 36 = .ok (.aload_n 1, 1) := by decide +kernel
theorem dX8_addFrom_37 : decode cX8_addFrom 37 = .ok (.iload_n 2, 1) := by decide +kernel
theorem dX8_addFrom_38 : decode cX8_addFrom 38 = .ok (.aload_n 1, 1) := by decide +kernel
theorem dX8_addFrom_39 : decode cX8_addFrom 39 = .ok (.iload_n 2, 1) := by decide +kernel
theorem dX8_addFrom_40 : decode cX8_addFrom 40 = .ok (.invokevirtual 60, 3) := by decide +kernel
theorem dX8_addFrom_43 : decode cX8_addFrom 43 = .ok (.invokevirtual 63, 3) := by decide +kernel
theorem dX8_addFrom_46 : decode cX8_addFrom 46 = .ok (.goto 18, 3) := by decide +kernel
theorem dX8_addFrom_49 : decode cX8_addFrom 49 = .ok (.aload_n 0, 1) := by decide +kernel
theorem dX8_addFrom_50 : decode cX8_addFrom 50 = .ok (.aload_n 1, 1) := by decide +kernel
theorem dX8_addFrom_51 : decode cX8_addFrom 51 = .ok (.getfield 67, 3) := by decide +kernel
theorem dX8_addFrom_54 : decode cX8_addFrom 54 = .ok (.iload_n 2, 1) := by decide +kernel
theorem dX8_addFrom_55 : decode cX8_addFrom 55 = .ok (.baload, 1) := by decide +kernel
theorem dX8_addFrom_56 : decode cX8_addFrom 56 = .ok (.invokestatic 71, 3) := by decide +kernel
theorem dX8_addFrom_59 : decode cX8_addFrom 59 = .ok (.iload_n 2, 1) := by decide +kernel
theorem dX8_addFrom_60 : decode cX8_addFrom 60 = .ok (.iconst 0, 1) := by decide +kernel
theorem dX8_addFrom_61 : decode cX8_addFrom 61 = .ok (.invokevirtual 38, 3) := by decide +kernel
theorem dX8_addFrom_64 : decode cX8_addFrom 64 = .ok (.return_, 1) := by decide +kernel
theorem dX8_addNumber_0 : decode cX8_addNumber 0 = .ok (.iload_n 3, 1) := by decide +kernel
theorem dX8_addNumber_1 : decode cX8_addNumber 1 = .ok (.iload_n 2, 1) := by decide +kernel
theorem dX8_addNumber_2 : decode cX8_addNumber 2 = .ok (.isub, 1) := by decide +kernel
theorem dX8_addNumber_3 : decode cX8_addNumber 3 = .ok (.iconst 4, 1) := by decide +kernel
theorem dX8_addNumber_4 : decode cX8_addNumber 4 = .ok (.if_icmp .le 11, 3) := by decide +kernel
theorem dX8_addNumber_7 : decode cX8_addNumber 7 = .ok (.aload_n 0, 1) := by decide +kernel
theorem dX8_addNumber_8 : decode cX8_addNumber 8 = .ok (.iconst 1, 1) := by decide +kernel
theorem dX8_addNumber_9 : decode cX8_addNumber 9 = .ok (.iload_n 2, 1) := by decide +kernel
theorem dX8_addNumber_10 : decode cX8_addNumber 10 = .ok (.iconst 0, 1) := by decide +kernel
theorem dX8_addNumber_11 : decode cX8_addNumber 11 = .ok (.invokevirtual 38, 3) := by decide +kernel
theorem dX8_addNumber_14 : decode cX8_addNumber 14 = .ok (.return_, 1) := by decide +kernel
theorem dX8_addNumber_15 : decode cX8_addNumber 15 = .ok (.iconst 0, 1) := by decide +kernel
theorem dX8_addNumber_16 : decode cX8_addNumber 16 = .ok (.istore 4, 2) := by decide +kernel
theorem dX8_addNumber_18 : decode cX8_addNumber 18 = .ok (.iload_n 2, 1) := by decide +kernel
theorem dX8_addNumber_19 : decode cX8_addNumber 19 = .ok (.istore 5, 2) := by decide +kernel
theorem dX8_addNumber_21 : decode cX8_addNumber 21 = .ok (.iload 5, 2) := by decide +kernel
theorem dX8_addNumber_23 : decode cX8_addNumber 23 = .ok (.iload_n 3, 1) := by decide +kernel
theorem dX8_addNumber_24 : decode cX8_addNumber 24 = .ok (.if_icmp .ge 27, 3) := by decide +kernel
theorem dX8_addNumber_27 : decode cX8_addNumber 27 = .ok (.iload 4, 2) := by decide +kernel
theorem dX8_addNumber_29 : decode cX8_addNumber 29 = .ok (.bipush 10, 2) := by decide +kernel
theorem dX8_addNumber_31 : decode cX8_addNumber 31 = .ok (.imul, 1) := by decide +kernel
theorem dX8_addNumber_32 : decode cX8_addNumber 32 = .ok (.aload_n 1, 1) := by decide +kernel
theorem dX8_addNumber_33 : decode cX8_addNumber 33 = .ok (.getfield 67, 3) := by decide +kernel
theorem dX8_addNumber_36 : decode cX8_addNumber 36 = .ok (.iload 5, 2) := by decide +kernel
theorem dX8_addNumber_38 : decode cX8_addNumber 38 = .ok (.baload, 1) := by decide +kernel
theorem dX8_addNumber_39 : decode cX8_addNumber 39 = .ok (.bipush 48, 2) := by decide +kernel
theorem dX8_addNumber_41 : decode cX8_addNumber 41 = .ok (.isub, 1) := by decide +kernel
theorem dX8_addNumber_42 : decode cX8_addNumber 42 = .ok (.iadd, 1) := by decide +kernel
theorem dX8_addNumber_43 : decode cX8_addNumber 43 = .ok (.istore 4, 2) := by decide +kernel
theorem dX8_addNumber_45 : decode cX8_addNumber 45 = .ok (.iinc 5 1, 3) := by decide +kernel
theorem dX8_addNumber_48 : decode cX8_addNumber 48 = .ok (.goto (-27), 3) := by decide +kernel
theorem dX8_addNumber_51 : decode cX8_addNumber 51 = .ok (.aload_n 0, 1) := by decide +kernel
theorem dX8_addNumber_52 : decode cX8_addNumber 52 = .ok (.iconst 2, 1) := by decide +kernel
theorem dX8_addNumber_53 : decode cX8_addNumber 53 = .ok (.iload_n 2, 1) := by decide +kernel
theorem dX8_addNumber_54 : decode cX8_addNumber 54 = .ok (.iload 4, 2) := by decide +kernel
theorem dX8_addNumber_56 : decode cX8_addNumber 56 = .ok (.invokevirtual 38, 3) := by decide +kernel
theorem dX8_addNumber_59 : decode cX8_addNumber 59 = .ok (.return_, 1) := by decide +kernel
theorem dX8_add_0 : decode cX8_add 0 = .ok (.aload_n 0, 1) := by decide +kernel
theorem dX8_add_1 : decode cX8_add 1 = .ok (.getfield 21, 3) := by decide +kernel
theorem dX8_add_4 : decode cX8_add 4 = .ok (.sipush 600, 3) := by decide +kernel
theorem dX8_add_7 : decode cX8_add 7 = .ok (.if_icmp .gt 43, 3) := by decide +kernel
theorem dX8_add_10 : decode cX8_add 10 = .ok (.aload_n 0, 1) := by decide +kernel
theorem dX8_add_11 : decode cX8_add 11 = .ok (.getfield 9, 3) := by decide +kernel
theorem dX8_add_14 : decode cX8_add 14 = .ok (.aload_n 0, 1) := by decide +kernel
theorem dX8_add_15 : decode cX8_add 15 = .ok (.getfield 21, 3) := by decide +kernel
theorem dX8_add_18 : decode cX8_add 18 = .ok (.iload_n 1, 1) := by decide +kernel
theorem dX8_add_19 : decode cX8_add 19 = .ok (.iastore, 1) := by decide +kernel
theorem dX8_add_20 : decode cX8_add 20 = .ok (.aload_n 0, 1) := by decide +kernel
theorem dX8_add_21 : decode cX8_add 21 = .ok (.getfield 15, 3) := by decide +kernel
theorem dX8_add_24 : decode cX8_add 24 = .ok (.aload_n 0, 1) := by decide +kernel
theorem dX8_add_25 : decode cX8_add 25 = .ok (.getfield 21, 3) := by decide +kernel
theorem dX8_add_28 : decode cX8_add 28 = .ok (.iload_n 2, 1) := by decide +kernel
theorem dX8_add_29 : decode cX8_add 29 = .ok (.iastore, 1) := by decide +kernel
theorem dX8_add_30 : decode cX8_add 30 = .ok (.aload_n 0, 1) := by decide +kernel
theorem dX8_add_31 : decode cX8_add 31 = .ok (.getfield 18, 3) := by decide +kernel
theorem dX8_add_34 : decode cX8_add 34 = .ok (.aload_n 0, 1) := by decide +kernel
theorem dX8_add_35 : decode cX8_add 35 = .ok (.getfield 21, 3) := by decide +kernel
theorem dX8_add_38 : decode cX8_add 38 = .ok (.iload_n 3, 1) := by decide +kernel
theorem dX8_add_39 : decode cX8_add 39 = .ok (.iastore, 1) := by decide +kernel
theorem dX8_add_40 : decode cX8_add 40 = .ok (.aload_n 0, 1) := by decide +kernel
theorem dX8_add_41 : decode cX8_add 41 = .ok (.dup, 1) := by decide +kernel
theorem dX8_add_42 : decode cX8_add 42 = .ok (.getfield 21, 3) := by decide +kernel
theorem dX8_add_45 : decode cX8_add 45 = .ok (.iconst 1, 1) := by decide +kernel
theorem dX8_add_46 : decode cX8_add 46 = .ok (.iadd, 1) := by decide +kernel
theorem dX8_add_47 : decode cX8_add 47 = .ok (.putfield 21, 3) := by decide +kernel
theorem dX8_add_50 : decode cX8_add 50 = .ok (.return_, 1) := by decide +kernel
theorem dX8_signToken_0 : decode cX8_signToken 0 = .ok (.iload_n 0, 1) := by decide +kernel
theorem dX8_signToken_1 : decode cX8_signToken 1 = .ok (.tableswitch 105 40 61 #[103, 103, 105, 103, 105, 103, 105, 105, 105, 105, 105, 105, 105, 105, 105, 105, 105, 105, 105, 103, 103, 103], 103) := by decide +kernel
theorem dX8_signToken_104 : decode cX8_signToken 104 = .ok (.iload_n 0, 1) := by decide +kernel
theorem dX8_signToken_105 : decode cX8_signToken 105 = .ok (.ireturn, 1) := by decide +kernel
theorem dX8_signToken_106 : decode cX8_signToken 106 = .ok (.iconst 1, 1) := by decide +kernel
theorem dX8_signToken_107 : decode cX8_signToken 107 = .ok (.ireturn, 1) := by decide +kernel
theorem dX8_wordToken_0 : decode cX8_wordToken 0 = .ok (.aload_n 0, 1) := by decide +kernel
theorem dX8_wordToken_1 : decode cX8_wordToken 1 = .ok (.iload_n 1, 1) := by decide +kernel
theorem dX8_wordToken_2 : decode cX8_wordToken 2 = .ok (.iload_n 2, 1) := by decide +kernel
theorem dX8_wordToken_3 : decode cX8_wordToken 3 = .ok (.ldc 74, 2) := by decide +kernel
theorem dX8_wordToken_5 : decode cX8_wordToken 5 = .ok (.invokevirtual 76, 3) := by decide +kernel
theorem dX8_wordToken_8 : decode cX8_wordToken 8 = .ok (.ifCond .eq 7, 3) := by decide +kernel
theorem dX8_wordToken_11 : decode cX8_wordToken 11 = .ok (.sipush 201, 3) := by decide +kernel
theorem dX8_wordToken_14 : decode cX8_wordToken 14 = .ok (.ireturn, 1) := by decide +kernel
theorem dX8_wordToken_15 : decode cX8_wordToken 15 = .ok (.aload_n 0, 1) := by decide +kernel
theorem dX8_wordToken_16 : decode cX8_wordToken 16 = .ok (.iload_n 1, 1) := by decide +kernel
theorem dX8_wordToken_17 : decode cX8_wordToken 17 = .ok (.iload_n 2, 1) := by decide +kernel
theorem dX8_wordToken_18 : decode cX8_wordToken 18 = .ok (.ldc 80, 2) := by decide +kernel
theorem dX8_wordToken_20 : decode cX8_wordToken 20 = .ok (.invokevirtual 76, 3) := by decide +kernel
theorem dX8_wordToken_23 : decode cX8_wordToken 23 = .ok (.ifCond .eq 7, 3) := by decide +kernel
theorem dX8_wordToken_26 : decode cX8_wordToken 26 = .ok (.sipush 202, 3) := by decide +kernel
theorem dX8_wordToken_29 : decode cX8_wordToken 29 = .ok (.ireturn, 1) := by decide +kernel
theorem dX8_wordToken_30 : decode cX8_wordToken 30 = .ok (.aload_n 0, 1) := by decide +kernel
theorem dX8_wordToken_31 : decode cX8_wordToken 31 = .ok (.iload_n 1, 1) := by decide +kernel
theorem dX8_wordToken_32 : decode cX8_wordToken 32 = .ok (.iload_n 2, 1) := by decide +kernel
theorem dX8_wordToken_33 : decode cX8_wordToken 33 = .ok (.ldc 82, 2) := by decide +kernel
theorem dX8_wordToken_35 : decode cX8_wordToken 35 = .ok (.invokevirtual 76, 3) := by decide +kernel
theorem dX8_wordToken_38 : decode cX8_wordToken 38 = .ok (.ifCond .eq 7, 3) := by decide +kernel
theorem dX8_wordToken_41 : decode cX8_wordToken 41 = .ok (.sipush 203, 3) := by decide +kernel
theorem dX8_wordToken_44 : decode cX8_wordToken 44 = .ok (.ireturn, 1) := by decide +kernel
theorem dX8_wordToken_45 : decode cX8_wordToken 45 = .ok (.aload_n 0, 1) := by decide +kernel
theorem dX8_wordToken_46 : decode cX8_wordToken 46 = .ok (.iload_n 1, 1) := by decide +kernel
theorem dX8_wordToken_47 : decode cX8_wordToken 47 = .ok (.iload_n 2, 1) := by decide +kernel
theorem dX8_wordToken_48 : decode cX8_wordToken 48 = .ok (.ldc 84, 2) := by decide +kernel
theorem dX8_wordToken_50 : decode cX8_wordToken 50 = .ok (.invokevirtual 76, 3) := by decide +kernel
theorem dX8_wordToken_53 : decode cX8_wordToken 53 = .ok (.ifCond .eq 7, 3) := by decide +kernel
theorem dX8_wordToken_56 : decode cX8_wordToken 56 = .ok (.sipush 204, 3) := by decide +kernel
theorem dX8_wordToken_59 : decode cX8_wordToken 59 = .ok (.ireturn, 1) := by decide +kernel
theorem dX8_wordToken_60 : decode cX8_wordToken 60 = .ok (.aload_n 0, 1) := by decide +kernel
theorem dX8_wordToken_61 : decode cX8_wordToken 61 = .ok (.iload_n 1, 1) := by decide +kernel
theorem dX8_wordToken_62 : decode cX8_wordToken 62 = .ok (.iload_n 2, 1) := by decide +kernel
theorem dX8_wordToken_63 : decode cX8_wordToken 63 = .ok (.ldc 86, 2) := by decide +kernel
theorem dX8_wordToken_65 : decode cX8_wordToken 65 = .ok (.invokevirtual 76, 3) := by decide +kernel
theorem dX8_wordToken_68 : decode cX8_wordToken 68 = .ok (.ifCond .eq 7, 3) := by decide +kernel
theorem dX8_wordToken_71 : decode cX8_wordToken 71 = .ok (.sipush 205, 3) := by decide +kernel
theorem dX8_wordToken_74 : decode cX8_wordToken 74 = .ok (.ireturn, 1) := by decide +kernel
theorem dX8_wordToken_75 : decode cX8_wordToken 75 = .ok (.aload_n 0, 1) := by decide +kernel
theorem dX8_wordToken_76 : decode cX8_wordToken 76 = .ok (.iload_n 1, 1) := by decide +kernel
theorem dX8_wordToken_77 : decode cX8_wordToken 77 = .ok (.iload_n 2, 1) := by decide +kernel
theorem dX8_wordToken_78 : decode cX8_wordToken 78 = .ok (.ldc 88, 2) := by decide +kernel
theorem dX8_wordToken_80 : decode cX8_wordToken 80 = .ok (.invokevirtual 76, 3) := by decide +kernel
theorem dX8_wordToken_83 : decode cX8_wordToken 83 = .ok (.ifCond .eq 7, 3) := by decide +kernel
theorem dX8_wordToken_86 : decode cX8_wordToken 86 = .ok (.sipush 206, 3) := by decide +kernel
theorem dX8_wordToken_89 : decode cX8_wordToken 89 = .ok (.ireturn, 1) := by decide +kernel
theorem dX8_wordToken_90 : decode cX8_wordToken 90 = .ok (.aload_n 0, 1) := by decide +kernel
theorem dX8_wordToken_91 : decode cX8_wordToken 91 = .ok (.iload_n 1, 1) := by decide +kernel
theorem dX8_wordToken_92 : decode cX8_wordToken 92 = .ok (.iload_n 2, 1) := by decide +kernel
theorem dX8_wordToken_93 : decode cX8_wordToken 93 = .ok (.ldc 90, 2) := by decide +kernel
theorem dX8_wordToken_95 : decode cX8_wordToken 95 = .ok (.invokevirtual 76, 3) := by decide +kernel
theorem dX8_wordToken_98 : decode cX8_wordToken 98 = .ok (.ifCond .eq 7, 3) := by decide +kernel
theorem dX8_wordToken_101 : decode cX8_wordToken 101 = .ok (.sipush 207, 3) := by decide +kernel
theorem dX8_wordToken_104 : decode cX8_wordToken 104 = .ok (.ireturn, 1) := by decide +kernel
theorem dX8_wordToken_105 : decode cX8_wordToken 105 = .ok (.aload_n 0, 1) := by decide +kernel
theorem dX8_wordToken_106 : decode cX8_wordToken 106 = .ok (.iload_n 1, 1) := by decide +kernel
theorem dX8_wordToken_107 : decode cX8_wordToken 107 = .ok (.iload_n 2, 1) := by decide +kernel
theorem dX8_wordToken_108 : decode cX8_wordToken 108 = .ok (.ldc 92, 2) := by decide +kernel
theorem dX8_wordToken_110 : decode cX8_wordToken 110 = .ok (.invokevirtual 76, 3) := by decide +kernel
theorem dX8_wordToken_113 : decode cX8_wordToken 113 = .ok (.ifCond .eq 7, 3) := by decide +kernel
theorem dX8_wordToken_116 : decode cX8_wordToken 116 = .ok (.sipush 208, 3) := by decide +kernel
theorem dX8_wordToken_119 : decode cX8_wordToken 119 = .ok (.ireturn, 1) := by decide +kernel
theorem dX8_wordToken_120 : decode cX8_wordToken 120 = .ok (.aload_n 0, 1) := by decide +kernel
theorem dX8_wordToken_121 : decode cX8_wordToken 121 = .ok (.iload_n 1, 1) := by decide +kernel
theorem dX8_wordToken_122 : decode cX8_wordToken 122 = .ok (.iload_n 2, 1) := by decide +kernel
theorem dX8_wordToken_123 : decode cX8_wordToken 123 = .ok (.ldc 94, 2) := by decide +kernel
theorem dX8_wordToken_125 : decode cX8_wordToken 125 = .ok (.invokevirtual 76, 3) := by decide +kernel
theorem dX8_wordToken_128 : decode cX8_wordToken 128 = .ok (.ifCond .eq 9, 3) := by decide +kernel
theorem dX8_wordToken_131 : decode cX8_wordToken 131 = .ok (.sipush 209, 3) := by decide +kernel
theorem dX8_wordToken_134 : decode cX8_wordToken 134 = .ok (.goto 4, 3) := by decide +kernel
theorem dX8_wordToken_137 : decode cX8_wordToken 137 = .ok (.iconst 1, 1) := by decide +kernel
theorem dX8_wordToken_138 : decode cX8_wordToken 138 = .ok (.ireturn, 1) := by decide +kernel
theorem dX9_init_0 : decode cX9_init 0 = .ok (.aload_n 0, 1) := by decide +kernel
theorem dX9_init_1 : decode cX9_init 1 = .ok (.invokespecial 3, 3) := by decide +kernel
theorem dX9_init_4 : decode cX9_init 4 = .ok (.aload_n 0, 1) := by decide +kernel
theorem dX9_init_5 : decode cX9_init 5 = .ok (.new 9, 3) := by decide +kernel
theorem dX9_init_8 : decode cX9_init 8 = .ok (.dup, 1) := by decide +kernel
theorem dX9_init_9 : decode cX9_init 9 = .ok (.invokespecial 11, 3) := by decide +kernel
theorem dX9_init_12 : decode cX9_init 12 = .ok (.putfield 12, 3) := by decide +kernel
theorem dX9_init_15 : decode cX9_init 15 = .ok (.aload_n 0, 1) := by decide +kernel
theorem dX9_init_16 : decode cX9_init 16 = .ok (.new 16, 3) := by decide +kernel
theorem dX9_init_19 : decode cX9_init 19 = .ok (.dup, 1) := by decide +kernel
theorem dX9_init_20 : decode cX9_init 20 = .ok (.invokespecial 18, 3) := by decide +kernel
theorem dX9_init_23 : decode cX9_init 23 = .ok (.putfield 19, 3) := by decide +kernel
theorem dX9_init_26 : decode cX9_init 26 = .ok (.aload_n 0, 1) := by decide +kernel
theorem dX9_init_27 : decode cX9_init 27 = .ok (.new 23, 3) := by decide +kernel
theorem dX9_init_30 : decode cX9_init 30 = .ok (.dup, 1) := by decide +kernel
theorem dX9_init_31 : decode cX9_init 31 = .ok (.invokespecial 25, 3) := by decide +kernel
theorem dX9_init_34 : decode cX9_init 34 = .ok (.putfield 26, 3) := by decide +kernel
theorem dX9_init_37 : decode cX9_init 37 = .ok (.aload_n 0, 1) := by decide +kernel
theorem dX9_init_38 : decode cX9_init 38 = .ok (.new 30, 3) := by decide +kernel
theorem dX9_init_41 : decode cX9_init 41 = .ok (.dup, 1) := by decide +kernel
theorem dX9_init_42 : decode cX9_init 42 = .ok (.invokespecial 32, 3) := by decide +kernel
theorem dX9_init_45 : decode cX9_init 45 = .ok (.putfield 33, 3) := by decide +kernel
theorem dX9_init_48 : decode cX9_init 48 = .ok (.aload_n 0, 1) := by decide +kernel
theorem dX9_init_49 : decode cX9_init 49 = .ok (.new 37, 3) := by decide +kernel
theorem dX9_init_52 : decode cX9_init 52 = .ok (.dup, 1) := by decide +kernel
theorem dX9_init_53 : decode cX9_init 53 = .ok (.invokespecial 39, 3) := by decide +kernel
theorem dX9_init_56 : decode cX9_init 56 = .ok (.putfield 40, 3) := by decide +kernel
theorem dX9_init_59 : decode cX9_init 59 = .ok (.aload_n 0, 1) := by decide +kernel
theorem dX9_init_60 : decode cX9_init 60 = .ok (.new 44, 3) := by decide +kernel
theorem dX9_init_63 : decode cX9_init 63 = .ok (.dup, 1) := by decide +kernel
theorem dX9_init_64 : decode cX9_init 64 = .ok (.invokespecial 46, 3) := by decide +kernel
theorem dX9_init_67 : decode cX9_init 67 = .ok (.putfield 47, 3) := by decide +kernel
theorem dX9_init_70 : decode cX9_init 70 = .ok (.aload_n 0, 1) := by decide +kernel
theorem dX9_init_71 : decode cX9_init 71 = .ok (.new 51, 3) := by decide +kernel
theorem dX9_init_74 : decode cX9_init 74 = .ok (.dup, 1) := by decide +kernel
theorem dX9_init_75 : decode cX9_init 75 = .ok (.invokespecial 53, 3) := by decide +kernel
theorem dX9_init_78 : decode cX9_init 78 = .ok (.putfield 54, 3) := by decide +kernel
theorem dX9_init_81 : decode cX9_init 81 = .ok (.aload_n 0, 1) := by decide +kernel
theorem dX9_init_82 : decode cX9_init 82 = .ok (.new 58, 3) := by decide +kernel
theorem dX9_init_85 : decode cX9_init 85 = .ok (.dup, 1) := by decide +kernel
theorem dX9_init_86 : decode cX9_init 86 = .ok (.invokespecial 60, 3) := by decide +kernel
theorem dX9_init_89 : decode cX9_init 89 = .ok (.putfield 61, 3) := by decide +kernel
theorem dX9_init_92 : decode cX9_init 92 = .ok (.aload_n 0, 1) := by decide +kernel
theorem dX9_init_93 : decode cX9_init 93 = .ok (.bipush 10, 2) := by decide +kernel
theorem dX9_init_95 : decode cX9_init 95 = .ok (.newarray .int, 2) := by decide +kernel
theorem dX9_init_97 : decode cX9_init 97 = .ok (.putfield 65, 3) := by decide +kernel
theorem dX9_init_100 : decode cX9_init 100 = .ok (.aload_n 0, 1) := by decide +kernel
theorem dX9_init_101 : decode cX9_init 101 = .ok (.bipush 10, 2) := by decide +kernel
theorem dX9_init_103 : decode cX9_init 103 = .ok (.newarray .boolean, 2) := by decide +kernel
theorem dX9_init_105 : decode cX9_init 105 = .ok (.putfield 69, 3) := by decide +kernel
theorem dX9_init_108 : decode cX9_init 108 = .ok (.aload_n 0, 1) := by decide +kernel
theorem dX9_init_109 : decode cX9_init 109 = .ok (.bipush 6, 2) := by decide +kernel
theorem dX9_init_111 : decode cX9_init 111 = .ok (.newarray .int, 2) := by decide +kernel
theorem dX9_init_113 : decode cX9_init 113 = .ok (.putfield 73, 3) := by decide +kernel
theorem dX9_init_116 : decode cX9_init 116 = .ok (.aload_n 0, 1) := by decide +kernel
theorem dX9_init_117 : decode cX9_init 117 = .ok (.getfield 65, 3) := by decide +kernel
theorem dX9_init_120 : decode cX9_init 120 = .ok (.iconst 1, 1) := by decide +kernel
theorem dX9_init_121 : decode cX9_init 121 = .ok (.invokestatic 76, 3) := by decide +kernel
theorem dX9_init_124 : decode cX9_init 124 = .ok (.return_, 1) := by decide +kernel
theorem dX9_years_0 : decode cX9_years 0 = .ok (.iload_n 1, 1) := by decide +kernel
theorem dX9_years_1 : decode cX9_years 1 = .ok (.bipush 20, 2) := by decide +kernel
theorem dX9_years_3 : decode cX9_years 3 = .ok (.invokestatic 82, 3) := by decide +kernel
theorem dX9_years_6 : decode cX9_years 6 = .ok (.ifCond .eq 17, 3) := by decide +kernel
theorem dX9_years_9 : decode cX9_years 9 = .ok (.aload_n 0, 1) := by decide +kernel
theorem dX9_years_10 : decode cX9_years 10 = .ok (.getfield 12, 3) := by decide +kernel
theorem dX9_years_13 : decode cX9_years 13 = .ok (.getfield 86, 3) := by decide +kernel
theorem dX9_years_16 : decode cX9_years 16 = .ok (.iload_n 1, 1) := by decide +kernel
theorem dX9_years_17 : decode cX9_years 17 = .ok (.iadd, 1) := by decide +kernel
theorem dX9_years_18 : decode cX9_years 18 = .ok (.bipush 99, 2) := by decide +kernel
theorem dX9_years_20 : decode cX9_years 20 = .ok (.if_icmp .le 5, 3) := by decide +kernel
theorem dX9_years_23 : decode cX9_years 23 = .ok (.iconst (-1), 1) := by decide +kernel
theorem dX9_years_24 : decode cX9_years 24 = .ok (.ireturn, 1) := by decide +kernel
theorem dX9_years_25 : decode cX9_years 25 = .ok (.aload_n 0, 1) := by decide +kernel
theorem dX9_years_26 : decode cX9_years 26 = .ok (.getfield 12, 3) := by decide +kernel
theorem dX9_years_29 : decode cX9_years 29 = .ok (.dup, 1) := by decide +kernel
theorem dX9_years_30 : decode cX9_years 30 = .ok (.getfield 86, 3) := by decide +kernel
theorem dX9_years_33 : decode cX9_years 33 = .ok (.iload_n 1, 1) := by decide +kernel
theorem dX9_years_34 : decode cX9_years 34 = .ok (.iadd, 1) := by decide +kernel
theorem dX9_years_35 : decode cX9_years 35 = .ok (.putfield 86, 3) := by decide +kernel
theorem dX9_years_38 : decode cX9_years 38 = .ok (.aload_n 0, 1) := by decide +kernel
theorem dX9_years_39 : decode cX9_years 39 = .ok (.getfield 12, 3) := by decide +kernel
theorem dX9_years_42 : decode cX9_years 42 = .ok (.getfield 86, 3) := by decide +kernel
theorem dX9_years_45 : decode cX9_years 45 = .ok (.ireturn, 1) := by decide +kernel
theorem dX9_fact_0 : decode cX9_fact 0 = .ok (.iload_n 1, 1) := by decide +kernel
theorem dX9_fact_1 : decode cX9_fact 1 = .ok (.invokestatic 90, 3) := by decide +kernel
theorem dX9_fact_4 : decode cX9_fact 4 = .ok (.ifCond .eq 21, 3) := by decide +kernel
theorem dX9_fact_7 : decode cX9_fact 7 = .ok (.iload_n 2, 1) := by decide +kernel
theorem dX9_fact_8 : decode cX9_fact 8 = .ok (.invokestatic 94, 3) := by decide +kernel
theorem dX9_fact_11 : decode cX9_fact 11 = .ok (.ifCond .eq 14, 3) := by decide +kernel
theorem dX9_fact_14 : decode cX9_fact 14 = .ok (.iload_n 3, 1) := by decide +kernel
theorem dX9_fact_15 : decode cX9_fact 15 = .ok (.invokestatic 97, 3) := by decide +kernel
theorem dX9_fact_18 : decode cX9_fact 18 = .ok (.ifCond .eq 7, 3) := by decide +kernel
theorem dX9_fact_21 : decode cX9_fact 21 = .ok (.iconst 1, 1) := by decide +kernel
theorem dX9_fact_22 : decode cX9_fact 22 = .ok (.goto 4, 3) := by decide +kernel
theorem dX9_fact_25 : decode cX9_fact 25 = .ok (.iconst 0, 1) := by decide +kernel
theorem dX9_fact_26 : decode cX9_fact 26 = .ok (.istore 4, 2) := by decide +kernel
theorem dX9_fact_28 : decode cX9_fact 28 = .ok (.iload 4, 2) := by decide +kernel
theorem dX9_fact_30 : decode cX9_fact 30 = .ok (.ifCond .eq 15, 3) := by decide +kernel
theorem dX9_fact_33 : decode cX9_fact 33 = .ok (.aload_n 0, 1) := by decide +kernel
theorem dX9_fact_34 : decode cX9_fact 34 = .ok (.getfield 12, 3) := by decide +kernel
theorem dX9_fact_37 : decode cX9_fact 37 = .ok (.getfield 100, 3) := by decide +kernel
theorem dX9_fact_40 : decode cX9_fact 40 = .ok (.bipush 60, 2) := by decide +kernel
theorem dX9_fact_42 : decode cX9_fact 42 = .ok (.if_icmp .lt 5, 3) := by decide +kernel
theorem dX9_fact_45 : decode cX9_fact 45 = .ok (.iconst (-1), 1) := by decide +kernel
theorem dX9_fact_46 : decode cX9_fact 46 = .ok (.ireturn, 1) := by decide +kernel
theorem dX9_fact_47 : decode cX9_fact 47 = .ok (.aload_n 0, 1) := by decide +kernel
theorem dX9_fact_48 : decode cX9_fact 48 = .ok (.getfield 12, 3) := by decide +kernel
theorem dX9_fact_51 : decode cX9_fact 51 = .ok (.iload_n 1, 1) := by decide +kernel
theorem dX9_fact_52 : decode cX9_fact 52 = .ok (.iload_n 2, 1) := by decide +kernel
theorem dX9_fact_53 : decode cX9_fact 53 = .ok (.iload_n 3, 1) := by decide +kernel
theorem dX9_fact_54 : decode cX9_fact 54 = .ok (.invokevirtual 103, 3) := by decide +kernel
theorem dX9_fact_57 : decode cX9_fact 57 = .ok (.ireturn, 1) := by decide +kernel
theorem dX9_line_0 : decode cX9_line 0 = .ok (.aload_n 0, 1) := by decide +kernel
theorem dX9_line_1 : decode cX9_line 1 = .ok (.getfield 12, 3) := by decide +kernel
theorem dX9_line_4 : decode cX9_line 4 = .ok (.iload_n 1, 1) := by decide +kernel
theorem dX9_line_5 : decode cX9_line 5 = .ok (.invokevirtual 107, 3) := by decide +kernel
theorem dX9_line_8 : decode cX9_line 8 = .ok (.ifCond .eq 24, 3) := by decide +kernel
theorem dX9_line_11 : decode cX9_line 11 = .ok (.iload_n 2, 1) := by decide +kernel
theorem dX9_line_12 : decode cX9_line 12 = .ok (.iconst 1, 1) := by decide +kernel
theorem dX9_line_13 : decode cX9_line 13 = .ok (.if_icmp .lt 19, 3) := by decide +kernel
theorem dX9_line_16 : decode cX9_line 16 = .ok (.iload_n 2, 1) := by decide +kernel
theorem dX9_line_17 : decode cX9_line 17 = .ok (.bipush 9, 2) := by decide +kernel
theorem dX9_line_19 : decode cX9_line 19 = .ok (.if_icmp .gt 13, 3) := by decide +kernel
theorem dX9_line_22 : decode cX9_line 22 = .ok (.iload_n 3, 1) := by decide +kernel
theorem dX9_line_23 : decode cX9_line 23 = .ok (.sipush 999, 3) := by decide +kernel
theorem dX9_line_26 : decode cX9_line 26 = .ok (.invokestatic 82, 3) := by decide +kernel
theorem dX9_line_29 : decode cX9_line 29 = .ok (.ifCond .ne 5, 3) := by decide +kernel
theorem dX9_line_32 : decode cX9_line 32 = .ok (.iconst 0, 1) := by decide +kernel
theorem dX9_line_33 : decode cX9_line 33 = .ok (.ireturn, 1) := by decide +kernel
theorem dX9_line_34 : decode cX9_line 34 = .ok (.aload_n 0, 1) := by decide +kernel
theorem dX9_line_35 : decode cX9_line 35 = .ok (.getfield 12, 3) := by decide +kernel
theorem dX9_line_38 : decode cX9_line 38 = .ok (.getfield 110, 3) := by decide +kernel
theorem dX9_line_41 : decode cX9_line 41 = .ok (.iload_n 1, 1) := by decide +kernel
theorem dX9_line_42 : decode cX9_line 42 = .ok (.iload_n 2, 1) := by decide +kernel
theorem dX9_line_43 : decode cX9_line 43 = .ok (.iastore, 1) := by decide +kernel
theorem dX9_line_44 : decode cX9_line 44 = .ok (.aload_n 0, 1) := by decide +kernel
theorem dX9_line_45 : decode cX9_line 45 = .ok (.getfield 12, 3) := by decide +kernel
theorem dX9_line_48 : decode cX9_line 48 = .ok (.getfield 113, 3) := by decide +kernel
theorem dX9_line_51 : decode cX9_line 51 = .ok (.iload_n 1, 1) := by decide +kernel
theorem dX9_line_52 : decode cX9_line 52 = .ok (.iload_n 3, 1) := by decide +kernel
theorem dX9_line_53 : decode cX9_line 53 = .ok (.iastore, 1) := by decide +kernel
theorem dX9_line_54 : decode cX9_line 54 = .ok (.iconst 1, 1) := by decide +kernel
theorem dX9_line_55 : decode cX9_line 55 = .ok (.ireturn, 1) := by decide +kernel
theorem dX9_check_0 : decode cX9_check 0 = .ok (.aload_n 0, 1) := by decide +kernel
theorem dX9_check_1 : decode cX9_check 1 = .ok (.getfield 12, 3) := by decide +kernel
theorem dX9_check_4 : decode cX9_check 4 = .ok (.iload_n 1, 1) := by decide +kernel
theorem dX9_check_5 : decode cX9_check 5 = .ok (.invokevirtual 107, 3) := by decide +kernel
theorem dX9_check_8 : decode cX9_check 8 = .ok (.ifCond .eq 10, 3) := by decide +kernel
theorem dX9_check_11 : decode cX9_check 11 = .ok (.iload_n 2, 1) := by decide +kernel
theorem dX9_check_12 : decode cX9_check 12 = .ok (.invokestatic 97, 3) := by decide +kernel
theorem dX9_check_15 : decode cX9_check 15 = .ok (.ifCond .ne 5, 3) := by decide +kernel
theorem dX9_check_18 : decode cX9_check 18 = .ok (.iconst (-1), 1) := by decide +kernel
theorem dX9_check_19 : decode cX9_check 19 = .ok (.ireturn, 1) := by decide +kernel
theorem dX9_check_20 : decode cX9_check 20 = .ok (.aload_n 0, 1) := by decide +kernel
theorem dX9_check_21 : decode cX9_check 21 = .ok (.getfield 19, 3) := by decide +kernel
theorem dX9_check_24 : decode cX9_check 24 = .ok (.iload_n 1, 1) := by decide +kernel
theorem dX9_check_25 : decode cX9_check 25 = .ok (.iload_n 2, 1) := by decide +kernel
theorem dX9_check_26 : decode cX9_check 26 = .ok (.invokevirtual 116, 3) := by decide +kernel
theorem dX9_check_29 : decode cX9_check 29 = .ok (.aload_n 0, 1) := by decide +kernel
theorem dX9_check_30 : decode cX9_check 30 = .ok (.getfield 54, 3) := by decide +kernel
theorem dX9_check_33 : decode cX9_check 33 = .ok (.iload_n 1, 1) := by decide +kernel
theorem dX9_check_34 : decode cX9_check 34 = .ok (.iload_n 2, 1) := by decide +kernel
theorem dX9_check_35 : decode cX9_check 35 = .ok (.invokevirtual 120, 3) := by decide +kernel
theorem dX9_check_38 : decode cX9_check 38 = .ok (.aload_n 0, 1) := by decide +kernel
theorem dX9_check_39 : decode cX9_check 39 = .ok (.getfield 12, 3) := by decide +kernel
theorem dX9_check_42 : decode cX9_check 42 = .ok (.iload_n 1, 1) := by decide +kernel
theorem dX9_check_43 : decode cX9_check 43 = .ok (.iload_n 2, 1) := by decide +kernel
theorem dX9_check_44 : decode cX9_check 44 = .ok (.invokevirtual 121, 3) := by decide +kernel
theorem dX9_check_47 : decode cX9_check 47 = .ok (.ifCond .eq 7, 3) := by decide +kernel
theorem dX9_check_50 : decode cX9_check 50 = .ok (.iconst 1, 1) := by decide +kernel
theorem dX9_check_51 : decode cX9_check 51 = .ok (.goto 4, 3) := by decide +kernel
theorem dX9_check_54 : decode cX9_check 54 = .ok (.iconst 0, 1) := by decide +kernel
theorem dX9_check_55 : decode cX9_check 55 = .ok (.ireturn, 1) := by decide +kernel
theorem dX9_rate_0 : decode cX9_rate 0 = .ok (.iload_n 1, 1) := by decide +kernel
theorem dX9_rate_1 : decode cX9_rate 1 = .ok (.invokestatic 90, 3) := by decide +kernel
theorem dX9_rate_4 : decode cX9_rate 4 = .ok (.ifCond .eq 14, 3) := by decide +kernel
theorem dX9_rate_7 : decode cX9_rate 7 = .ok (.aload_n 0, 1) := by decide +kernel
theorem dX9_rate_8 : decode cX9_rate 8 = .ok (.getfield 12, 3) := by decide +kernel
theorem dX9_rate_11 : decode cX9_rate 11 = .ok (.iload_n 1, 1) := by decide +kernel
theorem dX9_rate_12 : decode cX9_rate 12 = .ok (.invokevirtual 124, 3) := by decide +kernel
theorem dX9_rate_15 : decode cX9_rate 15 = .ok (.goto 4, 3) := by decide +kernel
theorem dX9_rate_18 : decode cX9_rate 18 = .ok (.iconst (-1), 1) := by decide +kernel
theorem dX9_rate_19 : decode cX9_rate 19 = .ok (.ireturn, 1) := by decide +kernel
theorem dX9_chance_0 : decode cX9_chance 0 = .ok (.aload_n 0, 1) := by decide +kernel
theorem dX9_chance_1 : decode cX9_chance 1 = .ok (.getfield 12, 3) := by decide +kernel
theorem dX9_chance_4 : decode cX9_chance 4 = .ok (.iload_n 1, 1) := by decide +kernel
theorem dX9_chance_5 : decode cX9_chance 5 = .ok (.invokevirtual 107, 3) := by decide +kernel
theorem dX9_chance_8 : decode cX9_chance 8 = .ok (.ifCond .eq 14, 3) := by decide +kernel
theorem dX9_chance_11 : decode cX9_chance 11 = .ok (.aload_n 0, 1) := by decide +kernel
theorem dX9_chance_12 : decode cX9_chance 12 = .ok (.getfield 12, 3) := by decide +kernel
theorem dX9_chance_15 : decode cX9_chance 15 = .ok (.iload_n 1, 1) := by decide +kernel
theorem dX9_chance_16 : decode cX9_chance 16 = .ok (.invokevirtual 128, 3) := by decide +kernel
theorem dX9_chance_19 : decode cX9_chance 19 = .ok (.goto 4, 3) := by decide +kernel
theorem dX9_chance_22 : decode cX9_chance 22 = .ok (.iconst (-1), 1) := by decide +kernel
theorem dX9_chance_23 : decode cX9_chance 23 = .ok (.ireturn, 1) := by decide +kernel
theorem dX9_takes_0 : decode cX9_takes 0 = .ok (.iload_n 1, 1) := by decide +kernel
theorem dX9_takes_1 : decode cX9_takes 1 = .ok (.invokestatic 94, 3) := by decide +kernel
theorem dX9_takes_4 : decode cX9_takes 4 = .ok (.ifCond .eq 14, 3) := by decide +kernel
theorem dX9_takes_7 : decode cX9_takes 7 = .ok (.iload_n 2, 1) := by decide +kernel
theorem dX9_takes_8 : decode cX9_takes 8 = .ok (.iconst 1, 1) := by decide +kernel
theorem dX9_takes_9 : decode cX9_takes 9 = .ok (.if_icmp .lt 9, 3) := by decide +kernel
theorem dX9_takes_12 : decode cX9_takes 12 = .ok (.iload_n 2, 1) := by decide +kernel
theorem dX9_takes_13 : decode cX9_takes 13 = .ok (.bipush 20, 2) := by decide +kernel
theorem dX9_takes_15 : decode cX9_takes 15 = .ok (.if_icmp .le 5, 3) := by decide +kernel
theorem dX9_takes_18 : decode cX9_takes 18 = .ok (.iconst 0, 1) := by decide +kernel
theorem dX9_takes_19 : decode cX9_takes 19 = .ok (.ireturn, 1) := by decide +kernel
theorem dX9_takes_20 : decode cX9_takes 20 = .ok (.aload_n 0, 1) := by decide +kernel
theorem dX9_takes_21 : decode cX9_takes 21 = .ok (.getfield 65, 3) := by decide +kernel
theorem dX9_takes_24 : decode cX9_takes 24 = .ok (.iload_n 1, 1) := by decide +kernel
theorem dX9_takes_25 : decode cX9_takes 25 = .ok (.iload_n 2, 1) := by decide +kernel
theorem dX9_takes_26 : decode cX9_takes 26 = .ok (.iastore, 1) := by decide +kernel
theorem dX9_takes_27 : decode cX9_takes 27 = .ok (.iconst 1, 1) := by decide +kernel
theorem dX9_takes_28 : decode cX9_takes 28 = .ok (.ireturn, 1) := by decide +kernel
theorem dX9_plan_0 : decode cX9_plan 0 = .ok (.iload_n 1, 1) := by decide +kernel
theorem dX9_plan_1 : decode cX9_plan 1 = .ok (.bipush 99, 2) := by decide +kernel
theorem dX9_plan_3 : decode cX9_plan 3 = .ok (.invokestatic 82, 3) := by decide +kernel
theorem dX9_plan_6 : decode cX9_plan 6 = .ok (.ifCond .eq 11, 3) := by decide +kernel
theorem dX9_plan_9 : decode cX9_plan 9 = .ok (.iload_n 2, 1) := by decide +kernel
theorem dX9_plan_10 : decode cX9_plan 10 = .ok (.iconst 1, 1) := by decide +kernel
theorem dX9_plan_11 : decode cX9_plan 11 = .ok (.invokestatic 82, 3) := by decide +kernel
theorem dX9_plan_14 : decode cX9_plan 14 = .ok (.ifCond .ne 5, 3) := by decide +kernel
theorem dX9_plan_17 : decode cX9_plan 17 = .ok (.iconst (-1), 1) := by decide +kernel
theorem dX9_plan_18 : decode cX9_plan 18 = .ok (.ireturn, 1) := by decide +kernel
theorem dX9_plan_19 : decode cX9_plan 19 = .ok (.aload_n 0, 1) := by decide +kernel
theorem dX9_plan_20 : decode cX9_plan 20 = .ok (.iload_n 1, 1) := by decide +kernel
theorem dX9_plan_21 : decode cX9_plan 21 = .ok (.invokevirtual 131, 3) := by decide +kernel
theorem dX9_plan_24 : decode cX9_plan 24 = .ok (.lstore_n 3, 1) := by decide +kernel
theorem dX9_plan_25 : decode cX9_plan 25 = .ok (.iload_n 2, 1) := by decide +kernel
theorem dX9_plan_26 : decode cX9_plan 26 = .ok (.ifCond .ne 8, 3) := by decide +kernel
theorem dX9_plan_29 : decode cX9_plan 29 = .ok (.lload_n 3, 1) := by decide +kernel
theorem dX9_plan_30 : decode cX9_plan 30 = .ok (.l2i, 1) := by decide +kernel
theorem dX9_plan_31 : decode cX9_plan 31 = .ok (.goto 12, 3) := by decide +kernel
theorem dX9_plan_34 : decode cX9_plan 34 = .ok (.aload_n 0, 1) := by decide +kernel
theorem dX9_plan_35 : decode cX9_plan 35 = .ok (.lload_n 3, 1) := by decide +kernel
theorem dX9_plan_36 : decode cX9_plan 36 = .ok (.invokevirtual 135, 3) := by decide +kernel
theorem dX9_plan_39 : decode cX9_plan 39 = .ok (.sipush 1000, 3) := by decide +kernel
theorem dX9_plan_42 : decode cX9_plan 42 = .ok (.idiv, 1) := by decide +kernel
theorem dX9_plan_43 : decode cX9_plan 43 = .ok (.ireturn, 1) := by decide +kernel
theorem dX9_letter_0 : decode cX9_letter 0 = .ok (.iload_n 1, 1) := by decide +kernel
theorem dX9_letter_1 : decode cX9_letter 1 = .ok (.invokestatic 139, 3) := by decide +kernel
theorem dX9_letter_4 : decode cX9_letter 4 = .ok (.ifCond .eq 25, 3) := by decide +kernel
theorem dX9_letter_7 : decode cX9_letter 7 = .ok (.aload_n 0, 1) := by decide +kernel
theorem dX9_letter_8 : decode cX9_letter 8 = .ok (.getfield 12, 3) := by decide +kernel
theorem dX9_letter_11 : decode cX9_letter 11 = .ok (.iload_n 2, 1) := by decide +kernel
theorem dX9_letter_12 : decode cX9_letter 12 = .ok (.invokevirtual 107, 3) := by decide +kernel
theorem dX9_letter_15 : decode cX9_letter 15 = .ok (.ifCond .eq 14, 3) := by decide +kernel
theorem dX9_letter_18 : decode cX9_letter 18 = .ok (.iload_n 3, 1) := by decide +kernel
theorem dX9_letter_19 : decode cX9_letter 19 = .ok (.invokestatic 97, 3) := by decide +kernel
theorem dX9_letter_22 : decode cX9_letter 22 = .ok (.ifCond .eq 7, 3) := by decide +kernel
theorem dX9_letter_25 : decode cX9_letter 25 = .ok (.iconst 1, 1) := by decide +kernel
theorem dX9_letter_26 : decode cX9_letter 26 = .ok (.goto 4, 3) := by decide +kernel
theorem dX9_letter_29 : decode cX9_letter 29 = .ok (.iconst 0, 1) := by decide +kernel
theorem dX9_letter_30 : decode cX9_letter 30 = .ok (.istore 4, 2) := by decide +kernel
theorem dX9_letter_32 : decode cX9_letter 32 = .ok (.iload 4, 2) := by decide +kernel
theorem dX9_letter_34 : decode cX9_letter 34 = .ok (.ifCond .eq 15, 3) := by decide +kernel
theorem dX9_letter_37 : decode cX9_letter 37 = .ok (.aload_n 0, 1) := by decide +kernel
theorem dX9_letter_38 : decode cX9_letter 38 = .ok (.getfield 19, 3) := by decide +kernel
theorem dX9_letter_41 : decode cX9_letter 41 = .ok (.getfield 142, 3) := by decide +kernel
theorem dX9_letter_44 : decode cX9_letter 44 = .ok (.bipush 100, 2) := by decide +kernel
theorem dX9_letter_46 : decode cX9_letter 46 = .ok (.if_icmp .lt 5, 3) := by decide +kernel
theorem dX9_letter_49 : decode cX9_letter 49 = .ok (.iconst (-1), 1) := by decide +kernel
theorem dX9_letter_50 : decode cX9_letter 50 = .ok (.ireturn, 1) := by decide +kernel
theorem dX9_letter_51 : decode cX9_letter 51 = .ok (.aload_n 0, 1) := by decide +kernel
theorem dX9_letter_52 : decode cX9_letter 52 = .ok (.getfield 19, 3) := by decide +kernel
theorem dX9_letter_55 : decode cX9_letter 55 = .ok (.iload_n 1, 1) := by decide +kernel
theorem dX9_letter_56 : decode cX9_letter 56 = .ok (.iload_n 2, 1) := by decide +kernel
theorem dX9_letter_57 : decode cX9_letter 57 = .ok (.iload_n 3, 1) := by decide +kernel
theorem dX9_letter_58 : decode cX9_letter 58 = .ok (.invokevirtual 143, 3) := by decide +kernel
theorem dX9_letter_61 : decode cX9_letter 61 = .ok (.ireturn, 1) := by decide +kernel
theorem dX9_weight_0 : decode cX9_weight 0 = .ok (.iload_n 1, 1) := by decide +kernel
theorem dX9_weight_1 : decode cX9_weight 1 = .ok (.invokestatic 139, 3) := by decide +kernel
theorem dX9_weight_4 : decode cX9_weight 4 = .ok (.ifCond .eq 14, 3) := by decide +kernel
theorem dX9_weight_7 : decode cX9_weight 7 = .ok (.aload_n 0, 1) := by decide +kernel
theorem dX9_weight_8 : decode cX9_weight 8 = .ok (.getfield 19, 3) := by decide +kernel
theorem dX9_weight_11 : decode cX9_weight 11 = .ok (.iload_n 1, 1) := by decide +kernel
theorem dX9_weight_12 : decode cX9_weight 12 = .ok (.invokevirtual 144, 3) := by decide +kernel
theorem dX9_weight_15 : decode cX9_weight 15 = .ok (.goto 4, 3) := by decide +kernel
theorem dX9_weight_18 : decode cX9_weight 18 = .ok (.iconst (-1), 1) := by decide +kernel
theorem dX9_weight_19 : decode cX9_weight 19 = .ok (.ireturn, 1) := by decide +kernel
theorem dX9_believed_0 : decode cX9_believed 0 = .ok (.aload_n 0, 1) := by decide +kernel
theorem dX9_believed_1 : decode cX9_believed 1 = .ok (.getfield 12, 3) := by decide +kernel
theorem dX9_believed_4 : decode cX9_believed 4 = .ok (.iload_n 1, 1) := by decide +kernel
theorem dX9_believed_5 : decode cX9_believed 5 = .ok (.invokevirtual 107, 3) := by decide +kernel
theorem dX9_believed_8 : decode cX9_believed 8 = .ok (.ifCond .eq 11, 3) := by decide +kernel
theorem dX9_believed_11 : decode cX9_believed 11 = .ok (.aload_n 0, 1) := by decide +kernel
theorem dX9_believed_12 : decode cX9_believed 12 = .ok (.iload_n 1, 1) := by decide +kernel
theorem dX9_believed_13 : decode cX9_believed 13 = .ok (.invokevirtual 147, 3) := by decide +kernel
theorem dX9_believed_16 : decode cX9_believed 16 = .ok (.goto 4, 3) := by decide +kernel
theorem dX9_believed_19 : decode cX9_believed 19 = .ok (.iconst (-1), 1) := by decide +kernel
theorem dX9_believed_20 : decode cX9_believed 20 = .ok (.ireturn, 1) := by decide +kernel
theorem dX9_quarrel_0 : decode cX9_quarrel 0 = .ok (.aload_n 0, 1) := by decide +kernel
theorem dX9_quarrel_1 : decode cX9_quarrel 1 = .ok (.getfield 12, 3) := by decide +kernel
theorem dX9_quarrel_4 : decode cX9_quarrel 4 = .ok (.iload_n 1, 1) := by decide +kernel
theorem dX9_quarrel_5 : decode cX9_quarrel 5 = .ok (.invokevirtual 107, 3) := by decide +kernel
theorem dX9_quarrel_8 : decode cX9_quarrel 8 = .ok (.ifCond .ne 5, 3) := by decide +kernel
theorem dX9_quarrel_11 : decode cX9_quarrel 11 = .ok (.iconst (-1), 1) := by decide +kernel
theorem dX9_quarrel_12 : decode cX9_quarrel 12 = .ok (.ireturn, 1) := by decide +kernel
theorem dX9_quarrel_13 : decode cX9_quarrel 13 = .ok (.aload_n 0, 1) := by decide +kernel
theorem dX9_quarrel_14 : decode cX9_quarrel 14 = .ok (.getfield 19, 3) := by decide +kernel
theorem dX9_quarrel_17 : decode cX9_quarrel 17 = .ok (.iload_n 1, 1) := by decide +kernel
theorem dX9_quarrel_18 : decode cX9_quarrel 18 = .ok (.invokevirtual 150, 3) := by decide +kernel
theorem dX9_quarrel_21 : decode cX9_quarrel 21 = .ok (.ifCond .eq 7, 3) := by decide +kernel
theorem dX9_quarrel_24 : decode cX9_quarrel 24 = .ok (.iconst 1, 1) := by decide +kernel
theorem dX9_quarrel_25 : decode cX9_quarrel 25 = .ok (.goto 4, 3) := by decide +kernel
theorem dX9_quarrel_28 : decode cX9_quarrel 28 = .ok (.iconst 0, 1) := by decide +kernel
theorem dX9_quarrel_29 : decode cX9_quarrel 29 = .ok (.ireturn, 1) := by decide +kernel
theorem dX9_proof_0 : decode cX9_proof 0 = .ok (.aload_n 0, 1) := by decide +kernel
theorem dX9_proof_1 : decode cX9_proof 1 = .ok (.getfield 19, 3) := by decide +kernel
theorem dX9_proof_4 : decode cX9_proof 4 = .ok (.iload_n 1, 1) := by decide +kernel
theorem dX9_proof_5 : decode cX9_proof 5 = .ok (.invokevirtual 153, 3) := by decide +kernel
theorem dX9_proof_8 : decode cX9_proof 8 = .ok (.ifCond .eq 15, 3) := by decide +kernel
theorem dX9_proof_11 : decode cX9_proof 11 = .ok (.aload_n 0, 1) := by decide +kernel
theorem dX9_proof_12 : decode cX9_proof 12 = .ok (.getfield 19, 3) := by decide +kernel
theorem dX9_proof_15 : decode cX9_proof 15 = .ok (.getfield 154, 3) := by decide +kernel
theorem dX9_proof_18 : decode cX9_proof 18 = .ok (.iload_n 1, 1) := by decide +kernel
theorem dX9_proof_19 : decode cX9_proof 19 = .ok (.iaload, 1) := by decide +kernel
theorem dX9_proof_20 : decode cX9_proof 20 = .ok (.goto 4, 3) := by decide +kernel
theorem dX9_proof_23 : decode cX9_proof 23 = .ok (.iconst (-1), 1) := by decide +kernel
theorem dX9_proof_24 : decode cX9_proof 24 = .ok (.ireturn, 1) := by decide +kernel
theorem dX9_mark_0 : decode cX9_mark 0 = .ok (.iload_n 1, 1) := by decide +kernel
theorem dX9_mark_1 : decode cX9_mark 1 = .ok (.invokestatic 94, 3) := by decide +kernel
theorem dX9_mark_4 : decode cX9_mark 4 = .ok (.ifCond .eq 19, 3) := by decide +kernel
theorem dX9_mark_7 : decode cX9_mark 7 = .ok (.iload_n 2, 1) := by decide +kernel
theorem dX9_mark_8 : decode cX9_mark 8 = .ok (.invokestatic 157, 3) := by decide +kernel
theorem dX9_mark_11 : decode cX9_mark 11 = .ok (.ifCond .eq 12, 3) := by decide +kernel
theorem dX9_mark_14 : decode cX9_mark 14 = .ok (.iload_n 3, 1) := by decide +kernel
theorem dX9_mark_15 : decode cX9_mark 15 = .ok (.bipush 100, 2) := by decide +kernel
theorem dX9_mark_17 : decode cX9_mark 17 = .ok (.invokestatic 82, 3) := by decide +kernel
theorem dX9_mark_20 : decode cX9_mark 20 = .ok (.ifCond .ne 5, 3) := by decide +kernel
theorem dX9_mark_23 : decode cX9_mark 23 = .ok (.iconst 0, 1) := by decide +kernel
theorem dX9_mark_24 : decode cX9_mark 24 = .ok (.ireturn, 1) := by decide +kernel
theorem dX9_mark_25 : decode cX9_mark 25 = .ok (.aload_n 0, 1) := by decide +kernel
theorem dX9_mark_26 : decode cX9_mark 26 = .ok (.getfield 26, 3) := by decide +kernel
theorem dX9_mark_29 : decode cX9_mark 29 = .ok (.getfield 160, 3) := by decide +kernel
theorem dX9_mark_32 : decode cX9_mark 32 = .ok (.iload_n 1, 1) := by decide +kernel
theorem dX9_mark_33 : decode cX9_mark 33 = .ok (.aaload, 1) := by decide +kernel
theorem dX9_mark_34 : decode cX9_mark 34 = .ok (.iload_n 2, 1) := by decide +kernel
theorem dX9_mark_35 : decode cX9_mark 35 = .ok (.iload_n 3, 1) := by decide +kernel
theorem dX9_mark_36 : decode cX9_mark 36 = .ok (.iastore, 1) := by decide +kernel
theorem dX9_mark_37 : decode cX9_mark 37 = .ok (.iconst 1, 1) := by decide +kernel
theorem dX9_mark_38 : decode cX9_mark 38 = .ok (.ireturn, 1) := by decide +kernel
theorem dX9_shift_0 : decode cX9_shift 0 = .ok (.iload_n 1, 1) := by decide +kernel
theorem dX9_shift_1 : decode cX9_shift 1 = .ok (.invokestatic 157, 3) := by decide +kernel
theorem dX9_shift_4 : decode cX9_shift 4 = .ok (.ifCond .ne 13, 3) := by decide +kernel
theorem dX9_shift_7 : decode cX9_shift 7 = .ok (.new 164, 3) := by decide +kernel
theorem dX9_shift_10 : decode cX9_shift 10 = .ok (.dup, 1) := by decide +kernel
theorem dX9_shift_11 : decode cX9_shift 11 = .ok (.ldc 166, 2) := by decide +kernel
theorem dX9_shift_13 : decode cX9_shift 13 = .ok (.invokespecial 168, 3) := by decide +kernel
theorem dX9_shift_16 : decode cX9_shift 16 = .ok (.athrow, 1) := by decide +kernel
theorem dX9_shift_17 : decode cX9_shift 17 = .ok (.aload_n 0, 1) := by decide +kernel
theorem dX9_shift_18 : decode cX9_shift 18 = .ok (.getfield 26, 3) := by decide +kernel
theorem dX9_shift_21 : decode cX9_shift 21 = .ok (.iload_n 1, 1) := by decide +kernel
theorem dX9_shift_22 : decode cX9_shift 22 = .ok (.invokevirtual 171, 3) := by decide +kernel
theorem dX9_shift_25 : decode cX9_shift 25 = .ok (.ireturn, 1) := by decide +kernel
theorem dX9_paid_0 : decode cX9_paid 0 = .ok (.iload_n 1, 1) := by decide +kernel
theorem dX9_paid_1 : decode cX9_paid 1 = .ok (.invokestatic 94, 3) := by decide +kernel
theorem dX9_paid_4 : decode cX9_paid 4 = .ok (.ifCond .ne 5, 3) := by decide +kernel
theorem dX9_paid_7 : decode cX9_paid 7 = .ok (.iconst 0, 1) := by decide +kernel
theorem dX9_paid_8 : decode cX9_paid 8 = .ok (.ireturn, 1) := by decide +kernel
theorem dX9_paid_9 : decode cX9_paid 9 = .ok (.aload_n 0, 1) := by decide +kernel
theorem dX9_paid_10 : decode cX9_paid 10 = .ok (.getfield 69, 3) := by decide +kernel
theorem dX9_paid_13 : decode cX9_paid 13 = .ok (.iload_n 1, 1) := by decide +kernel
theorem dX9_paid_14 : decode cX9_paid 14 = .ok (.iload_n 2, 1) := by decide +kernel
theorem dX9_paid_15 : decode cX9_paid 15 = .ok (.bastore, 1) := by decide +kernel
theorem dX9_paid_16 : decode cX9_paid 16 = .ok (.iconst 1, 1) := by decide +kernel
theorem dX9_paid_17 : decode cX9_paid 17 = .ok (.ireturn, 1) := by decide +kernel
theorem dX9_feed_0 : decode cX9_feed 0 = .ok (.aload_n 0, 1) := by decide +kernel
theorem dX9_feed_1 : decode cX9_feed 1 = .ok (.getfield 33, 3) := by decide +kernel
theorem dX9_feed_4 : decode cX9_feed 4 = .ok (.lload_n 1, 1) := by decide +kernel
theorem dX9_feed_5 : decode cX9_feed 5 = .ok (.invokevirtual 174, 3) := by decide +kernel
theorem dX9_feed_8 : decode cX9_feed 8 = .ok (.aload_n 0, 1) := by decide +kernel
theorem dX9_feed_9 : decode cX9_feed 9 = .ok (.getfield 33, 3) := by decide +kernel
theorem dX9_feed_12 : decode cX9_feed 12 = .ok (.lload_n 3, 1) := by decide +kernel
theorem dX9_feed_13 : decode cX9_feed 13 = .ok (.invokevirtual 174, 3) := by decide +kernel
theorem dX9_feed_16 : decode cX9_feed 16 = .ok (.aload_n 0, 1) := by decide +kernel
theorem dX9_feed_17 : decode cX9_feed 17 = .ok (.getfield 33, 3) := by decide +kernel
theorem dX9_feed_20 : decode cX9_feed 20 = .ok (.lload 5, 2) := by decide +kernel
theorem dX9_feed_22 : decode cX9_feed 22 = .ok (.invokevirtual 174, 3) := by decide +kernel
theorem dX9_feed_25 : decode cX9_feed 25 = .ok (.aload_n 0, 1) := by decide +kernel
theorem dX9_feed_26 : decode cX9_feed 26 = .ok (.getfield 33, 3) := by decide +kernel
theorem dX9_feed_29 : decode cX9_feed 29 = .ok (.getfield 178, 3) := by decide +kernel
theorem dX9_feed_32 : decode cX9_feed 32 = .ok (.ireturn, 1) := by decide +kernel
theorem dX9_text_0 : decode cX9_text 0 = .ok (.aload_n 0, 1) := by decide +kernel
theorem dX9_text_1 : decode cX9_text 1 = .ok (.getfield 40, 3) := by decide +kernel
theorem dX9_text_4 : decode cX9_text 4 = .ok (.aload_n 0, 1) := by decide +kernel
theorem dX9_text_5 : decode cX9_text 5 = .ok (.getfield 33, 3) := by decide +kernel
theorem dX9_text_8 : decode cX9_text 8 = .ok (.invokevirtual 180, 3) := by decide +kernel
theorem dX9_text_11 : decode cX9_text 11 = .ok (.istore_n 1, 1) := by decide +kernel
theorem dX9_text_12 : decode cX9_text 12 = .ok (.aload_n 0, 1) := by decide +kernel
theorem dX9_text_13 : decode cX9_text 13 = .ok (.getfield 33, 3) := by decide +kernel
theorem dX9_text_16 : decode cX9_text 16 = .ok (.iconst 0, 1) := by decide +kernel
theorem dX9_text_17 : decode cX9_text 17 = .ok (.putfield 178, 3) := by decide +kernel
theorem dX9_text_20 : decode cX9_text 20 = .ok (.iload_n 1, 1) := by decide +kernel
theorem dX9_text_21 : decode cX9_text 21 = .ok (.ifCond .ne 17, 3) := by decide +kernel
theorem dX9_text_24 : decode cX9_text 24 = .ok (.aload_n 0, 1) := by decide +kernel
theorem dX9_text_25 : decode cX9_text 25 = .ok (.getfield 47, 3) := by decide +kernel
theorem dX9_text_28 : decode cX9_text 28 = .ok (.aload_n 0, 1) := by decide +kernel
theorem dX9_text_29 : decode cX9_text 29 = .ok (.getfield 40, 3) := by decide +kernel
theorem dX9_text_32 : decode cX9_text 32 = .ok (.getfield 184, 3) := by decide +kernel
theorem dX9_text_35 : decode cX9_text 35 = .ok (.invokevirtual 187, 3) := by decide +kernel
theorem dX9_text_38 : decode cX9_text 38 = .ok (.iload_n 1, 1) := by decide +kernel
theorem dX9_text_39 : decode cX9_text 39 = .ok (.ireturn, 1) := by decide +kernel
theorem dX9_stars_0 : decode cX9_stars 0 = .ok (.iload_n 1, 1) := by decide +kernel
theorem dX9_stars_1 : decode cX9_stars 1 = .ok (.invokestatic 94, 3) := by decide +kernel
theorem dX9_stars_4 : decode cX9_stars 4 = .ok (.ifCond .eq 11, 3) := by decide +kernel
theorem dX9_stars_7 : decode cX9_stars 7 = .ok (.aload_n 0, 1) := by decide +kernel
theorem dX9_stars_8 : decode cX9_stars 8 = .ok (.iload_n 1, 1) := by decide +kernel
theorem dX9_stars_9 : decode cX9_stars 9 = .ok (.invokevirtual 191, 3) := by decide +kernel
theorem dX9_stars_12 : decode cX9_stars 12 = .ok (.goto 4, 3) := by decide +kernel
theorem dX9_stars_15 : decode cX9_stars 15 = .ok (.iconst (-1), 1) := by decide +kernel
theorem dX9_stars_16 : decode cX9_stars 16 = .ok (.ireturn, 1) := by decide +kernel
theorem dX9_number_0 : decode cX9_number 0 = .ok (.aload_n 0, 1) := by decide +kernel
theorem dX9_number_1 : decode cX9_number 1 = .ok (.getfield 12, 3) := by decide +kernel
theorem dX9_number_4 : decode cX9_number 4 = .ok (.iload_n 1, 1) := by decide +kernel
theorem dX9_number_5 : decode cX9_number 5 = .ok (.invokevirtual 107, 3) := by decide +kernel
theorem dX9_number_8 : decode cX9_number 8 = .ok (.ifCond .eq 12, 3) := by decide +kernel
theorem dX9_number_11 : decode cX9_number 11 = .ok (.iload_n 2, 1) := by decide +kernel
theorem dX9_number_12 : decode cX9_number 12 = .ok (.bipush 99, 2) := by decide +kernel
theorem dX9_number_14 : decode cX9_number 14 = .ok (.invokestatic 82, 3) := by decide +kernel
theorem dX9_number_17 : decode cX9_number 17 = .ok (.ifCond .ne 5, 3) := by decide +kernel
theorem dX9_number_20 : decode cX9_number 20 = .ok (.iconst (-1), 1) := by decide +kernel
theorem dX9_number_21 : decode cX9_number 21 = .ok (.ireturn, 1) := by decide +kernel
theorem dX9_number_22 : decode cX9_number 22 = .ok (.aload_n 0, 1) := by decide +kernel
theorem dX9_number_23 : decode cX9_number 23 = .ok (.aload_n 0, 1) := by decide +kernel
theorem dX9_number_24 : decode cX9_number 24 = .ok (.getfield 12, 3) := by decide +kernel
theorem dX9_number_27 : decode cX9_number 27 = .ok (.getfield 194, 3) := by decide +kernel
theorem dX9_number_30 : decode cX9_number 30 = .ok (.iload_n 1, 1) := by decide +kernel
theorem dX9_number_31 : decode cX9_number 31 = .ok (.iaload, 1) := by decide +kernel
theorem dX9_number_32 : decode cX9_number 32 = .ok (.iload_n 2, 1) := by decide +kernel
theorem dX9_number_33 : decode cX9_number 33 = .ok (.invokevirtual 197, 3) := by decide +kernel
theorem dX9_number_36 : decode cX9_number 36 = .ok (.lstore_n 3, 1) := by decide +kernel
theorem dX9_number_37 : decode cX9_number 37 = .ok (.lload_n 3, 1) := by decide +kernel
theorem dX9_number_38 : decode cX9_number 38 = .ok (.lconst 1, 1) := by decide +kernel
theorem dX9_number_39 : decode cX9_number 39 = .ok (.iload_n 1, 1) := by decide +kernel
theorem dX9_number_40 : decode cX9_number 40 = .ok (.lshl, 1) := by decide +kernel
theorem dX9_number_41 : decode cX9_number 41 = .ok (.land, 1) := by decide +kernel
theorem dX9_number_42 : decode cX9_number 42 = .ok (.lconst 0, 1) := by decide +kernel
theorem dX9_number_43 : decode cX9_number 43 = .ok (.lcmp, 1) := by decide +kernel
theorem dX9_number_44 : decode cX9_number 44 = .ok (.ifCond .ne 5, 3) := by decide +kernel
theorem dX9_number_47 : decode cX9_number 47 = .ok (.iconst 0, 1) := by decide +kernel
theorem dX9_number_48 : decode cX9_number 48 = .ok (.ireturn, 1) := by decide +kernel
theorem dX9_number_49 : decode cX9_number 49 = .ok (.ldc2_w 201, 3) := by decide +kernel
theorem dX9_number_52 : decode cX9_number 52 = .ok (.iload_n 1, 1) := by decide +kernel
theorem dX9_number_53 : decode cX9_number 53 = .ok (.lshl, 1) := by decide +kernel
theorem dX9_number_54 : decode cX9_number 54 = .ok (.lconst 1, 1) := by decide +kernel
theorem dX9_number_55 : decode cX9_number 55 = .ok (.lsub, 1) := by decide +kernel
theorem dX9_number_56 : decode cX9_number 56 = .ok (.lstore 5, 2) := by decide +kernel
theorem dX9_number_58 : decode cX9_number 58 = .ok (.lload_n 3, 1) := by decide +kernel
theorem dX9_number_59 : decode cX9_number 59 = .ok (.lload 5, 2) := by decide +kernel
theorem dX9_number_61 : decode cX9_number 61 = .ok (.land, 1) := by decide +kernel
theorem dX9_number_62 : decode cX9_number 62 = .ok (.invokestatic 203, 3) := by decide +kernel
theorem dX9_number_65 : decode cX9_number 65 = .ok (.ireturn, 1) := by decide +kernel
theorem dX9_edition_0 : decode cX9_edition 0 = .ok (.aload_n 0, 1) := by decide +kernel
theorem dX9_edition_1 : decode cX9_edition 1 = .ok (.getfield 54, 3) := by decide +kernel
theorem dX9_edition_4 : decode cX9_edition 4 = .ok (.getfield 208, 3) := by decide +kernel
theorem dX9_edition_7 : decode cX9_edition 7 = .ok (.bipush 10, 2) := by decide +kernel
theorem dX9_edition_9 : decode cX9_edition 9 = .ok (.if_icmp .lt 5, 3) := by decide +kernel
theorem dX9_edition_12 : decode cX9_edition 12 = .ok (.iconst (-1), 1) := by decide +kernel
theorem dX9_edition_13 : decode cX9_edition 13 = .ok (.ireturn, 1) := by decide +kernel
theorem dX9_edition_14 : decode cX9_edition 14 = .ok (.aload_n 0, 1) := by decide +kernel
theorem dX9_edition_15 : decode cX9_edition 15 = .ok (.getfield 54, 3) := by decide +kernel
theorem dX9_edition_18 : decode cX9_edition 18 = .ok (.aload_n 0, 1) := by decide +kernel
theorem dX9_edition_19 : decode cX9_edition 19 = .ok (.getfield 12, 3) := by decide +kernel
theorem dX9_edition_22 : decode cX9_edition 22 = .ok (.getfield 100, 3) := by decide +kernel
theorem dX9_edition_25 : decode cX9_edition 25 = .ok (.invokevirtual 209, 3) := by decide +kernel
theorem dX9_edition_28 : decode cX9_edition 28 = .ok (.istore_n 1, 1) := by decide +kernel
theorem dX9_edition_29 : decode cX9_edition 29 = .ok (.iconst 0, 1) := by decide +kernel
theorem dX9_edition_30 : decode cX9_edition 30 = .ok (.istore_n 2, 1) := by decide +kernel
theorem dX9_edition_31 : decode cX9_edition 31 = .ok (.iload_n 2, 1) := by decide +kernel
theorem dX9_edition_32 : decode cX9_edition 32 = .ok (.aload_n 0, 1) := by decide +kernel
theorem dX9_edition_33 : decode cX9_edition 33 = .ok (.getfield 12, 3) := by decide +kernel
theorem dX9_edition_36 : decode cX9_edition 36 = .ok (.getfield 100, 3) := by decide +kernel
theorem dX9_edition_39 : decode cX9_edition 39 = .ok (.if_icmp .ge 25, 3) := by decide +kernel
theorem dX9_edition_42 : decode cX9_edition 42 = .ok (.aload_n 0, 1) := by decide +kernel
theorem dX9_edition_43 : decode cX9_edition 43 = .ok (.getfield 54, 3) := by decide +kernel
theorem dX9_edition_46 : decode cX9_edition 46 = .ok (.getfield 212, 3) := by decide +kernel
theorem dX9_edition_49 : decode cX9_edition 49 = .ok (.iload_n 1, 1) := by decide +kernel
theorem dX9_edition_50 : decode cX9_edition 50 = .ok (.aaload, 1) := by decide +kernel
theorem dX9_edition_51 : decode cX9_edition 51 = .ok (.iload_n 2, 1) := by decide +kernel
theorem dX9_edition_52 : decode cX9_edition 52 = .ok (.aload_n 0, 1) := by decide +kernel
theorem dX9_edition_53 : decode cX9_edition 53 = .ok (.iload_n 2, 1) := by decide +kernel
theorem dX9_edition_54 : decode cX9_edition 54 = .ok (.invokevirtual 147, 3) := by decide +kernel
theorem dX9_edition_57 : decode cX9_edition 57 = .ok (.iastore, 1) := by decide +kernel
theorem dX9_edition_58 : decode cX9_edition 58 = .ok (.iinc 2 1, 3) := by decide +kernel
theorem dX9_edition_61 : decode cX9_edition 61 = .ok (.goto (-30), 3) := by decide +kernel
theorem dX9_edition_64 : decode cX9_edition 64 = .ok (.iconst 0, 1) := by decide +kernel
theorem dX9_edition_65 : decode cX9_edition 65 = .ok (.istore_n 2, 1) := by decide +kernel
theorem dX9_edition_66 : decode cX9_edition 66 = .ok (.iload_n 2, 1) := by decide +kernel
theorem dX9_edition_67 : decode cX9_edition 67 = .ok (.bipush 10, 2) := by decide +kernel
theorem dX9_edition_69 : decode cX9_edition 69 = .ok (.if_icmp .ge 25, 3) := by decide +kernel
theorem dX9_edition_72 : decode cX9_edition 72 = .ok (.aload_n 0, 1) := by decide +kernel
theorem dX9_edition_73 : decode cX9_edition 73 = .ok (.getfield 54, 3) := by decide +kernel
theorem dX9_edition_76 : decode cX9_edition 76 = .ok (.getfield 215, 3) := by decide +kernel
theorem dX9_edition_79 : decode cX9_edition 79 = .ok (.iload_n 1, 1) := by decide +kernel
theorem dX9_edition_80 : decode cX9_edition 80 = .ok (.aaload, 1) := by decide +kernel
theorem dX9_edition_81 : decode cX9_edition 81 = .ok (.iload_n 2, 1) := by decide +kernel
theorem dX9_edition_82 : decode cX9_edition 82 = .ok (.aload_n 0, 1) := by decide +kernel
theorem dX9_edition_83 : decode cX9_edition 83 = .ok (.iload_n 2, 1) := by decide +kernel
theorem dX9_edition_84 : decode cX9_edition 84 = .ok (.invokevirtual 191, 3) := by decide +kernel
theorem dX9_edition_87 : decode cX9_edition 87 = .ok (.iastore, 1) := by decide +kernel
theorem dX9_edition_88 : decode cX9_edition 88 = .ok (.iinc 2 1, 3) := by decide +kernel
theorem dX9_edition_91 : decode cX9_edition 91 = .ok (.goto (-25), 3) := by decide +kernel
theorem dX9_edition_94 : decode cX9_edition 94 = .ok (.iload_n 1, 1) := by decide +kernel
theorem dX9_edition_95 : decode cX9_edition 95 = .ok (.ireturn, 1) := by decide +kernel
theorem dX9_printed_0 : decode cX9_printed 0 = .ok (.aload_n 0, 1) := by decide +kernel
theorem dX9_printed_1 : decode cX9_printed 1 = .ok (.getfield 54, 3) := by decide +kernel
theorem dX9_printed_4 : decode cX9_printed 4 = .ok (.iload_n 1, 1) := by decide +kernel
theorem dX9_printed_5 : decode cX9_printed 5 = .ok (.invokevirtual 218, 3) := by decide +kernel
theorem dX9_printed_8 : decode cX9_printed 8 = .ok (.ifCond .ne 5, 3) := by decide +kernel
theorem dX9_printed_11 : decode cX9_printed 11 = .ok (.iconst (-1), 1) := by decide +kernel
theorem dX9_printed_12 : decode cX9_printed 12 = .ok (.ireturn, 1) := by decide +kernel
theorem dX9_printed_13 : decode cX9_printed 13 = .ok (.iload_n 2, 1) := by decide +kernel
theorem dX9_printed_14 : decode cX9_printed 14 = .ok (.ifCond .ne 27, 3) := by decide +kernel
theorem dX9_printed_17 : decode cX9_printed 17 = .ok (.aload_n 0, 1) := by decide +kernel
theorem dX9_printed_18 : decode cX9_printed 18 = .ok (.getfield 54, 3) := by decide +kernel
theorem dX9_printed_21 : decode cX9_printed 21 = .ok (.iload_n 1, 1) := by decide +kernel
theorem dX9_printed_22 : decode cX9_printed 22 = .ok (.iload_n 3, 1) := by decide +kernel
theorem dX9_printed_23 : decode cX9_printed 23 = .ok (.invokevirtual 219, 3) := by decide +kernel
theorem dX9_printed_26 : decode cX9_printed 26 = .ok (.ifCond .eq 15, 3) := by decide +kernel
theorem dX9_printed_29 : decode cX9_printed 29 = .ok (.aload_n 0, 1) := by decide +kernel
theorem dX9_printed_30 : decode cX9_printed 30 = .ok (.getfield 54, 3) := by decide +kernel
theorem dX9_printed_33 : decode cX9_printed 33 = .ok (.getfield 212, 3) := by decide +kernel
theorem dX9_printed_36 : decode cX9_printed 36 = .ok (.iload_n 1, 1) := by decide +kernel
theorem dX9_printed_37 : decode cX9_printed 37 = .ok (.aaload, 1) := by decide +kernel
theorem dX9_printed_38 : decode cX9_printed 38 = .ok (.iload_n 3, 1) := by decide +kernel
theorem dX9_printed_39 : decode cX9_printed 39 = .ok (.iaload, 1) := by decide +kernel
theorem dX9_printed_40 : decode cX9_printed 40 = .ok (.ireturn, 1) := by decide +kernel
theorem dX9_printed_41 : decode cX9_printed 41 = .ok (.iload_n 2, 1) := by decide +kernel
theorem dX9_printed_42 : decode cX9_printed 42 = .ok (.iconst 1, 1) := by decide +kernel
theorem dX9_printed_43 : decode cX9_printed 43 = .ok (.if_icmp .ne 22, 3) := by decide +kernel
theorem dX9_printed_46 : decode cX9_printed 46 = .ok (.iload_n 3, 1) := by decide +kernel
theorem dX9_printed_47 : decode cX9_printed 47 = .ok (.invokestatic 94, 3) := by decide +kernel
theorem dX9_printed_50 : decode cX9_printed 50 = .ok (.ifCond .eq 15, 3) := by decide +kernel
theorem dX9_printed_53 : decode cX9_printed 53 = .ok (.aload_n 0, 1) := by decide +kernel
theorem dX9_printed_54 : decode cX9_printed 54 = .ok (.getfield 54, 3) := by decide +kernel
theorem dX9_printed_57 : decode cX9_printed 57 = .ok (.getfield 215, 3) := by decide +kernel
theorem dX9_printed_60 : decode cX9_printed 60 = .ok (.iload_n 1, 1) := by decide +kernel
theorem dX9_printed_61 : decode cX9_printed 61 = .ok (.aaload, 1) := by decide +kernel
theorem dX9_printed_62 : decode cX9_printed 62 = .ok (.iload_n 3, 1) := by decide +kernel
theorem dX9_printed_63 : decode cX9_printed 63 = .ok (.iaload, 1) := by decide +kernel
theorem dX9_printed_64 : decode cX9_printed 64 = .ok (.ireturn, 1) := by decide +kernel
theorem dX9_printed_65 : decode cX9_printed 65 = .ok (.iconst (-1), 1) := by decide +kernel
theorem dX9_printed_66 : decode cX9_printed 66 = .ok (.ireturn, 1) := by decide +kernel
theorem dX9_errors_0 : decode cX9_errors 0 = .ok (.iload_n 2, 1) := by decide +kernel
theorem dX9_errors_1 : decode cX9_errors 1 = .ok (.iconst (-1), 1) := by decide +kernel
theorem dX9_errors_2 : decode cX9_errors 2 = .ok (.if_icmp .ne 7, 3) := by decide +kernel
theorem dX9_errors_5 : decode cX9_errors 5 = .ok (.iconst 1, 1) := by decide +kernel
theorem dX9_errors_6 : decode cX9_errors 6 = .ok (.goto 4, 3) := by decide +kernel
theorem dX9_errors_9 : decode cX9_errors 9 = .ok (.iconst 0, 1) := by decide +kernel
theorem dX9_errors_10 : decode cX9_errors 10 = .ok (.istore_n 3, 1) := by decide +kernel
theorem dX9_errors_11 : decode cX9_errors 11 = .ok (.aload_n 0, 1) := by decide +kernel
theorem dX9_errors_12 : decode cX9_errors 12 = .ok (.getfield 54, 3) := by decide +kernel
theorem dX9_errors_15 : decode cX9_errors 15 = .ok (.iload_n 1, 1) := by decide +kernel
theorem dX9_errors_16 : decode cX9_errors 16 = .ok (.invokevirtual 218, 3) := by decide +kernel
theorem dX9_errors_19 : decode cX9_errors 19 = .ok (.ifCond .eq 14, 3) := by decide +kernel
theorem dX9_errors_22 : decode cX9_errors 22 = .ok (.iload_n 3, 1) := by decide +kernel
theorem dX9_errors_23 : decode cX9_errors 23 = .ok (.ifCond .ne 12, 3) := by decide +kernel
theorem dX9_errors_26 : decode cX9_errors 26 = .ok (.iload_n 2, 1) := by decide +kernel
theorem dX9_errors_27 : decode cX9_errors 27 = .ok (.invokestatic 90, 3) := by decide +kernel
theorem dX9_errors_30 : decode cX9_errors 30 = .ok (.ifCond .ne 5, 3) := by decide +kernel
theorem dX9_errors_33 : decode cX9_errors 33 = .ok (.iconst (-1), 1) := by decide +kernel
theorem dX9_errors_34 : decode cX9_errors 34 = .ok (.ireturn, 1) := by decide +kernel
theorem dX9_errors_35 : decode cX9_errors 35 = .ok (.iconst 0, 1) := by decide +kernel
theorem dX9_errors_36 : decode cX9_errors 36 = .ok (.istore 4, 2) := by decide +kernel
theorem dX9_errors_38 : decode cX9_errors 38 = .ok (.iconst 0, 1) := by decide +kernel
theorem dX9_errors_39 : decode cX9_errors 39 = .ok (.istore 5, 2) := by decide +kernel
theorem dX9_errors_41 : decode cX9_errors 41 = .ok (.iload 5, 2) := by decide +kernel
theorem dX9_errors_43 : decode cX9_errors 43 = .ok (.aload_n 0, 1) := by decide +kernel
theorem dX9_errors_44 : decode cX9_errors 44 = .ok (.getfield 54, 3) := by decide +kernel
theorem dX9_errors_47 : decode cX9_errors 47 = .ok (.getfield 222, 3) := by decide +kernel
theorem dX9_errors_50 : decode cX9_errors 50 = .ok (.iload_n 1, 1) := by decide +kernel
theorem dX9_errors_51 : decode cX9_errors 51 = .ok (.iaload, 1) := by decide +kernel
theorem dX9_errors_52 : decode cX9_errors 52 = .ok (.if_icmp .ge 58, 3) := by decide +kernel
theorem dX9_errors_55 : decode cX9_errors 55 = .ok (.iload_n 3, 1) := by decide +kernel
theorem dX9_errors_56 : decode cX9_errors 56 = .ok (.ifCond .ne 17, 3) := by decide +kernel
theorem dX9_errors_59 : decode cX9_errors 59 = .ok (.aload_n 0, 1) := by decide +kernel
theorem dX9_errors_60 : decode cX9_errors 60 = .ok (.getfield 12, 3) := by decide +kernel
theorem dX9_errors_63 : decode cX9_errors 63 = .ok (.getfield 224, 3) := by decide +kernel
theorem dX9_errors_66 : decode cX9_errors 66 = .ok (.iload 5, 2) := by decide +kernel
theorem dX9_errors_68 : decode cX9_errors 68 = .ok (.iaload, 1) := by decide +kernel
theorem dX9_errors_69 : decode cX9_errors 69 = .ok (.iload_n 2, 1) := by decide +kernel
theorem dX9_errors_70 : decode cX9_errors 70 = .ok (.if_icmp .ne 7, 3) := by decide +kernel
theorem dX9_errors_73 : decode cX9_errors 73 = .ok (.iconst 1, 1) := by decide +kernel
theorem dX9_errors_74 : decode cX9_errors 74 = .ok (.goto 4, 3) := by decide +kernel
theorem dX9_errors_77 : decode cX9_errors 77 = .ok (.iconst 0, 1) := by decide +kernel
theorem dX9_errors_78 : decode cX9_errors 78 = .ok (.istore 6, 2) := by decide +kernel
theorem dX9_errors_80 : decode cX9_errors 80 = .ok (.iload 6, 2) := by decide +kernel
theorem dX9_errors_82 : decode cX9_errors 82 = .ok (.ifCond .eq 22, 3) := by decide +kernel
theorem dX9_errors_85 : decode cX9_errors 85 = .ok (.aload_n 0, 1) := by decide +kernel
theorem dX9_errors_86 : decode cX9_errors 86 = .ok (.getfield 54, 3) := by decide +kernel
theorem dX9_errors_89 : decode cX9_errors 89 = .ok (.getfield 227, 3) := by decide +kernel
theorem dX9_errors_92 : decode cX9_errors 92 = .ok (.iload_n 1, 1) := by decide +kernel
theorem dX9_errors_93 : decode cX9_errors 93 = .ok (.aaload, 1) := by decide +kernel
theorem dX9_errors_94 : decode cX9_errors 94 = .ok (.iload 5, 2) := by decide +kernel
theorem dX9_errors_96 : decode cX9_errors 96 = .ok (.iaload, 1) := by decide +kernel
theorem dX9_errors_97 : decode cX9_errors 97 = .ok (.iconst 2, 1) := by decide +kernel
theorem dX9_errors_98 : decode cX9_errors 98 = .ok (.if_icmp .ne 6, 3) := by decide +kernel
theorem dX9_errors_101 : decode cX9_errors 101 = .ok (.iinc 4 1, 3) := by decide +kernel
theorem dX9_errors_104 : decode cX9_errors 104 = .ok (.iinc 5 1, 3) := by decide +kernel
theorem dX9_errors_107 : decode cX9_errors 107 = .ok (.goto (-66), 3) := by decide +kernel
theorem dX9_errors_110 : decode cX9_errors 110 = .ok (.iload 4, 2) := by decide +kernel
theorem dX9_errors_112 : decode cX9_errors 112 = .ok (.ireturn, 1) := by decide +kernel
theorem dX9_count_0 : decode cX9_count 0 = .ok (.iload_n 1, 1) := by decide +kernel
theorem dX9_count_1 : decode cX9_count 1 = .ok (.tableswitch 99 0 6 #[43, 51, 59, 67, 75, 83, 91], 43) := by decide +kernel
theorem dX9_count_44 : decode cX9_count 44 = .ok (.aload_n 0, 1) := by decide +kernel
theorem dX9_count_45 : decode cX9_count 45 = .ok (.getfield 12, 3) := by decide +kernel
theorem dX9_count_48 : decode cX9_count 48 = .ok (.getfield 100, 3) := by decide +kernel
theorem dX9_count_51 : decode cX9_count 51 = .ok (.ireturn, 1) := by decide +kernel
theorem dX9_count_52 : decode cX9_count 52 = .ok (.aload_n 0, 1) := by decide +kernel
theorem dX9_count_53 : decode cX9_count 53 = .ok (.getfield 12, 3) := by decide +kernel
theorem dX9_count_56 : decode cX9_count 56 = .ok (.getfield 86, 3) := by decide +kernel
theorem dX9_count_59 : decode cX9_count 59 = .ok (.ireturn, 1) := by decide +kernel
theorem dX9_count_60 : decode cX9_count 60 = .ok (.aload_n 0, 1) := by decide +kernel
theorem dX9_count_61 : decode cX9_count 61 = .ok (.getfield 19, 3) := by decide +kernel
theorem dX9_count_64 : decode cX9_count 64 = .ok (.getfield 142, 3) := by decide +kernel
theorem dX9_count_67 : decode cX9_count 67 = .ok (.ireturn, 1) := by decide +kernel
theorem dX9_count_68 : decode cX9_count 68 = .ok (.aload_n 0, 1) := by decide +kernel
theorem dX9_count_69 : decode cX9_count 69 = .ok (.getfield 19, 3) := by decide +kernel
theorem dX9_count_72 : decode cX9_count 72 = .ok (.getfield 229, 3) := by decide +kernel
theorem dX9_count_75 : decode cX9_count 75 = .ok (.ireturn, 1) := by decide +kernel
theorem dX9_count_76 : decode cX9_count 76 = .ok (.aload_n 0, 1) := by decide +kernel
theorem dX9_count_77 : decode cX9_count 77 = .ok (.getfield 54, 3) := by decide +kernel
theorem dX9_count_80 : decode cX9_count 80 = .ok (.getfield 208, 3) := by decide +kernel
theorem dX9_count_83 : decode cX9_count 83 = .ok (.ireturn, 1) := by decide +kernel
theorem dX9_count_84 : decode cX9_count 84 = .ok (.aload_n 0, 1) := by decide +kernel
theorem dX9_count_85 : decode cX9_count 85 = .ok (.getfield 47, 3) := by decide +kernel
theorem dX9_count_88 : decode cX9_count 88 = .ok (.getfield 232, 3) := by decide +kernel
theorem dX9_count_91 : decode cX9_count 91 = .ok (.ireturn, 1) := by decide +kernel
theorem dX9_count_92 : decode cX9_count 92 = .ok (.aload_n 0, 1) := by decide +kernel
theorem dX9_count_93 : decode cX9_count 93 = .ok (.getfield 33, 3) := by decide +kernel
theorem dX9_count_96 : decode cX9_count 96 = .ok (.getfield 178, 3) := by decide +kernel
theorem dX9_count_99 : decode cX9_count 99 = .ok (.ireturn, 1) := by decide +kernel
theorem dX9_count_100 : decode cX9_count 100 = .ok (.iconst (-1), 1) := by decide +kernel
theorem dX9_count_101 : decode cX9_count 101 = .ok (.ireturn, 1) := by decide +kernel
theorem dX9_look_0 : decode cX9_look 0 = .ok (.aload_n 0, 1) := by decide +kernel
theorem dX9_look_1 : decode cX9_look 1 = .ok (.getfield 12, 3) := by decide +kernel
theorem dX9_look_4 : decode cX9_look 4 = .ok (.iload_n 1, 1) := by decide +kernel
theorem dX9_look_5 : decode cX9_look 5 = .ok (.invokevirtual 107, 3) := by decide +kernel
theorem dX9_look_8 : decode cX9_look 8 = .ok (.ifCond .ne 13, 3) := by decide +kernel
theorem dX9_look_11 : decode cX9_look 11 = .ok (.new 164, 3) := by decide +kernel
theorem dX9_look_14 : decode cX9_look 14 = .ok (.dup, 1) := by decide +kernel
theorem dX9_look_15 : decode cX9_look 15 = .ok (.ldc 235, 2) := by decide +kernel
theorem dX9_look_17 : decode cX9_look 17 = .ok (.invokespecial 168, 3) := by decide +kernel
theorem dX9_look_20 : decode cX9_look 20 = .ok (.athrow, 1) := by decide +kernel
theorem dX9_look_21 : decode cX9_look 21 = .ok (.iload_n 2, 1) := by decide +kernel
theorem dX9_look_22 : decode cX9_look 22 = .ok (.tableswitch 98 0 5 #[38, 48, 58, 68, 78, 88], 38) := by decide +kernel
theorem dX9_look_60 : decode cX9_look 60 = .ok (.aload_n 0, 1) := by decide +kernel
theorem dX9_look_61 : decode cX9_look 61 = .ok (.getfield 12, 3) := by decide +kernel
theorem dX9_look_64 : decode cX9_look 64 = .ok (.getfield 224, 3) := by decide +kernel
theorem dX9_look_67 : decode cX9_look 67 = .ok (.iload_n 1, 1) := by decide +kernel
theorem dX9_look_68 : decode cX9_look 68 = .ok (.iaload, 1) := by decide +kernel
theorem dX9_look_69 : decode cX9_look 69 = .ok (.ireturn, 1) := by decide +kernel
theorem dX9_look_70 : decode cX9_look 70 = .ok (.aload_n 0, 1) := by decide +kernel
theorem dX9_look_71 : decode cX9_look 71 = .ok (.getfield 12, 3) := by decide +kernel
theorem dX9_look_74 : decode cX9_look 74 = .ok (.getfield 194, 3) := by decide +kernel
theorem dX9_look_77 : decode cX9_look 77 = .ok (.iload_n 1, 1) := by decide +kernel
theorem dX9_look_78 : decode cX9_look 78 = .ok (.iaload, 1) := by decide +kernel
theorem dX9_look_79 : decode cX9_look 79 = .ok (.ireturn, 1) := by decide +kernel
theorem dX9_look_80 : decode cX9_look 80 = .ok (.aload_n 0, 1) := by decide +kernel
theorem dX9_look_81 : decode cX9_look 81 = .ok (.getfield 12, 3) := by decide +kernel
theorem dX9_look_84 : decode cX9_look 84 = .ok (.getfield 237, 3) := by decide +kernel
theorem dX9_look_87 : decode cX9_look 87 = .ok (.iload_n 1, 1) := by decide +kernel
theorem dX9_look_88 : decode cX9_look 88 = .ok (.iaload, 1) := by decide +kernel
theorem dX9_look_89 : decode cX9_look 89 = .ok (.ireturn, 1) := by decide +kernel
theorem dX9_look_90 : decode cX9_look 90 = .ok (.aload_n 0, 1) := by decide +kernel
theorem dX9_look_91 : decode cX9_look 91 = .ok (.getfield 12, 3) := by decide +kernel
theorem dX9_look_94 : decode cX9_look 94 = .ok (.getfield 240, 3) := by decide +kernel
theorem dX9_look_97 : decode cX9_look 97 = .ok (.iload_n 1, 1) := by decide +kernel
theorem dX9_look_98 : decode cX9_look 98 = .ok (.iaload, 1) := by decide +kernel
theorem dX9_look_99 : decode cX9_look 99 = .ok (.ireturn, 1) := by decide +kernel
theorem dX9_look_100 : decode cX9_look 100 = .ok (.aload_n 0, 1) := by decide +kernel
theorem dX9_look_101 : decode cX9_look 101 = .ok (.getfield 12, 3) := by decide +kernel
theorem dX9_look_104 : decode cX9_look 104 = .ok (.getfield 110, 3) := by decide +kernel
theorem dX9_look_107 : decode cX9_look 107 = .ok (.iload_n 1, 1) := by decide +kernel
theorem dX9_look_108 : decode cX9_look 108 = .ok (.iaload, 1) := by decide +kernel
theorem dX9_look_109 : decode cX9_look 109 = .ok (.ireturn, 1) := by decide +kernel
theorem dX9_look_110 : decode cX9_look 110 = .ok (.aload_n 0, 1) := by decide +kernel
theorem dX9_look_111 : decode cX9_look 111 = .ok (.getfield 12, 3) := by decide +kernel
theorem dX9_look_114 : decode cX9_look 114 = .ok (.getfield 113, 3) := by decide +kernel
theorem dX9_look_117 : decode cX9_look 117 = .ok (.iload_n 1, 1) := by decide +kernel
theorem dX9_look_118 : decode cX9_look 118 = .ok (.iaload, 1) := by decide +kernel
theorem dX9_look_119 : decode cX9_look 119 = .ok (.ireturn, 1) := by decide +kernel
theorem dX9_look_120 : decode cX9_look 120 = .ok (.new 164, 3) := by decide +kernel
theorem dX9_look_123 : decode cX9_look 123 = .ok (.dup, 1) := by decide +kernel
theorem dX9_look_124 : decode cX9_look 124 = .ok (.ldc 243, 2) := by decide +kernel
theorem dX9_look_126 : decode cX9_look 126 = .ok (.invokespecial 168, 3) := by decide +kernel
theorem dX9_look_129 : decode cX9_look 129 = .ok (.athrow, 1) := by decide +kernel
theorem dX9_within_0 : decode cX9_within 0 = .ok (.iload_n 0, 1) := by decide +kernel
theorem dX9_within_1 : decode cX9_within 1 = .ok (.ifCond .lt 12, 3) := by decide +kernel
theorem dX9_within_4 : decode cX9_within 4 = .ok (.iload_n 0, 1) := by decide +kernel
theorem dX9_within_5 : decode cX9_within 5 = .ok (.iload_n 1, 1) := by decide +kernel
theorem dX9_within_6 : decode cX9_within 6 = .ok (.if_icmp .gt 7, 3) := by decide +kernel
theorem dX9_within_9 : decode cX9_within 9 = .ok (.iconst 1, 1) := by decide +kernel
theorem dX9_within_10 : decode cX9_within 10 = .ok (.goto 4, 3) := by decide +kernel
theorem dX9_within_13 : decode cX9_within 13 = .ok (.iconst 0, 1) := by decide +kernel
theorem dX9_within_14 : decode cX9_within 14 = .ok (.ireturn, 1) := by decide +kernel
theorem dX9_isKind_0 : decode cX9_isKind 0 = .ok (.iload_n 0, 1) := by decide +kernel
theorem dX9_isKind_1 : decode cX9_isKind 1 = .ok (.iconst 5, 1) := by decide +kernel
theorem dX9_isKind_2 : decode cX9_isKind 2 = .ok (.invokestatic 82, 3) := by decide +kernel
theorem dX9_isKind_5 : decode cX9_isKind 5 = .ok (.ireturn, 1) := by decide +kernel
theorem dX9_isPlace_0 : decode cX9_isPlace 0 = .ok (.iload_n 0, 1) := by decide +kernel
theorem dX9_isPlace_1 : decode cX9_isPlace 1 = .ok (.bipush 9, 2) := by decide +kernel
theorem dX9_isPlace_3 : decode cX9_isPlace 3 = .ok (.invokestatic 82, 3) := by decide +kernel
theorem dX9_isPlace_6 : decode cX9_isPlace 6 = .ok (.ireturn, 1) := by decide +kernel
theorem dX9_isReader_0 : decode cX9_isReader 0 = .ok (.iload_n 0, 1) := by decide +kernel
theorem dX9_isReader_1 : decode cX9_isReader 1 = .ok (.bipush 19, 2) := by decide +kernel
theorem dX9_isReader_3 : decode cX9_isReader 3 = .ok (.invokestatic 82, 3) := by decide +kernel
theorem dX9_isReader_6 : decode cX9_isReader 6 = .ok (.ireturn, 1) := by decide +kernel
theorem dX9_isWalker_0 : decode cX9_isWalker 0 = .ok (.iload_n 0, 1) := by decide +kernel
theorem dX9_isWalker_1 : decode cX9_isWalker 1 = .ok (.iconst 4, 1) := by decide +kernel
theorem dX9_isWalker_2 : decode cX9_isWalker 2 = .ok (.invokestatic 82, 3) := by decide +kernel
theorem dX9_isWalker_5 : decode cX9_isWalker 5 = .ok (.ireturn, 1) := by decide +kernel
theorem dX9_isValue_0 : decode cX9_isValue 0 = .ok (.iload_n 0, 1) := by decide +kernel
theorem dX9_isValue_1 : decode cX9_isValue 1 = .ok (.sipush 9999, 3) := by decide +kernel
theorem dX9_isValue_4 : decode cX9_isValue 4 = .ok (.invokestatic 82, 3) := by decide +kernel
theorem dX9_isValue_7 : decode cX9_isValue 7 = .ok (.ireturn, 1) := by decide +kernel
theorem dX9_isName_0 : decode cX9_isName 0 = .ok (.iload_n 0, 1) := by decide +kernel
theorem dX9_isName_1 : decode cX9_isName 1 = .ok (.sipush 204, 3) := by decide +kernel
theorem dX9_isName_4 : decode cX9_isName 4 = .ok (.if_icmp .lt 14, 3) := by decide +kernel
theorem dX9_isName_7 : decode cX9_isName 7 = .ok (.iload_n 0, 1) := by decide +kernel
theorem dX9_isName_8 : decode cX9_isName 8 = .ok (.sipush 209, 3) := by decide +kernel
theorem dX9_isName_11 : decode cX9_isName 11 = .ok (.if_icmp .gt 7, 3) := by decide +kernel
theorem dX9_isName_14 : decode cX9_isName 14 = .ok (.iconst 1, 1) := by decide +kernel
theorem dX9_isName_15 : decode cX9_isName 15 = .ok (.goto 4, 3) := by decide +kernel
theorem dX9_isName_18 : decode cX9_isName 18 = .ok (.iconst 0, 1) := by decide +kernel
theorem dX9_isName_19 : decode cX9_isName 19 = .ok (.ireturn, 1) := by decide +kernel
theorem dX9_placesFor_0 : decode cX9_placesFor 0 = .ok (.aload_n 0, 1) := by decide +kernel
theorem dX9_placesFor_1 : decode cX9_placesFor 1 = .ok (.getfield 61, 3) := by decide +kernel
theorem dX9_placesFor_4 : decode cX9_placesFor 4 = .ok (.iload_n 1, 1) := by decide +kernel
theorem dX9_placesFor_5 : decode cX9_placesFor 5 = .ok (.invokevirtual 245, 3) := by decide +kernel
theorem dX9_placesFor_8 : decode cX9_placesFor 8 = .ok (.iconst 0, 1) := by decide +kernel
theorem dX9_placesFor_9 : decode cX9_placesFor 9 = .ok (.istore_n 2, 1) := by decide +kernel
theorem dX9_placesFor_10 : decode cX9_placesFor 10 = .ok (.iload_n 2, 1) := by decide +kernel
theorem dX9_placesFor_11 : decode cX9_placesFor 11 = .ok (.bipush 10, 2) := by decide +kernel
theorem dX9_placesFor_13 : decode cX9_placesFor 13 = .ok (.if_icmp .ge 32, 3) := by decide +kernel
theorem dX9_placesFor_16 : decode cX9_placesFor 16 = .ok (.aload_n 0, 1) := by decide +kernel
theorem dX9_placesFor_17 : decode cX9_placesFor 17 = .ok (.getfield 61, 3) := by decide +kernel
theorem dX9_placesFor_20 : decode cX9_placesFor 20 = .ok (.iload_n 2, 1) := by decide +kernel
theorem dX9_placesFor_21 : decode cX9_placesFor 21 = .ok (.aload_n 0, 1) := by decide +kernel
theorem dX9_placesFor_22 : decode cX9_placesFor 22 = .ok (.getfield 65, 3) := by decide +kernel
theorem dX9_placesFor_25 : decode cX9_placesFor 25 = .ok (.iload_n 2, 1) := by decide +kernel
theorem dX9_placesFor_26 : decode cX9_placesFor 26 = .ok (.iaload, 1) := by decide +kernel
theorem dX9_placesFor_27 : decode cX9_placesFor 27 = .ok (.aload_n 0, 1) := by decide +kernel
theorem dX9_placesFor_28 : decode cX9_placesFor 28 = .ok (.getfield 12, 3) := by decide +kernel
theorem dX9_placesFor_31 : decode cX9_placesFor 31 = .ok (.iload_n 2, 1) := by decide +kernel
theorem dX9_placesFor_32 : decode cX9_placesFor 32 = .ok (.invokevirtual 248, 3) := by decide +kernel
theorem dX9_placesFor_35 : decode cX9_placesFor 35 = .ok (.iconst 0, 1) := by decide +kernel
theorem dX9_placesFor_36 : decode cX9_placesFor 36 = .ok (.invokevirtual 251, 3) := by decide +kernel
theorem dX9_placesFor_39 : decode cX9_placesFor 39 = .ok (.iinc 2 1, 3) := by decide +kernel
theorem dX9_placesFor_42 : decode cX9_placesFor 42 = .ok (.goto (-32), 3) := by decide +kernel
theorem dX9_placesFor_45 : decode cX9_placesFor 45 = .ok (.aload_n 0, 1) := by decide +kernel
theorem dX9_placesFor_46 : decode cX9_placesFor 46 = .ok (.getfield 61, 3) := by decide +kernel
theorem dX9_placesFor_49 : decode cX9_placesFor 49 = .ok (.invokevirtual 255, 3) := by decide +kernel
theorem dX9_placesFor_52 : decode cX9_placesFor 52 = .ok (.lreturn, 1) := by decide +kernel
theorem dX9_doubtOfSet_0 : decode cX9_doubtOfSet 0 = .ok (.iconst 0, 1) := by decide +kernel
theorem dX9_doubtOfSet_1 : decode cX9_doubtOfSet 1 = .ok (.istore_n 3, 1) := by decide +kernel
theorem dX9_doubtOfSet_2 : decode cX9_doubtOfSet 2 = .ok (.iconst 0, 1) := by decide +kernel
theorem dX9_doubtOfSet_3 : decode cX9_doubtOfSet 3 = .ok (.istore 4, 2) := by decide +kernel
theorem dX9_doubtOfSet_5 : decode cX9_doubtOfSet 5 = .ok (.iload 4, 2) := by decide +kernel
theorem dX9_doubtOfSet_7 : decode cX9_doubtOfSet 7 = .ok (.bipush 10, 2) := by decide +kernel
theorem dX9_doubtOfSet_9 : decode cX9_doubtOfSet 9 = .ok (.if_icmp .ge 32, 3) := by decide +kernel
theorem dX9_doubtOfSet_12 : decode cX9_doubtOfSet 12 = .ok (.lload_n 1, 1) := by decide +kernel
theorem dX9_doubtOfSet_13 : decode cX9_doubtOfSet 13 = .ok (.lconst 1, 1) := by decide +kernel
theorem dX9_doubtOfSet_14 : decode cX9_doubtOfSet 14 = .ok (.iload 4, 2) := by decide +kernel
theorem dX9_doubtOfSet_16 : decode cX9_doubtOfSet 16 = .ok (.lshl, 1) := by decide +kernel
theorem dX9_doubtOfSet_17 : decode cX9_doubtOfSet 17 = .ok (.land, 1) := by decide +kernel
theorem dX9_doubtOfSet_18 : decode cX9_doubtOfSet 18 = .ok (.lconst 0, 1) := by decide +kernel
theorem dX9_doubtOfSet_19 : decode cX9_doubtOfSet 19 = .ok (.lcmp, 1) := by decide +kernel
theorem dX9_doubtOfSet_20 : decode cX9_doubtOfSet 20 = .ok (.ifCond .eq 15, 3) := by decide +kernel
theorem dX9_doubtOfSet_23 : decode cX9_doubtOfSet 23 = .ok (.iload_n 3, 1) := by decide +kernel
theorem dX9_doubtOfSet_24 : decode cX9_doubtOfSet 24 = .ok (.aload_n 0, 1) := by decide +kernel
theorem dX9_doubtOfSet_25 : decode cX9_doubtOfSet 25 = .ok (.getfield 12, 3) := by decide +kernel
theorem dX9_doubtOfSet_28 : decode cX9_doubtOfSet 28 = .ok (.iload 4, 2) := by decide +kernel
theorem dX9_doubtOfSet_30 : decode cX9_doubtOfSet 30 = .ok (.invokevirtual 248, 3) := by decide +kernel
theorem dX9_doubtOfSet_33 : decode cX9_doubtOfSet 33 = .ok (.iadd, 1) := by decide +kernel
theorem dX9_doubtOfSet_34 : decode cX9_doubtOfSet 34 = .ok (.istore_n 3, 1) := by decide +kernel
theorem dX9_doubtOfSet_35 : decode cX9_doubtOfSet 35 = .ok (.iinc 4 1, 3) := by decide +kernel
theorem dX9_doubtOfSet_38 : decode cX9_doubtOfSet 38 = .ok (.goto (-33), 3) := by decide +kernel
theorem dX9_doubtOfSet_41 : decode cX9_doubtOfSet 41 = .ok (.iload_n 3, 1) := by decide +kernel
theorem dX9_doubtOfSet_42 : decode cX9_doubtOfSet 42 = .ok (.ireturn, 1) := by decide +kernel
theorem dX9_linesKept_0 : decode cX9_linesKept 0 = .ok (.aload_n 0, 1) := by decide +kernel
theorem dX9_linesKept_1 : decode cX9_linesKept 1 = .ok (.getfield 61, 3) := by decide +kernel
theorem dX9_linesKept_4 : decode cX9_linesKept 4 = .ok (.iload_n 2, 1) := by decide +kernel
theorem dX9_linesKept_5 : decode cX9_linesKept 5 = .ok (.invokevirtual 245, 3) := by decide +kernel
theorem dX9_linesKept_8 : decode cX9_linesKept 8 = .ok (.aload_n 0, 1) := by decide +kernel
theorem dX9_linesKept_9 : decode cX9_linesKept 9 = .ok (.getfield 12, 3) := by decide +kernel
theorem dX9_linesKept_12 : decode cX9_linesKept 12 = .ok (.getfield 100, 3) := by decide +kernel
theorem dX9_linesKept_15 : decode cX9_linesKept 15 = .ok (.iconst 1, 1) := by decide +kernel
theorem dX9_linesKept_16 : decode cX9_linesKept 16 = .ok (.isub, 1) := by decide +kernel
theorem dX9_linesKept_17 : decode cX9_linesKept 17 = .ok (.istore_n 3, 1) := by decide +kernel
theorem dX9_linesKept_18 : decode cX9_linesKept 18 = .ok (.iload_n 3, 1) := by decide +kernel
theorem dX9_linesKept_19 : decode cX9_linesKept 19 = .ok (.ifCond .lt 49, 3) := by decide +kernel
theorem dX9_linesKept_22 : decode cX9_linesKept 22 = .ok (.aload_n 0, 1) := by decide +kernel
theorem dX9_linesKept_23 : decode cX9_linesKept 23 = .ok (.getfield 12, 3) := by decide +kernel
theorem dX9_linesKept_26 : decode cX9_linesKept 26 = .ok (.getfield 194, 3) := by decide +kernel
theorem dX9_linesKept_29 : decode cX9_linesKept 29 = .ok (.iload_n 3, 1) := by decide +kernel
theorem dX9_linesKept_30 : decode cX9_linesKept 30 = .ok (.iaload, 1) := by decide +kernel
theorem dX9_linesKept_31 : decode cX9_linesKept 31 = .ok (.iload_n 1, 1) := by decide +kernel
theorem dX9_linesKept_32 : decode cX9_linesKept 32 = .ok (.if_icmp .ne 30, 3) := by decide +kernel
theorem dX9_linesKept_35 : decode cX9_linesKept 35 = .ok (.aload_n 0, 1) := by decide +kernel
theorem dX9_linesKept_36 : decode cX9_linesKept 36 = .ok (.getfield 61, 3) := by decide +kernel
theorem dX9_linesKept_39 : decode cX9_linesKept 39 = .ok (.iload_n 3, 1) := by decide +kernel
theorem dX9_linesKept_40 : decode cX9_linesKept 40 = .ok (.aload_n 0, 1) := by decide +kernel
theorem dX9_linesKept_41 : decode cX9_linesKept 41 = .ok (.getfield 12, 3) := by decide +kernel
theorem dX9_linesKept_44 : decode cX9_linesKept 44 = .ok (.getfield 110, 3) := by decide +kernel
theorem dX9_linesKept_47 : decode cX9_linesKept 47 = .ok (.iload_n 3, 1) := by decide +kernel
theorem dX9_linesKept_48 : decode cX9_linesKept 48 = .ok (.iaload, 1) := by decide +kernel
theorem dX9_linesKept_49 : decode cX9_linesKept 49 = .ok (.aload_n 0, 1) := by decide +kernel
theorem dX9_linesKept_50 : decode cX9_linesKept 50 = .ok (.getfield 12, 3) := by decide +kernel
theorem dX9_linesKept_53 : decode cX9_linesKept 53 = .ok (.getfield 113, 3) := by decide +kernel
theorem dX9_linesKept_56 : decode cX9_linesKept 56 = .ok (.iload_n 3, 1) := by decide +kernel
theorem dX9_linesKept_57 : decode cX9_linesKept 57 = .ok (.iaload, 1) := by decide +kernel
theorem dX9_linesKept_58 : decode cX9_linesKept 58 = .ok (.iconst 1, 1) := by decide +kernel
theorem dX9_linesKept_59 : decode cX9_linesKept 59 = .ok (.invokevirtual 251, 3) := by decide +kernel
theorem dX9_linesKept_62 : decode cX9_linesKept 62 = .ok (.iinc 3 (-1), 3) := by decide +kernel
theorem dX9_linesKept_65 : decode cX9_linesKept 65 = .ok (.goto (-47), 3) := by decide +kernel
theorem dX9_linesKept_68 : decode cX9_linesKept 68 = .ok (.aload_n 0, 1) := by decide +kernel
theorem dX9_linesKept_69 : decode cX9_linesKept 69 = .ok (.getfield 61, 3) := by decide +kernel
theorem dX9_linesKept_72 : decode cX9_linesKept 72 = .ok (.invokevirtual 255, 3) := by decide +kernel
theorem dX9_linesKept_75 : decode cX9_linesKept 75 = .ok (.lreturn, 1) := by decide +kernel
theorem dX9_beliefOf_0 : decode cX9_beliefOf 0 = .ok (.aload_n 0, 1) := by decide +kernel
theorem dX9_beliefOf_1 : decode cX9_beliefOf 1 = .ok (.getfield 12, 3) := by decide +kernel
theorem dX9_beliefOf_4 : decode cX9_beliefOf 4 = .ok (.getfield 237, 3) := by decide +kernel
theorem dX9_beliefOf_7 : decode cX9_beliefOf 7 = .ok (.iload_n 1, 1) := by decide +kernel
theorem dX9_beliefOf_8 : decode cX9_beliefOf 8 = .ok (.iaload, 1) := by decide +kernel
theorem dX9_beliefOf_9 : decode cX9_beliefOf 9 = .ok (.istore_n 2, 1) := by decide +kernel
theorem dX9_beliefOf_10 : decode cX9_beliefOf 10 = .ok (.iload_n 2, 1) := by decide +kernel
theorem dX9_beliefOf_11 : decode cX9_beliefOf 11 = .ok (.istore_n 3, 1) := by decide +kernel
theorem dX9_beliefOf_12 : decode cX9_beliefOf 12 = .ok (.aload_n 0, 1) := by decide +kernel
theorem dX9_beliefOf_13 : decode cX9_beliefOf 13 = .ok (.getfield 12, 3) := by decide +kernel
theorem dX9_beliefOf_16 : decode cX9_beliefOf 16 = .ok (.iload_n 1, 1) := by decide +kernel
theorem dX9_beliefOf_17 : decode cX9_beliefOf 17 = .ok (.invokevirtual 128, 3) := by decide +kernel
theorem dX9_beliefOf_20 : decode cX9_beliefOf 20 = .ok (.sipush 1000, 3) := by decide +kernel
theorem dX9_beliefOf_23 : decode cX9_beliefOf 23 = .ok (.idiv, 1) := by decide +kernel
theorem dX9_beliefOf_24 : decode cX9_beliefOf 24 = .ok (.aload_n 0, 1) := by decide +kernel
theorem dX9_beliefOf_25 : decode cX9_beliefOf 25 = .ok (.getfield 19, 3) := by decide +kernel
theorem dX9_beliefOf_28 : decode cX9_beliefOf 28 = .ok (.iload_n 1, 1) := by decide +kernel
theorem dX9_beliefOf_29 : decode cX9_beliefOf 29 = .ok (.iload_n 2, 1) := by decide +kernel
theorem dX9_beliefOf_30 : decode cX9_beliefOf 30 = .ok (.invokevirtual 259, 3) := by decide +kernel
theorem dX9_beliefOf_33 : decode cX9_beliefOf 33 = .ok (.iadd, 1) := by decide +kernel
theorem dX9_beliefOf_34 : decode cX9_beliefOf 34 = .ok (.istore 4, 2) := by decide +kernel
theorem dX9_beliefOf_36 : decode cX9_beliefOf 36 = .ok (.iconst 0, 1) := by decide +kernel
theorem dX9_beliefOf_37 : decode cX9_beliefOf 37 = .ok (.istore 5, 2) := by decide +kernel
theorem dX9_beliefOf_39 : decode cX9_beliefOf 39 = .ok (.iload 5, 2) := by decide +kernel
theorem dX9_beliefOf_41 : decode cX9_beliefOf 41 = .ok (.aload_n 0, 1) := by decide +kernel
theorem dX9_beliefOf_42 : decode cX9_beliefOf 42 = .ok (.getfield 19, 3) := by decide +kernel
theorem dX9_beliefOf_45 : decode cX9_beliefOf 45 = .ok (.getfield 142, 3) := by decide +kernel
theorem dX9_beliefOf_48 : decode cX9_beliefOf 48 = .ok (.if_icmp .ge 99, 3) := by decide +kernel
theorem dX9_beliefOf_51 : decode cX9_beliefOf 51 = .ok (.aload_n 0, 1) := by decide +kernel
theorem dX9_beliefOf_52 : decode cX9_beliefOf 52 = .ok (.getfield 19, 3) := by decide +kernel
theorem dX9_beliefOf_55 : decode cX9_beliefOf 55 = .ok (.getfield 263, 3) := by decide +kernel
theorem dX9_beliefOf_58 : decode cX9_beliefOf 58 = .ok (.iload 5, 2) := by decide +kernel
theorem dX9_beliefOf_60 : decode cX9_beliefOf 60 = .ok (.iaload, 1) := by decide +kernel
theorem dX9_beliefOf_61 : decode cX9_beliefOf 61 = .ok (.istore 6, 2) := by decide +kernel
theorem dX9_beliefOf_63 : decode cX9_beliefOf 63 = .ok (.aload_n 0, 1) := by decide +kernel
theorem dX9_beliefOf_64 : decode cX9_beliefOf 64 = .ok (.getfield 19, 3) := by decide +kernel
theorem dX9_beliefOf_67 : decode cX9_beliefOf 67 = .ok (.iload 5, 2) := by decide +kernel
theorem dX9_beliefOf_69 : decode cX9_beliefOf 69 = .ok (.iload_n 1, 1) := by decide +kernel
theorem dX9_beliefOf_70 : decode cX9_beliefOf 70 = .ok (.invokevirtual 266, 3) := by decide +kernel
theorem dX9_beliefOf_73 : decode cX9_beliefOf 73 = .ok (.ifCond .eq 68, 3) := by decide +kernel
theorem dX9_beliefOf_76 : decode cX9_beliefOf 76 = .ok (.iload 6, 2) := by decide +kernel
theorem dX9_beliefOf_78 : decode cX9_beliefOf 78 = .ok (.iload_n 2, 1) := by decide +kernel
theorem dX9_beliefOf_79 : decode cX9_beliefOf 79 = .ok (.if_icmp .ne 6, 3) := by decide +kernel
theorem dX9_beliefOf_82 : decode cX9_beliefOf 82 = .ok (.goto 59, 3) := by decide +kernel
theorem dX9_beliefOf_85 : decode cX9_beliefOf 85 = .ok (.aload_n 0, 1) := by decide +kernel
theorem dX9_beliefOf_86 : decode cX9_beliefOf 86 = .ok (.getfield 19, 3) := by decide +kernel
theorem dX9_beliefOf_89 : decode cX9_beliefOf 89 = .ok (.iload_n 1, 1) := by decide +kernel
theorem dX9_beliefOf_90 : decode cX9_beliefOf 90 = .ok (.iload 6, 2) := by decide +kernel
theorem dX9_beliefOf_92 : decode cX9_beliefOf 92 = .ok (.invokevirtual 259, 3) := by decide +kernel
theorem dX9_beliefOf_95 : decode cX9_beliefOf 95 = .ok (.istore 7, 2) := by decide +kernel
theorem dX9_beliefOf_97 : decode cX9_beliefOf 97 = .ok (.iload 7, 2) := by decide +kernel
theorem dX9_beliefOf_99 : decode cX9_beliefOf 99 = .ok (.iload 4, 2) := by decide +kernel
theorem dX9_beliefOf_101 : decode cX9_beliefOf 101 = .ok (.if_icmp .ne 18, 3) := by decide +kernel
theorem dX9_beliefOf_104 : decode cX9_beliefOf 104 = .ok (.iload_n 3, 1) := by decide +kernel
theorem dX9_beliefOf_105 : decode cX9_beliefOf 105 = .ok (.iload_n 2, 1) := by decide +kernel
theorem dX9_beliefOf_106 : decode cX9_beliefOf 106 = .ok (.if_icmp .eq 13, 3) := by decide +kernel
theorem dX9_beliefOf_109 : decode cX9_beliefOf 109 = .ok (.iload 6, 2) := by decide +kernel
theorem dX9_beliefOf_111 : decode cX9_beliefOf 111 = .ok (.iload_n 3, 1) := by decide +kernel
theorem dX9_beliefOf_112 : decode cX9_beliefOf 112 = .ok (.if_icmp .ge 7, 3) := by decide +kernel
theorem dX9_beliefOf_115 : decode cX9_beliefOf 115 = .ok (.iconst 1, 1) := by decide +kernel
theorem dX9_beliefOf_116 : decode cX9_beliefOf 116 = .ok (.goto 4, 3) := by decide +kernel
theorem dX9_beliefOf_119 : decode cX9_beliefOf 119 = .ok (.iconst 0, 1) := by decide +kernel
theorem dX9_beliefOf_120 : decode cX9_beliefOf 120 = .ok (.istore 8, 2) := by decide +kernel
theorem dX9_beliefOf_122 : decode cX9_beliefOf 122 = .ok (.iload 7, 2) := by decide +kernel
theorem dX9_beliefOf_124 : decode cX9_beliefOf 124 = .ok (.iload 4, 2) := by decide +kernel
theorem dX9_beliefOf_126 : decode cX9_beliefOf 126 = .ok (.if_icmp .gt 8, 3) := by decide +kernel
theorem dX9_beliefOf_129 : decode cX9_beliefOf 129 = .ok (.iload 8, 2) := by decide +kernel
theorem dX9_beliefOf_131 : decode cX9_beliefOf 131 = .ok (.ifCond .eq 10, 3) := by decide +kernel
theorem dX9_beliefOf_134 : decode cX9_beliefOf 134 = .ok (.iload 6, 2) := by decide +kernel
theorem dX9_beliefOf_136 : decode cX9_beliefOf 136 = .ok (.istore_n 3, 1) := by decide +kernel
theorem dX9_beliefOf_137 : decode cX9_beliefOf 137 = .ok (.iload 7, 2) := by decide +kernel
theorem dX9_beliefOf_139 : decode cX9_beliefOf 139 = .ok (.istore 4, 2) := by decide +kernel
theorem dX9_beliefOf_141 : decode cX9_beliefOf 141 = .ok (.iinc 5 1, 3) := by decide +kernel
theorem dX9_beliefOf_144 : decode cX9_beliefOf 144 = .ok (.goto (-105), 3) := by decide +kernel
theorem dX9_beliefOf_147 : decode cX9_beliefOf 147 = .ok (.iload_n 3, 1) := by decide +kernel
theorem dX9_beliefOf_148 : decode cX9_beliefOf 148 = .ok (.ireturn, 1) := by decide +kernel
theorem dX9_starsOf_0 : decode cX9_starsOf 0 = .ok (.aload_n 0, 1) := by decide +kernel
theorem dX9_starsOf_1 : decode cX9_starsOf 1 = .ok (.getfield 26, 3) := by decide +kernel
theorem dX9_starsOf_4 : decode cX9_starsOf 4 = .ok (.iload_n 1, 1) := by decide +kernel
theorem dX9_starsOf_5 : decode cX9_starsOf 5 = .ok (.aload_n 0, 1) := by decide +kernel
theorem dX9_starsOf_6 : decode cX9_starsOf 6 = .ok (.getfield 73, 3) := by decide +kernel
theorem dX9_starsOf_9 : decode cX9_starsOf 9 = .ok (.invokevirtual 269, 3) := by decide +kernel
theorem dX9_starsOf_12 : decode cX9_starsOf 12 = .ok (.aload_n 0, 1) := by decide +kernel
theorem dX9_starsOf_13 : decode cX9_starsOf 13 = .ok (.getfield 73, 3) := by decide +kernel
theorem dX9_starsOf_16 : decode cX9_starsOf 16 = .ok (.iconst 4, 1) := by decide +kernel
theorem dX9_starsOf_17 : decode cX9_starsOf 17 = .ok (.aload_n 0, 1) := by decide +kernel
theorem dX9_starsOf_18 : decode cX9_starsOf 18 = .ok (.getfield 12, 3) := by decide +kernel
theorem dX9_starsOf_21 : decode cX9_starsOf 21 = .ok (.iload_n 1, 1) := by decide +kernel
theorem dX9_starsOf_22 : decode cX9_starsOf 22 = .ok (.invokevirtual 273, 3) := by decide +kernel
theorem dX9_starsOf_25 : decode cX9_starsOf 25 = .ok (.iastore, 1) := by decide +kernel
theorem dX9_starsOf_26 : decode cX9_starsOf 26 = .ok (.aload_n 0, 1) := by decide +kernel
theorem dX9_starsOf_27 : decode cX9_starsOf 27 = .ok (.getfield 73, 3) := by decide +kernel
theorem dX9_starsOf_30 : decode cX9_starsOf 30 = .ok (.iconst 5, 1) := by decide +kernel
theorem dX9_starsOf_31 : decode cX9_starsOf 31 = .ok (.aload_n 0, 1) := by decide +kernel
theorem dX9_starsOf_32 : decode cX9_starsOf 32 = .ok (.getfield 69, 3) := by decide +kernel
theorem dX9_starsOf_35 : decode cX9_starsOf 35 = .ok (.iload_n 1, 1) := by decide +kernel
theorem dX9_starsOf_36 : decode cX9_starsOf 36 = .ok (.baload, 1) := by decide +kernel
theorem dX9_starsOf_37 : decode cX9_starsOf 37 = .ok (.ifCond .eq 7, 3) := by decide +kernel
theorem dX9_starsOf_40 : decode cX9_starsOf 40 = .ok (.iconst 1, 1) := by decide +kernel
theorem dX9_starsOf_41 : decode cX9_starsOf 41 = .ok (.goto 4, 3) := by decide +kernel
theorem dX9_starsOf_44 : decode cX9_starsOf 44 = .ok (.iconst 0, 1) := by decide +kernel
theorem dX9_starsOf_45 : decode cX9_starsOf 45 = .ok (.iastore, 1) := by decide +kernel
theorem dX9_starsOf_46 : decode cX9_starsOf 46 = .ok (.aload_n 0, 1) := by decide +kernel
theorem dX9_starsOf_47 : decode cX9_starsOf 47 = .ok (.getfield 47, 3) := by decide +kernel
theorem dX9_starsOf_50 : decode cX9_starsOf 50 = .ok (.aload_n 0, 1) := by decide +kernel
theorem dX9_starsOf_51 : decode cX9_starsOf 51 = .ok (.getfield 73, 3) := by decide +kernel
theorem dX9_starsOf_54 : decode cX9_starsOf 54 = .ok (.invokevirtual 276, 3) := by decide +kernel
theorem dX9_starsOf_57 : decode cX9_starsOf 57 = .ok (.ireturn, 1) := by decide +kernel
theorem dX10_thrown_0 : decode cX10_thrown 0 = .ok (.aload_n 0, 1) := by decide +kernel
theorem dX10_thrown_1 : decode cX10_thrown 1 = .ok (.getfield 1, 3) := by decide +kernel
theorem dX10_thrown_4 : decode cX10_thrown 4 = .ok (.ireturn, 1) := by decide +kernel
theorem dX10_feed_0 : decode cX10_feed 0 = .ok (.aload_n 0, 1) := by decide +kernel
theorem dX10_feed_1 : decode cX10_feed 1 = .ok (.iconst 0, 1) := by decide +kernel
theorem dX10_feed_2 : decode cX10_feed 2 = .ok (.putfield 1, 3) := by decide +kernel
theorem dX10_feed_5 : decode cX10_feed 5 = .ok (.aload_n 0, 1) := by decide +kernel
theorem dX10_feed_6 : decode cX10_feed 6 = .ok (.lload_n 1, 1) := by decide +kernel
theorem dX10_feed_7 : decode cX10_feed 7 = .ok (.invokevirtual 7, 3) := by decide +kernel
theorem dX10_feed_10 : decode cX10_feed 10 = .ok (.aload_n 0, 1) := by decide +kernel
theorem dX10_feed_11 : decode cX10_feed 11 = .ok (.lload_n 3, 1) := by decide +kernel
theorem dX10_feed_12 : decode cX10_feed 12 = .ok (.invokevirtual 7, 3) := by decide +kernel
theorem dX10_feed_15 : decode cX10_feed 15 = .ok (.aload_n 0, 1) := by decide +kernel
theorem dX10_feed_16 : decode cX10_feed 16 = .ok (.lload 5, 2) := by decide +kernel
theorem dX10_feed_18 : decode cX10_feed 18 = .ok (.invokevirtual 7, 3) := by decide +kernel
theorem dX10_feed_21 : decode cX10_feed 21 = .ok (.aload_n 0, 1) := by decide +kernel
theorem dX10_feed_22 : decode cX10_feed 22 = .ok (.getfield 11, 3) := by decide +kernel
theorem dX10_feed_25 : decode cX10_feed 25 = .ok (.ireturn, 1) := by decide +kernel
theorem dX10_lay_0 : decode cX10_lay 0 = .ok (.bipush 56, 2) := by decide +kernel
theorem dX10_lay_2 : decode cX10_lay 2 = .ok (.istore_n 3, 1) := by decide +kernel
theorem dX10_lay_3 : decode cX10_lay 3 = .ok (.iload_n 3, 1) := by decide +kernel
theorem dX10_lay_4 : decode cX10_lay 4 = .ok (.ifCond .lt 71, 3) := by decide +kernel
theorem dX10_lay_7 : decode cX10_lay 7 = .ok (.lload_n 1, 1) := by decide +kernel
theorem dX10_lay_8 : decode cX10_lay 8 = .ok (.iload_n 3, 1) := by decide +kernel
theorem dX10_lay_9 : decode cX10_lay 9 = .ok (.lshr, 1) := by decide +kernel
theorem dX10_lay_10 : decode cX10_lay 10 = .ok (.l2i, 1) := by decide +kernel
theorem dX10_lay_11 : decode cX10_lay 11 = .ok (.sipush 255, 3) := by decide +kernel
theorem dX10_lay_14 : decode cX10_lay 14 = .ok (.iand, 1) := by decide +kernel
theorem dX10_lay_15 : decode cX10_lay 15 = .ok (.istore 4, 2) := by decide +kernel
theorem dX10_lay_17 : decode cX10_lay 17 = .ok (.iload 4, 2) := by decide +kernel
theorem dX10_lay_19 : decode cX10_lay 19 = .ok (.bipush 10, 2) := by decide +kernel
theorem dX10_lay_21 : decode cX10_lay 21 = .ok (.if_icmp .eq 17, 3) := by decide +kernel
theorem dX10_lay_24 : decode cX10_lay 24 = .ok (.iload 4, 2) := by decide +kernel
theorem dX10_lay_26 : decode cX10_lay 26 = .ok (.bipush 32, 2) := by decide +kernel
theorem dX10_lay_28 : decode cX10_lay 28 = .ok (.if_icmp .lt 41, 3) := by decide +kernel
theorem dX10_lay_31 : decode cX10_lay 31 = .ok (.iload 4, 2) := by decide +kernel
theorem dX10_lay_33 : decode cX10_lay 33 = .ok (.bipush 126, 2) := by decide +kernel
theorem dX10_lay_35 : decode cX10_lay 35 = .ok (.if_icmp .gt 34, 3) := by decide +kernel
theorem dX10_lay_38 : decode cX10_lay 38 = .ok (.aload_n 0, 1) := by decide +kernel
theorem dX10_lay_39 : decode cX10_lay 39 = .ok (.getfield 11, 3) := by decide +kernel
theorem dX10_lay_42 : decode cX10_lay 42 = .ok (.sipush 600, 3) := by decide +kernel
theorem dX10_lay_45 : decode cX10_lay 45 = .ok (.if_icmp .ge 24, 3) := by decide +kernel
theorem dX10_lay_48 : decode cX10_lay 48 = .ok (.aload_n 0, 1) := by decide +kernel
theorem dX10_lay_49 : decode cX10_lay 49 = .ok (.getfield 14, 3) := by decide +kernel
theorem dX10_lay_52 : decode cX10_lay 52 = .ok (.aload_n 0, 1) := by decide +kernel
theorem dX10_lay_53 : decode cX10_lay 53 = .ok (.getfield 11, 3) := by decide +kernel
theorem dX10_lay_56 : decode cX10_lay 56 = .ok (.iload 4, 2) := by decide +kernel
theorem dX10_lay_58 : decode cX10_lay 58 = .ok (.iastore, 1) := by decide +kernel
theorem dX10_lay_59 : decode cX10_lay 59 = .ok (.aload_n 0, 1) := by decide +kernel
theorem dX10_lay_60 : decode cX10_lay 60 = .ok (.dup, 1) := by decide +kernel
theorem dX10_lay_61 : decode cX10_lay 61 = .ok (.getfield 11, 3) := by decide +kernel
theorem dX10_lay_64 : decode cX10_lay 64 = .ok (.iconst 1, 1) := by decide +kernel
theorem dX10_lay_65 : decode cX10_lay 65 = .ok (.iadd, 1) := by decide +kernel
theorem dX10_lay_66 : decode cX10_lay 66 = .ok (.putfield 11, 3) := by decide +kernel
theorem dX10_lay_69 : decode cX10_lay 69 = .ok (.iinc 3 (-8), 3) := by decide +kernel
theorem dX10_lay_72 : decode cX10_lay 72 = .ok (.goto (-69), 3) := by decide +kernel
theorem dX10_lay_75 : decode cX10_lay 75 = .ok (.return_, 1) := by decide +kernel
theorem dX10_init_0 : decode cX10_init 0 = .ok (.aload_n 0, 1) := by decide +kernel
theorem dX10_init_1 : decode cX10_init 1 = .ok (.invokespecial 18, 3) := by decide +kernel
theorem dX10_init_4 : decode cX10_init 4 = .ok (.aload_n 0, 1) := by decide +kernel
theorem dX10_init_5 : decode cX10_init 5 = .ok (.sipush 600, 3) := by decide +kernel
theorem dX10_init_8 : decode cX10_init 8 = .ok (.newarray .int, 2) := by decide +kernel
theorem dX10_init_10 : decode cX10_init 10 = .ok (.putfield 14, 3) := by decide +kernel
theorem dX10_init_13 : decode cX10_init 13 = .ok (.aload_n 0, 1) := by decide +kernel
theorem dX10_init_14 : decode cX10_init 14 = .ok (.sipush 602, 3) := by decide +kernel
theorem dX10_init_17 : decode cX10_init 17 = .ok (.newarray .int, 2) := by decide +kernel
theorem dX10_init_19 : decode cX10_init 19 = .ok (.putfield 24, 3) := by decide +kernel
theorem dX10_init_22 : decode cX10_init 22 = .ok (.aload_n 0, 1) := by decide +kernel
theorem dX10_init_23 : decode cX10_init 23 = .ok (.sipush 602, 3) := by decide +kernel
theorem dX10_init_26 : decode cX10_init 26 = .ok (.newarray .int, 2) := by decide +kernel
theorem dX10_init_28 : decode cX10_init 28 = .ok (.putfield 27, 3) := by decide +kernel
theorem dX10_init_31 : decode cX10_init 31 = .ok (.aload_n 0, 1) := by decide +kernel
theorem dX10_init_32 : decode cX10_init 32 = .ok (.sipush 602, 3) := by decide +kernel
theorem dX10_init_35 : decode cX10_init 35 = .ok (.newarray .long, 2) := by decide +kernel
theorem dX10_init_37 : decode cX10_init 37 = .ok (.putfield 30, 3) := by decide +kernel
theorem dX10_init_40 : decode cX10_init 40 = .ok (.aload_n 0, 1) := by decide +kernel
theorem dX10_init_41 : decode cX10_init 41 = .ok (.bipush 9, 2) := by decide +kernel
theorem dX10_init_43 : decode cX10_init 43 = .ok (.newarray .long, 2) := by decide +kernel
theorem dX10_init_45 : decode cX10_init 45 = .ok (.dup, 1) := by decide +kernel
theorem dX10_init_46 : decode cX10_init 46 = .ok (.iconst 0, 1) := by decide +kernel
theorem dX10_init_47 : decode cX10_init 47 = .ok (.ldc2_w 34, 3) := by decide +kernel
theorem dX10_init_50 : decode cX10_init 50 = .ok (.lastore, 1) := by decide +kernel
theorem dX10_init_51 : decode cX10_init 51 = .ok (.dup, 1) := by decide +kernel
theorem dX10_init_52 : decode cX10_init 52 = .ok (.iconst 1, 1) := by decide +kernel
theorem dX10_init_53 : decode cX10_init 53 = .ok (.ldc2_w 36, 3) := by decide +kernel
theorem dX10_init_56 : decode cX10_init 56 = .ok (.lastore, 1) := by decide +kernel
theorem dX10_init_57 : decode cX10_init 57 = .ok (.dup, 1) := by decide +kernel
theorem dX10_init_58 : decode cX10_init 58 = .ok (.iconst 2, 1) := by decide +kernel
theorem dX10_init_59 : decode cX10_init 59 = .ok (.ldc2_w 38, 3) := by decide +kernel
theorem dX10_init_62 : decode cX10_init 62 = .ok (.lastore, 1) := by decide +kernel
theorem dX10_init_63 : decode cX10_init 63 = .ok (.dup, 1) := by decide +kernel
theorem dX10_init_64 : decode cX10_init 64 = .ok (.iconst 3, 1) := by decide +kernel
theorem dX10_init_65 : decode cX10_init 65 = .ok (.ldc2_w 40, 3) := by decide +kernel
theorem dX10_init_68 : decode cX10_init 68 = .ok (.lastore, 1) := by decide +kernel
theorem dX10_init_69 : decode cX10_init 69 = .ok (.dup, 1) := by decide +kernel
theorem dX10_init_70 : decode cX10_init 70 = .ok (.iconst 4, 1) := by decide +kernel
theorem dX10_init_71 : decode cX10_init 71 = .ok (.ldc2_w 42, 3) := by decide +kernel
theorem dX10_init_74 : decode cX10_init 74 = .ok (.lastore, 1) := by decide +kernel
theorem dX10_init_75 : decode cX10_init 75 = .ok (.dup, 1) := by decide +kernel
theorem dX10_init_76 : decode cX10_init 76 = .ok (.iconst 5, 1) := by decide +kernel
theorem dX10_init_77 : decode cX10_init 77 = .ok (.ldc2_w 44, 3) := by decide +kernel
theorem dX10_init_80 : decode cX10_init 80 = .ok (.lastore, 1) := by decide +kernel
theorem dX10_init_81 : decode cX10_init 81 = .ok (.dup, 1) := by decide +kernel
theorem dX10_init_82 : decode cX10_init 82 = .ok (.bipush 6, 2) := by decide +kernel
theorem dX10_init_84 : decode cX10_init 84 = .ok (.ldc2_w 46, 3) := by decide +kernel
theorem dX10_init_87 : decode cX10_init 87 = .ok (.lastore, 1) := by decide +kernel
theorem dX10_init_88 : decode cX10_init 88 = .ok (.dup, 1) := by decide +kernel
theorem dX10_init_89 : decode cX10_init 89 = .ok (.bipush 7, 2) := by decide +kernel
theorem dX10_init_91 : decode cX10_init 91 = .ok (.ldc2_w 48, 3) := by decide +kernel
theorem dX10_init_94 : decode cX10_init 94 = .ok (.lastore, 1) := by decide +kernel
theorem dX10_init_95 : decode cX10_init 95 = .ok (.dup, 1) := by decide +kernel
theorem dX10_init_96 : decode cX10_init 96 = .ok (.bipush 8, 2) := by decide +kernel
theorem dX10_init_98 : decode cX10_init 98 = .ok (.ldc2_w 50, 3) := by decide +kernel
theorem dX10_init_101 : decode cX10_init 101 = .ok (.lastore, 1) := by decide +kernel
theorem dX10_init_102 : decode cX10_init 102 = .ok (.putfield 52, 3) := by decide +kernel
theorem dX10_init_105 : decode cX10_init 105 = .ok (.aload_n 0, 1) := by decide +kernel
theorem dX10_init_106 : decode cX10_init 106 = .ok (.iconst 2, 1) := by decide +kernel
theorem dX10_init_107 : decode cX10_init 107 = .ok (.newarray .int, 2) := by decide +kernel
theorem dX10_init_109 : decode cX10_init 109 = .ok (.putfield 55, 3) := by decide +kernel
theorem dX10_init_112 : decode cX10_init 112 = .ok (.aload_n 0, 1) := by decide +kernel
theorem dX10_init_113 : decode cX10_init 113 = .ok (.bipush 32, 2) := by decide +kernel
theorem dX10_init_115 : decode cX10_init 115 = .ok (.newarray .int, 2) := by decide +kernel
theorem dX10_init_117 : decode cX10_init 117 = .ok (.putfield 58, 3) := by decide +kernel
theorem dX10_init_120 : decode cX10_init 120 = .ok (.aload_n 0, 1) := by decide +kernel
theorem dX10_init_121 : decode cX10_init 121 = .ok (.bipush 32, 2) := by decide +kernel
theorem dX10_init_123 : decode cX10_init 123 = .ok (.newarray .int, 2) := by decide +kernel
theorem dX10_init_125 : decode cX10_init 125 = .ok (.putfield 61, 3) := by decide +kernel
theorem dX10_init_128 : decode cX10_init 128 = .ok (.aload_n 0, 1) := by decide +kernel
theorem dX10_init_129 : decode cX10_init 129 = .ok (.sipush 1320, 3) := by decide +kernel
theorem dX10_init_132 : decode cX10_init 132 = .ok (.newarray .int, 2) := by decide +kernel
theorem dX10_init_134 : decode cX10_init 134 = .ok (.putfield 64, 3) := by decide +kernel
theorem dX10_init_137 : decode cX10_init 137 = .ok (.aload_n 0, 1) := by decide +kernel
theorem dX10_init_138 : decode cX10_init 138 = .ok (.sipush 1320, 3) := by decide +kernel
theorem dX10_init_141 : decode cX10_init 141 = .ok (.newarray .int, 2) := by decide +kernel
theorem dX10_init_143 : decode cX10_init 143 = .ok (.putfield 67, 3) := by decide +kernel
theorem dX10_init_146 : decode cX10_init 146 = .ok (.aload_n 0, 1) := by decide +kernel
theorem dX10_init_147 : decode cX10_init 147 = .ok (.bipush 7, 2) := by decide +kernel
theorem dX10_init_149 : decode cX10_init 149 = .ok (.newarray .int, 2) := by decide +kernel
theorem dX10_init_151 : decode cX10_init 151 = .ok (.putfield 70, 3) := by decide +kernel
theorem dX10_init_154 : decode cX10_init 154 = .ok (.aload_n 0, 1) := by decide +kernel
theorem dX10_init_155 : decode cX10_init 155 = .ok (.bipush 7, 2) := by decide +kernel
theorem dX10_init_157 : decode cX10_init 157 = .ok (.newarray .int, 2) := by decide +kernel
theorem dX10_init_159 : decode cX10_init 159 = .ok (.putfield 73, 3) := by decide +kernel
theorem dX10_init_162 : decode cX10_init 162 = .ok (.aload_n 0, 1) := by decide +kernel
theorem dX10_init_163 : decode cX10_init 163 = .ok (.bipush 7, 2) := by decide +kernel
theorem dX10_init_165 : decode cX10_init 165 = .ok (.newarray .int, 2) := by decide +kernel
theorem dX10_init_167 : decode cX10_init 167 = .ok (.putfield 76, 3) := by decide +kernel
theorem dX10_init_170 : decode cX10_init 170 = .ok (.aload_n 0, 1) := by decide +kernel
theorem dX10_init_171 : decode cX10_init 171 = .ok (.bipush 6, 2) := by decide +kernel
theorem dX10_init_173 : decode cX10_init 173 = .ok (.newarray .int, 2) := by decide +kernel
theorem dX10_init_175 : decode cX10_init 175 = .ok (.putfield 79, 3) := by decide +kernel
theorem dX10_init_178 : decode cX10_init 178 = .ok (.aload_n 0, 1) := by decide +kernel
theorem dX10_init_179 : decode cX10_init 179 = .ok (.sipush 660, 3) := by decide +kernel
theorem dX10_init_182 : decode cX10_init 182 = .ok (.newarray .int, 2) := by decide +kernel
theorem dX10_init_184 : decode cX10_init 184 = .ok (.putfield 82, 3) := by decide +kernel
theorem dX10_init_187 : decode cX10_init 187 = .ok (.aload_n 0, 1) := by decide +kernel
theorem dX10_init_188 : decode cX10_init 188 = .ok (.bipush 60, 2) := by decide +kernel
theorem dX10_init_190 : decode cX10_init 190 = .ok (.newarray .int, 2) := by decide +kernel
theorem dX10_init_192 : decode cX10_init 192 = .ok (.putfield 85, 3) := by decide +kernel
theorem dX10_init_195 : decode cX10_init 195 = .ok (.aload_n 0, 1) := by decide +kernel
theorem dX10_init_196 : decode cX10_init 196 = .ok (.bipush 60, 2) := by decide +kernel
theorem dX10_init_198 : decode cX10_init 198 = .ok (.newarray .int, 2) := by decide +kernel
theorem dX10_init_200 : decode cX10_init 200 = .ok (.putfield 88, 3) := by decide +kernel
theorem dX10_init_203 : decode cX10_init 203 = .ok (.aload_n 0, 1) := by decide +kernel
theorem dX10_init_204 : decode cX10_init 204 = .ok (.bipush 60, 2) := by decide +kernel
theorem dX10_init_206 : decode cX10_init 206 = .ok (.newarray .int, 2) := by decide +kernel
theorem dX10_init_208 : decode cX10_init 208 = .ok (.putfield 91, 3) := by decide +kernel
theorem dX10_init_211 : decode cX10_init 211 = .ok (.aload_n 0, 1) := by decide +kernel
theorem dX10_init_212 : decode cX10_init 212 = .ok (.bipush 60, 2) := by decide +kernel
theorem dX10_init_214 : decode cX10_init 214 = .ok (.newarray .int, 2) := by decide +kernel
theorem dX10_init_216 : decode cX10_init 216 = .ok (.putfield 94, 3) := by decide +kernel
theorem dX10_init_219 : decode cX10_init 219 = .ok (.aload_n 0, 1) := by decide +kernel
theorem dX10_init_220 : decode cX10_init 220 = .ok (.bipush 60, 2) := by decide +kernel
theorem dX10_init_222 : decode cX10_init 222 = .ok (.newarray .int, 2) := by decide +kernel
theorem dX10_init_224 : decode cX10_init 224 = .ok (.putfield 97, 3) := by decide +kernel
theorem dX10_init_227 : decode cX10_init 227 = .ok (.aload_n 0, 1) := by decide +kernel
theorem dX10_init_228 : decode cX10_init 228 = .ok (.bipush 60, 2) := by decide +kernel
theorem dX10_init_230 : decode cX10_init 230 = .ok (.newarray .int, 2) := by decide +kernel
theorem dX10_init_232 : decode cX10_init 232 = .ok (.putfield 100, 3) := by decide +kernel
theorem dX10_init_235 : decode cX10_init 235 = .ok (.aload_n 0, 1) := by decide +kernel
theorem dX10_init_236 : decode cX10_init 236 = .ok (.bipush 6, 2) := by decide +kernel
theorem dX10_init_238 : decode cX10_init 238 = .ok (.newarray .int, 2) := by decide +kernel
theorem dX10_init_240 : decode cX10_init 240 = .ok (.putfield 103, 3) := by decide +kernel
theorem dX10_init_243 : decode cX10_init 243 = .ok (.aload_n 0, 1) := by decide +kernel
theorem dX10_init_244 : decode cX10_init 244 = .ok (.bipush 6, 2) := by decide +kernel
theorem dX10_init_246 : decode cX10_init 246 = .ok (.newarray .int, 2) := by decide +kernel
theorem dX10_init_248 : decode cX10_init 248 = .ok (.putfield 106, 3) := by decide +kernel
theorem dX10_init_251 : decode cX10_init 251 = .ok (.aload_n 0, 1) := by decide +kernel
theorem dX10_init_252 : decode cX10_init 252 = .ok (.bipush 10, 2) := by decide +kernel
theorem dX10_init_254 : decode cX10_init 254 = .ok (.newarray .int, 2) := by decide +kernel
theorem dX10_init_256 : decode cX10_init 256 = .ok (.putfield 109, 3) := by decide +kernel
theorem dX10_init_259 : decode cX10_init 259 = .ok (.aload_n 0, 1) := by decide +kernel
theorem dX10_init_260 : decode cX10_init 260 = .ok (.bipush 10, 2) := by decide +kernel
theorem dX10_init_262 : decode cX10_init 262 = .ok (.newarray .long, 2) := by decide +kernel
theorem dX10_init_264 : decode cX10_init 264 = .ok (.putfield 112, 3) := by decide +kernel
theorem dX10_init_267 : decode cX10_init 267 = .ok (.aload_n 0, 1) := by decide +kernel
theorem dX10_init_268 : decode cX10_init 268 = .ok (.bipush 100, 2) := by decide +kernel
theorem dX10_init_270 : decode cX10_init 270 = .ok (.newarray .int, 2) := by decide +kernel
theorem dX10_init_272 : decode cX10_init 272 = .ok (.putfield 115, 3) := by decide +kernel
theorem dX10_init_275 : decode cX10_init 275 = .ok (.aload_n 0, 1) := by decide +kernel
theorem dX10_init_276 : decode cX10_init 276 = .ok (.bipush 100, 2) := by decide +kernel
theorem dX10_init_278 : decode cX10_init 278 = .ok (.newarray .int, 2) := by decide +kernel
theorem dX10_init_280 : decode cX10_init 280 = .ok (.putfield 118, 3) := by decide +kernel
theorem dX10_init_283 : decode cX10_init 283 = .ok (.aload_n 0, 1) := by decide +kernel
theorem dX10_init_284 : decode cX10_init 284 = .ok (.bipush 100, 2) := by decide +kernel
theorem dX10_init_286 : decode cX10_init 286 = .ok (.newarray .int, 2) := by decide +kernel
theorem dX10_init_288 : decode cX10_init 288 = .ok (.putfield 121, 3) := by decide +kernel
theorem dX10_init_291 : decode cX10_init 291 = .ok (.aload_n 0, 1) := by decide +kernel
theorem dX10_init_292 : decode cX10_init 292 = .ok (.bipush 100, 2) := by decide +kernel
theorem dX10_init_294 : decode cX10_init 294 = .ok (.newarray .int, 2) := by decide +kernel
theorem dX10_init_296 : decode cX10_init 296 = .ok (.putfield 124, 3) := by decide +kernel
theorem dX10_init_299 : decode cX10_init 299 = .ok (.aload_n 0, 1) := by decide +kernel
theorem dX10_init_300 : decode cX10_init 300 = .ok (.bipush 50, 2) := by decide +kernel
theorem dX10_init_302 : decode cX10_init 302 = .ok (.newarray .int, 2) := by decide +kernel
theorem dX10_init_304 : decode cX10_init 304 = .ok (.putfield 127, 3) := by decide +kernel
theorem dX10_init_307 : decode cX10_init 307 = .ok (.aload_n 0, 1) := by decide +kernel
theorem dX10_init_308 : decode cX10_init 308 = .ok (.bipush 10, 2) := by decide +kernel
theorem dX10_init_310 : decode cX10_init 310 = .ok (.newarray .boolean, 2) := by decide +kernel
theorem dX10_init_312 : decode cX10_init 312 = .ok (.putfield 130, 3) := by decide +kernel
theorem dX10_init_315 : decode cX10_init 315 = .ok (.aload_n 0, 1) := by decide +kernel
theorem dX10_init_316 : decode cX10_init 316 = .ok (.bipush 60, 2) := by decide +kernel
theorem dX10_init_318 : decode cX10_init 318 = .ok (.newarray .int, 2) := by decide +kernel
theorem dX10_init_320 : decode cX10_init 320 = .ok (.putfield 134, 3) := by decide +kernel
theorem dX10_init_323 : decode cX10_init 323 = .ok (.aload_n 0, 1) := by decide +kernel
theorem dX10_init_324 : decode cX10_init 324 = .ok (.sipush 6100, 3) := by decide +kernel
theorem dX10_init_327 : decode cX10_init 327 = .ok (.newarray .int, 2) := by decide +kernel
theorem dX10_init_329 : decode cX10_init 329 = .ok (.putfield 137, 3) := by decide +kernel
theorem dX10_init_332 : decode cX10_init 332 = .ok (.aload_n 0, 1) := by decide +kernel
theorem dX10_init_333 : decode cX10_init 333 = .ok (.sipush 6100, 3) := by decide +kernel
theorem dX10_init_336 : decode cX10_init 336 = .ok (.newarray .int, 2) := by decide +kernel
theorem dX10_init_338 : decode cX10_init 338 = .ok (.putfield 140, 3) := by decide +kernel
theorem dX10_init_341 : decode cX10_init 341 = .ok (.aload_n 0, 1) := by decide +kernel
theorem dX10_init_342 : decode cX10_init 342 = .ok (.sipush 600, 3) := by decide +kernel
theorem dX10_init_345 : decode cX10_init 345 = .ok (.newarray .int, 2) := by decide +kernel
theorem dX10_init_347 : decode cX10_init 347 = .ok (.putfield 143, 3) := by decide +kernel
theorem dX10_init_350 : decode cX10_init 350 = .ok (.aload_n 0, 1) := by decide +kernel
theorem dX10_init_351 : decode cX10_init 351 = .ok (.sipush 600, 3) := by decide +kernel
theorem dX10_init_354 : decode cX10_init 354 = .ok (.newarray .int, 2) := by decide +kernel
theorem dX10_init_356 : decode cX10_init 356 = .ok (.putfield 146, 3) := by decide +kernel
theorem dX10_init_359 : decode cX10_init 359 = .ok (.aload_n 0, 1) := by decide +kernel
theorem dX10_init_360 : decode cX10_init 360 = .ok (.bipush 100, 2) := by decide +kernel
theorem dX10_init_362 : decode cX10_init 362 = .ok (.newarray .int, 2) := by decide +kernel
theorem dX10_init_364 : decode cX10_init 364 = .ok (.putfield 149, 3) := by decide +kernel
theorem dX10_init_367 : decode cX10_init 367 = .ok (.iconst 0, 1) := by decide +kernel
theorem dX10_init_368 : decode cX10_init 368 = .ok (.istore_n 1, 1) := by decide +kernel
theorem dX10_init_369 : decode cX10_init 369 = .ok (.iload_n 1, 1) := by decide +kernel
theorem dX10_init_370 : decode cX10_init 370 = .ok (.bipush 10, 2) := by decide +kernel
end
section
theorem dX10_init_372 : decode cX10_init 372 = .ok (.if_icmp .ge 40, 3) := by decide +kernel
theorem dX10_init_375 : decode cX10_init 375 = .ok (.aload_n 0, 1) := by decide +kernel
theorem dX10_init_376 : decode cX10_init 376 = .ok (.getfield 109, 3) := by decide +kernel
theorem dX10_init_379 : decode cX10_init 379 = .ok (.iload_n 1, 1) := by decide +kernel
theorem dX10_init_380 : decode cX10_init 380 = .ok (.iconst 1, 1) := by decide +kernel
theorem dX10_init_381 : decode cX10_init 381 = .ok (.iastore, 1) := by decide +kernel
theorem dX10_init_382 : decode cX10_init 382 = .ok (.iconst 0, 1) := by decide +kernel
theorem dX10_init_383 : decode cX10_init 383 = .ok (.istore_n 2, 1) := by decide +kernel
theorem dX10_init_384 : decode cX10_init 384 = .ok (.iload_n 2, 1) := by decide +kernel
theorem dX10_init_385 : decode cX10_init 385 = .ok (.iconst 5, 1) := by decide +kernel
theorem dX10_init_386 : decode cX10_init 386 = .ok (.if_icmp .ge 20, 3) := by decide +kernel
theorem dX10_init_389 : decode cX10_init 389 = .ok (.aload_n 0, 1) := by decide +kernel
theorem dX10_init_390 : decode cX10_init 390 = .ok (.getfield 127, 3) := by decide +kernel
theorem dX10_init_393 : decode cX10_init 393 = .ok (.iconst 5, 1) := by decide +kernel
theorem dX10_init_394 : decode cX10_init 394 = .ok (.iload_n 1, 1) := by decide +kernel
theorem dX10_init_395 : decode cX10_init 395 = .ok (.imul, 1) := by decide +kernel
theorem dX10_init_396 : decode cX10_init 396 = .ok (.iload_n 2, 1) := by decide +kernel
theorem dX10_init_397 : decode cX10_init 397 = .ok (.iadd, 1) := by decide +kernel
theorem dX10_init_398 : decode cX10_init 398 = .ok (.iconst (-1), 1) := by decide +kernel
theorem dX10_init_399 : decode cX10_init 399 = .ok (.iastore, 1) := by decide +kernel
theorem dX10_init_400 : decode cX10_init 400 = .ok (.iinc 2 1, 3) := by decide +kernel
theorem dX10_init_403 : decode cX10_init 403 = .ok (.goto (-19), 3) := by decide +kernel
theorem dX10_init_406 : decode cX10_init 406 = .ok (.iinc 1 1, 3) := by decide +kernel
theorem dX10_init_409 : decode cX10_init 409 = .ok (.goto (-40), 3) := by decide +kernel
theorem dX10_init_412 : decode cX10_init 412 = .ok (.return_, 1) := by decide +kernel
theorem dX10_isLetter_0 : decode cX10_isLetter 0 = .ok (.iload_n 0, 1) := by decide +kernel
theorem dX10_isLetter_1 : decode cX10_isLetter 1 = .ok (.bipush 97, 2) := by decide +kernel
theorem dX10_isLetter_3 : decode cX10_isLetter 3 = .ok (.if_icmp .lt 13, 3) := by decide +kernel
theorem dX10_isLetter_6 : decode cX10_isLetter 6 = .ok (.iload_n 0, 1) := by decide +kernel
theorem dX10_isLetter_7 : decode cX10_isLetter 7 = .ok (.bipush 122, 2) := by decide +kernel
theorem dX10_isLetter_9 : decode cX10_isLetter 9 = .ok (.if_icmp .gt 7, 3) := by decide +kernel
theorem dX10_isLetter_12 : decode cX10_isLetter 12 = .ok (.iconst 1, 1) := by decide +kernel
theorem dX10_isLetter_13 : decode cX10_isLetter 13 = .ok (.goto 4, 3) := by decide +kernel
theorem dX10_isLetter_16 : decode cX10_isLetter 16 = .ok (.iconst 0, 1) := by decide +kernel
theorem dX10_isLetter_17 : decode cX10_isLetter 17 = .ok (.ireturn, 1) := by decide +kernel
theorem dX10_isDigit_0 : decode cX10_isDigit 0 = .ok (.iload_n 0, 1) := by decide +kernel
theorem dX10_isDigit_1 : decode cX10_isDigit 1 = .ok (.bipush 48, 2) := by decide +kernel
theorem dX10_isDigit_3 : decode cX10_isDigit 3 = .ok (.if_icmp .lt 13, 3) := by decide +kernel
theorem dX10_isDigit_6 : decode cX10_isDigit 6 = .ok (.iload_n 0, 1) := by decide +kernel
theorem dX10_isDigit_7 : decode cX10_isDigit 7 = .ok (.bipush 57, 2) := by decide +kernel
theorem dX10_isDigit_9 : decode cX10_isDigit 9 = .ok (.if_icmp .gt 7, 3) := by decide +kernel
theorem dX10_isDigit_12 : decode cX10_isDigit 12 = .ok (.iconst 1, 1) := by decide +kernel
theorem dX10_isDigit_13 : decode cX10_isDigit 13 = .ok (.goto 4, 3) := by decide +kernel
theorem dX10_isDigit_16 : decode cX10_isDigit 16 = .ok (.iconst 0, 1) := by decide +kernel
theorem dX10_isDigit_17 : decode cX10_isDigit 17 = .ok (.ireturn, 1) := by decide +kernel
theorem dX10_rank_0 : decode cX10_rank 0 = .ok (.iload_n 0, 1) := by decide +kernel
theorem dX10_rank_1 : decode cX10_rank 1 = .ok (.invokestatic 152, 3) := by decide +kernel
theorem dX10_rank_4 : decode cX10_rank 4 = .ok (.ifCond .eq 10, 3) := by decide +kernel
theorem dX10_rank_7 : decode cX10_rank 7 = .ok (.iload_n 0, 1) := by decide +kernel
theorem dX10_rank_8 : decode cX10_rank 8 = .ok (.bipush 96, 2) := by decide +kernel
theorem dX10_rank_10 : decode cX10_rank 10 = .ok (.isub, 1) := by decide +kernel
theorem dX10_rank_11 : decode cX10_rank 11 = .ok (.goto 7, 3) := by decide +kernel
theorem dX10_rank_14 : decode cX10_rank 14 = .ok (.iload_n 0, 1) := by decide +kernel
theorem dX10_rank_15 : decode cX10_rank 15 = .ok (.bipush 21, 2) := by decide +kernel
theorem dX10_rank_17 : decode cX10_rank 17 = .ok (.isub, 1) := by decide +kernel
theorem dX10_rank_18 : decode cX10_rank 18 = .ok (.ireturn, 1) := by decide +kernel
theorem dX10_isSignOf_0 : decode cX10_isSignOf 0 = .ok (.iload_n 0, 1) := by decide +kernel
theorem dX10_isSignOf_1 : decode cX10_isSignOf 1 = .ok (.bipush 40, 2) := by decide +kernel
theorem dX10_isSignOf_3 : decode cX10_isSignOf 3 = .ok (.if_icmp .eq 39, 3) := by decide +kernel
theorem dX10_isSignOf_6 : decode cX10_isSignOf 6 = .ok (.iload_n 0, 1) := by decide +kernel
theorem dX10_isSignOf_7 : decode cX10_isSignOf 7 = .ok (.bipush 41, 2) := by decide +kernel
theorem dX10_isSignOf_9 : decode cX10_isSignOf 9 = .ok (.if_icmp .eq 33, 3) := by decide +kernel
theorem dX10_isSignOf_12 : decode cX10_isSignOf 12 = .ok (.iload_n 0, 1) := by decide +kernel
theorem dX10_isSignOf_13 : decode cX10_isSignOf 13 = .ok (.bipush 59, 2) := by decide +kernel
theorem dX10_isSignOf_15 : decode cX10_isSignOf 15 = .ok (.if_icmp .eq 27, 3) := by decide +kernel
theorem dX10_isSignOf_18 : decode cX10_isSignOf 18 = .ok (.iload_n 0, 1) := by decide +kernel
theorem dX10_isSignOf_19 : decode cX10_isSignOf 19 = .ok (.bipush 61, 2) := by decide +kernel
theorem dX10_isSignOf_21 : decode cX10_isSignOf 21 = .ok (.if_icmp .eq 21, 3) := by decide +kernel
theorem dX10_isSignOf_24 : decode cX10_isSignOf 24 = .ok (.iload_n 0, 1) := by decide +kernel
theorem dX10_isSignOf_25 : decode cX10_isSignOf 25 = .ok (.bipush 60, 2) := by decide +kernel
theorem dX10_isSignOf_27 : decode cX10_isSignOf 27 = .ok (.if_icmp .eq 15, 3) := by decide +kernel
theorem dX10_isSignOf_30 : decode cX10_isSignOf 30 = .ok (.iload_n 0, 1) := by decide +kernel
theorem dX10_isSignOf_31 : decode cX10_isSignOf 31 = .ok (.bipush 43, 2) := by decide +kernel
theorem dX10_isSignOf_33 : decode cX10_isSignOf 33 = .ok (.if_icmp .eq 9, 3) := by decide +kernel
theorem dX10_isSignOf_36 : decode cX10_isSignOf 36 = .ok (.iload_n 0, 1) := by decide +kernel
theorem dX10_isSignOf_37 : decode cX10_isSignOf 37 = .ok (.bipush 45, 2) := by decide +kernel
theorem dX10_isSignOf_39 : decode cX10_isSignOf 39 = .ok (.if_icmp .ne 7, 3) := by decide +kernel
theorem dX10_isSignOf_42 : decode cX10_isSignOf 42 = .ok (.iconst 1, 1) := by decide +kernel
theorem dX10_isSignOf_43 : decode cX10_isSignOf 43 = .ok (.goto 4, 3) := by decide +kernel
theorem dX10_isSignOf_46 : decode cX10_isSignOf 46 = .ok (.iconst 0, 1) := by decide +kernel
theorem dX10_isSignOf_47 : decode cX10_isSignOf 47 = .ok (.ireturn, 1) := by decide +kernel
theorem dX10_cutAll_0 : decode cX10_cutAll 0 = .ok (.aload_n 0, 1) := by decide +kernel
theorem dX10_cutAll_1 : decode cX10_cutAll 1 = .ok (.aload_n 0, 1) := by decide +kernel
theorem dX10_cutAll_2 : decode cX10_cutAll 2 = .ok (.getfield 11, 3) := by decide +kernel
theorem dX10_cutAll_5 : decode cX10_cutAll 5 = .ok (.putfield 156, 3) := by decide +kernel
theorem dX10_cutAll_8 : decode cX10_cutAll 8 = .ok (.aload_n 0, 1) := by decide +kernel
theorem dX10_cutAll_9 : decode cX10_cutAll 9 = .ok (.iconst 0, 1) := by decide +kernel
theorem dX10_cutAll_10 : decode cX10_cutAll 10 = .ok (.putfield 11, 3) := by decide +kernel
theorem dX10_cutAll_13 : decode cX10_cutAll 13 = .ok (.iconst 0, 1) := by decide +kernel
theorem dX10_cutAll_14 : decode cX10_cutAll 14 = .ok (.istore_n 1, 1) := by decide +kernel
theorem dX10_cutAll_15 : decode cX10_cutAll 15 = .ok (.iconst 0, 1) := by decide +kernel
theorem dX10_cutAll_16 : decode cX10_cutAll 16 = .ok (.istore_n 2, 1) := by decide +kernel
theorem dX10_cutAll_17 : decode cX10_cutAll 17 = .ok (.iload_n 2, 1) := by decide +kernel
theorem dX10_cutAll_18 : decode cX10_cutAll 18 = .ok (.aload_n 0, 1) := by decide +kernel
theorem dX10_cutAll_19 : decode cX10_cutAll 19 = .ok (.getfield 156, 3) := by decide +kernel
theorem dX10_cutAll_22 : decode cX10_cutAll 22 = .ok (.if_icmp .ge 257, 3) := by decide +kernel
theorem dX10_cutAll_25 : decode cX10_cutAll 25 = .ok (.aload_n 0, 1) := by decide +kernel
theorem dX10_cutAll_26 : decode cX10_cutAll 26 = .ok (.getfield 14, 3) := by decide +kernel
theorem dX10_cutAll_29 : decode cX10_cutAll 29 = .ok (.iload_n 2, 1) := by decide +kernel
theorem dX10_cutAll_30 : decode cX10_cutAll 30 = .ok (.iaload, 1) := by decide +kernel
theorem dX10_cutAll_31 : decode cX10_cutAll 31 = .ok (.istore_n 3, 1) := by decide +kernel
theorem dX10_cutAll_32 : decode cX10_cutAll 32 = .ok (.iload_n 3, 1) := by decide +kernel
theorem dX10_cutAll_33 : decode cX10_cutAll 33 = .ok (.bipush 10, 2) := by decide +kernel
theorem dX10_cutAll_35 : decode cX10_cutAll 35 = .ok (.if_icmp .eq 9, 3) := by decide +kernel
theorem dX10_cutAll_38 : decode cX10_cutAll 38 = .ok (.iload_n 3, 1) := by decide +kernel
theorem dX10_cutAll_39 : decode cX10_cutAll 39 = .ok (.bipush 32, 2) := by decide +kernel
theorem dX10_cutAll_41 : decode cX10_cutAll 41 = .ok (.if_icmp .ne 9, 3) := by decide +kernel
theorem dX10_cutAll_44 : decode cX10_cutAll 44 = .ok (.iinc 2 1, 3) := by decide +kernel
theorem dX10_cutAll_47 : decode cX10_cutAll 47 = .ok (.goto (-30), 3) := by decide +kernel
theorem dX10_cutAll_50 : decode cX10_cutAll 50 = .ok (.iload_n 2, 1) := by decide +kernel
theorem dX10_cutAll_51 : decode cX10_cutAll 51 = .ok (.istore 4, 2) := by decide +kernel
theorem dX10_cutAll_53 : decode cX10_cutAll 53 = .ok (.lconst 0, 1) := by decide +kernel
theorem dX10_cutAll_54 : decode cX10_cutAll 54 = .ok (.lstore 5, 2) := by decide +kernel
theorem dX10_cutAll_56 : decode cX10_cutAll 56 = .ok (.aload_n 0, 1) := by decide +kernel
theorem dX10_cutAll_57 : decode cX10_cutAll 57 = .ok (.getfield 27, 3) := by decide +kernel
theorem dX10_cutAll_60 : decode cX10_cutAll 60 = .ok (.iload_n 1, 1) := by decide +kernel
theorem dX10_cutAll_61 : decode cX10_cutAll 61 = .ok (.iload_n 2, 1) := by decide +kernel
theorem dX10_cutAll_62 : decode cX10_cutAll 62 = .ok (.iastore, 1) := by decide +kernel
theorem dX10_cutAll_63 : decode cX10_cutAll 63 = .ok (.iload_n 3, 1) := by decide +kernel
theorem dX10_cutAll_64 : decode cX10_cutAll 64 = .ok (.invokestatic 152, 3) := by decide +kernel
theorem dX10_cutAll_67 : decode cX10_cutAll 67 = .ok (.ifCond .eq 85, 3) := by decide +kernel
theorem dX10_cutAll_70 : decode cX10_cutAll 70 = .ok (.iload_n 2, 1) := by decide +kernel
theorem dX10_cutAll_71 : decode cX10_cutAll 71 = .ok (.aload_n 0, 1) := by decide +kernel
theorem dX10_cutAll_72 : decode cX10_cutAll 72 = .ok (.getfield 156, 3) := by decide +kernel
theorem dX10_cutAll_75 : decode cX10_cutAll 75 = .ok (.if_icmp .ge 54, 3) := by decide +kernel
theorem dX10_cutAll_78 : decode cX10_cutAll 78 = .ok (.aload_n 0, 1) := by decide +kernel
theorem dX10_cutAll_79 : decode cX10_cutAll 79 = .ok (.getfield 14, 3) := by decide +kernel
theorem dX10_cutAll_82 : decode cX10_cutAll 82 = .ok (.iload_n 2, 1) := by decide +kernel
theorem dX10_cutAll_83 : decode cX10_cutAll 83 = .ok (.iaload, 1) := by decide +kernel
theorem dX10_cutAll_84 : decode cX10_cutAll 84 = .ok (.invokestatic 152, 3) := by decide +kernel
theorem dX10_cutAll_87 : decode cX10_cutAll 87 = .ok (.ifCond .eq 42, 3) := by decide +kernel
theorem dX10_cutAll_90 : decode cX10_cutAll 90 = .ok (.iload_n 2, 1) := by decide +kernel
theorem dX10_cutAll_91 : decode cX10_cutAll 91 = .ok (.iload 4, 2) := by decide +kernel
theorem dX10_cutAll_93 : decode cX10_cutAll 93 = .ok (.isub, 1) := by decide +kernel
theorem dX10_cutAll_94 : decode cX10_cutAll 94 = .ok (.bipush 8, 2) := by decide +kernel
theorem dX10_cutAll_96 : decode cX10_cutAll 96 = .ok (.if_icmp .ge 23, 3) := by decide +kernel
theorem dX10_cutAll_99 : decode cX10_cutAll 99 = .ok (.ldc2_w 159, 3) := by decide +kernel
theorem dX10_cutAll_102 : decode cX10_cutAll 102 = .ok (.lload 5, 2) := by decide +kernel
theorem dX10_cutAll_104 : decode cX10_cutAll 104 = .ok (.lmul, 1) := by decide +kernel
theorem dX10_cutAll_105 : decode cX10_cutAll 105 = .ok (.aload_n 0, 1) := by decide +kernel
theorem dX10_cutAll_106 : decode cX10_cutAll 106 = .ok (.getfield 14, 3) := by decide +kernel
theorem dX10_cutAll_109 : decode cX10_cutAll 109 = .ok (.iload_n 2, 1) := by decide +kernel
theorem dX10_cutAll_110 : decode cX10_cutAll 110 = .ok (.iaload, 1) := by decide +kernel
theorem dX10_cutAll_111 : decode cX10_cutAll 111 = .ok (.invokestatic 161, 3) := by decide +kernel
theorem dX10_cutAll_114 : decode cX10_cutAll 114 = .ok (.i2l, 1) := by decide +kernel
theorem dX10_cutAll_115 : decode cX10_cutAll 115 = .ok (.ladd, 1) := by decide +kernel
theorem dX10_cutAll_116 : decode cX10_cutAll 116 = .ok (.goto 5, 3) := by decide +kernel
theorem dX10_cutAll_119 : decode cX10_cutAll 119 = .ok (.lload 5, 2) := by decide +kernel
theorem dX10_cutAll_121 : decode cX10_cutAll 121 = .ok (.lstore 5, 2) := by decide +kernel
theorem dX10_cutAll_123 : decode cX10_cutAll 123 = .ok (.iinc 2 1, 3) := by decide +kernel
theorem dX10_cutAll_126 : decode cX10_cutAll 126 = .ok (.goto (-56), 3) := by decide +kernel
theorem dX10_cutAll_129 : decode cX10_cutAll 129 = .ok (.aload_n 0, 1) := by decide +kernel
theorem dX10_cutAll_130 : decode cX10_cutAll 130 = .ok (.getfield 24, 3) := by decide +kernel
theorem dX10_cutAll_133 : decode cX10_cutAll 133 = .ok (.iload_n 1, 1) := by decide +kernel
theorem dX10_cutAll_134 : decode cX10_cutAll 134 = .ok (.iload_n 2, 1) := by decide +kernel
theorem dX10_cutAll_135 : decode cX10_cutAll 135 = .ok (.iload 4, 2) := by decide +kernel
theorem dX10_cutAll_137 : decode cX10_cutAll 137 = .ok (.isub, 1) := by decide +kernel
theorem dX10_cutAll_138 : decode cX10_cutAll 138 = .ok (.bipush 8, 2) := by decide +kernel
theorem dX10_cutAll_140 : decode cX10_cutAll 140 = .ok (.if_icmp .le 7, 3) := by decide +kernel
theorem dX10_cutAll_143 : decode cX10_cutAll 143 = .ok (.iconst 4, 1) := by decide +kernel
theorem dX10_cutAll_144 : decode cX10_cutAll 144 = .ok (.goto 4, 3) := by decide +kernel
theorem dX10_cutAll_147 : decode cX10_cutAll 147 = .ok (.iconst 1, 1) := by decide +kernel
theorem dX10_cutAll_148 : decode cX10_cutAll 148 = .ok (.iastore, 1) := by decide +kernel
theorem dX10_cutAll_149 : decode cX10_cutAll 149 = .ok (.goto 116, 3) := by decide +kernel
theorem dX10_cutAll_152 : decode cX10_cutAll 152 = .ok (.iload_n 3, 1) := by decide +kernel
theorem dX10_cutAll_153 : decode cX10_cutAll 153 = .ok (.invokestatic 165, 3) := by decide +kernel
theorem dX10_cutAll_156 : decode cX10_cutAll 156 = .ok (.ifCond .eq 84, 3) := by decide +kernel
theorem dX10_cutAll_159 : decode cX10_cutAll 159 = .ok (.iload_n 2, 1) := by decide +kernel
theorem dX10_cutAll_160 : decode cX10_cutAll 160 = .ok (.aload_n 0, 1) := by decide +kernel
theorem dX10_cutAll_161 : decode cX10_cutAll 161 = .ok (.getfield 156, 3) := by decide +kernel
theorem dX10_cutAll_164 : decode cX10_cutAll 164 = .ok (.if_icmp .ge 54, 3) := by decide +kernel
theorem dX10_cutAll_167 : decode cX10_cutAll 167 = .ok (.aload_n 0, 1) := by decide +kernel
theorem dX10_cutAll_168 : decode cX10_cutAll 168 = .ok (.getfield 14, 3) := by decide +kernel
theorem dX10_cutAll_171 : decode cX10_cutAll 171 = .ok (.iload_n 2, 1) := by decide +kernel
theorem dX10_cutAll_172 : decode cX10_cutAll 172 = .ok (.iaload, 1) := by decide +kernel
theorem dX10_cutAll_173 : decode cX10_cutAll 173 = .ok (.invokestatic 165, 3) := by decide +kernel
theorem dX10_cutAll_176 : decode cX10_cutAll 176 = .ok (.ifCond .eq 42, 3) := by decide +kernel
theorem dX10_cutAll_179 : decode cX10_cutAll 179 = .ok (.iload_n 2, 1) := by decide +kernel
theorem dX10_cutAll_180 : decode cX10_cutAll 180 = .ok (.iload 4, 2) := by decide +kernel
theorem dX10_cutAll_182 : decode cX10_cutAll 182 = .ok (.isub, 1) := by decide +kernel
theorem dX10_cutAll_183 : decode cX10_cutAll 183 = .ok (.iconst 4, 1) := by decide +kernel
theorem dX10_cutAll_184 : decode cX10_cutAll 184 = .ok (.if_icmp .ge 24, 3) := by decide +kernel
theorem dX10_cutAll_187 : decode cX10_cutAll 187 = .ok (.ldc2_w 168, 3) := by decide +kernel
theorem dX10_cutAll_190 : decode cX10_cutAll 190 = .ok (.lload 5, 2) := by decide +kernel
theorem dX10_cutAll_192 : decode cX10_cutAll 192 = .ok (.lmul, 1) := by decide +kernel
theorem dX10_cutAll_193 : decode cX10_cutAll 193 = .ok (.aload_n 0, 1) := by decide +kernel
theorem dX10_cutAll_194 : decode cX10_cutAll 194 = .ok (.getfield 14, 3) := by decide +kernel
theorem dX10_cutAll_197 : decode cX10_cutAll 197 = .ok (.iload_n 2, 1) := by decide +kernel
theorem dX10_cutAll_198 : decode cX10_cutAll 198 = .ok (.iaload, 1) := by decide +kernel
theorem dX10_cutAll_199 : decode cX10_cutAll 199 = .ok (.i2l, 1) := by decide +kernel
theorem dX10_cutAll_200 : decode cX10_cutAll 200 = .ok (.ladd, 1) := by decide +kernel
theorem dX10_cutAll_201 : decode cX10_cutAll 201 = .ok (.ldc2_w 170, 3) := by decide +kernel
theorem dX10_cutAll_204 : decode cX10_cutAll 204 = .ok (.lsub, 1) := by decide +kernel
theorem dX10_cutAll_205 : decode cX10_cutAll 205 = .ok (.goto 5, 3) := by decide +kernel
theorem dX10_cutAll_208 : decode cX10_cutAll 208 = .ok (.lload 5, 2) := by decide +kernel
theorem dX10_cutAll_210 : decode cX10_cutAll 210 = .ok (.lstore 5, 2) := by decide +kernel
theorem dX10_cutAll_212 : decode cX10_cutAll 212 = .ok (.iinc 2 1, 3) := by decide +kernel
theorem dX10_cutAll_215 : decode cX10_cutAll 215 = .ok (.goto (-56), 3) := by decide +kernel
theorem dX10_cutAll_218 : decode cX10_cutAll 218 = .ok (.aload_n 0, 1) := by decide +kernel
theorem dX10_cutAll_219 : decode cX10_cutAll 219 = .ok (.getfield 24, 3) := by decide +kernel
theorem dX10_cutAll_222 : decode cX10_cutAll 222 = .ok (.iload_n 1, 1) := by decide +kernel
theorem dX10_cutAll_223 : decode cX10_cutAll 223 = .ok (.iload_n 2, 1) := by decide +kernel
theorem dX10_cutAll_224 : decode cX10_cutAll 224 = .ok (.iload 4, 2) := by decide +kernel
theorem dX10_cutAll_226 : decode cX10_cutAll 226 = .ok (.isub, 1) := by decide +kernel
theorem dX10_cutAll_227 : decode cX10_cutAll 227 = .ok (.iconst 4, 1) := by decide +kernel
theorem dX10_cutAll_228 : decode cX10_cutAll 228 = .ok (.if_icmp .le 7, 3) := by decide +kernel
theorem dX10_cutAll_231 : decode cX10_cutAll 231 = .ok (.iconst 4, 1) := by decide +kernel
theorem dX10_cutAll_232 : decode cX10_cutAll 232 = .ok (.goto 4, 3) := by decide +kernel
theorem dX10_cutAll_235 : decode cX10_cutAll 235 = .ok (.iconst 2, 1) := by decide +kernel
theorem dX10_cutAll_236 : decode cX10_cutAll 236 = .ok (.iastore, 1) := by decide +kernel
theorem dX10_cutAll_237 : decode cX10_cutAll 237 = .ok (.goto 28, 3) := by decide +kernel
theorem dX10_cutAll_240 : decode cX10_cutAll 240 = .ok (.iload_n 3, 1) := by decide +kernel
theorem dX10_cutAll_241 : decode cX10_cutAll 241 = .ok (.i2l, 1) := by decide +kernel
theorem dX10_cutAll_242 : decode cX10_cutAll 242 = .ok (.lstore 5, 2) := by decide +kernel
theorem dX10_cutAll_244 : decode cX10_cutAll 244 = .ok (.aload_n 0, 1) := by decide +kernel
theorem dX10_cutAll_245 : decode cX10_cutAll 245 = .ok (.getfield 24, 3) := by decide +kernel
theorem dX10_cutAll_248 : decode cX10_cutAll 248 = .ok (.iload_n 1, 1) := by decide +kernel
theorem dX10_cutAll_249 : decode cX10_cutAll 249 = .ok (.iload_n 3, 1) := by decide +kernel
theorem dX10_cutAll_250 : decode cX10_cutAll 250 = .ok (.invokestatic 172, 3) := by decide +kernel
theorem dX10_cutAll_253 : decode cX10_cutAll 253 = .ok (.ifCond .eq 7, 3) := by decide +kernel
theorem dX10_cutAll_256 : decode cX10_cutAll 256 = .ok (.iconst 3, 1) := by decide +kernel
theorem dX10_cutAll_257 : decode cX10_cutAll 257 = .ok (.goto 4, 3) := by decide +kernel
theorem dX10_cutAll_260 : decode cX10_cutAll 260 = .ok (.iconst 4, 1) := by decide +kernel
theorem dX10_cutAll_261 : decode cX10_cutAll 261 = .ok (.iastore, 1) := by decide +kernel
theorem dX10_cutAll_262 : decode cX10_cutAll 262 = .ok (.iinc 2 1, 3) := by decide +kernel
theorem dX10_cutAll_265 : decode cX10_cutAll 265 = .ok (.aload_n 0, 1) := by decide +kernel
theorem dX10_cutAll_266 : decode cX10_cutAll 266 = .ok (.getfield 30, 3) := by decide +kernel
theorem dX10_cutAll_269 : decode cX10_cutAll 269 = .ok (.iload_n 1, 1) := by decide +kernel
theorem dX10_cutAll_270 : decode cX10_cutAll 270 = .ok (.lload 5, 2) := by decide +kernel
theorem dX10_cutAll_272 : decode cX10_cutAll 272 = .ok (.lastore, 1) := by decide +kernel
theorem dX10_cutAll_273 : decode cX10_cutAll 273 = .ok (.iinc 1 1, 3) := by decide +kernel
theorem dX10_cutAll_276 : decode cX10_cutAll 276 = .ok (.goto (-259), 3) := by decide +kernel
theorem dX10_cutAll_279 : decode cX10_cutAll 279 = .ok (.aload_n 0, 1) := by decide +kernel
theorem dX10_cutAll_280 : decode cX10_cutAll 280 = .ok (.getfield 24, 3) := by decide +kernel
theorem dX10_cutAll_283 : decode cX10_cutAll 283 = .ok (.iload_n 1, 1) := by decide +kernel
theorem dX10_cutAll_284 : decode cX10_cutAll 284 = .ok (.iconst 0, 1) := by decide +kernel
theorem dX10_cutAll_285 : decode cX10_cutAll 285 = .ok (.iastore, 1) := by decide +kernel
theorem dX10_cutAll_286 : decode cX10_cutAll 286 = .ok (.aload_n 0, 1) := by decide +kernel
theorem dX10_cutAll_287 : decode cX10_cutAll 287 = .ok (.getfield 27, 3) := by decide +kernel
theorem dX10_cutAll_290 : decode cX10_cutAll 290 = .ok (.iload_n 1, 1) := by decide +kernel
theorem dX10_cutAll_291 : decode cX10_cutAll 291 = .ok (.aload_n 0, 1) := by decide +kernel
theorem dX10_cutAll_292 : decode cX10_cutAll 292 = .ok (.getfield 156, 3) := by decide +kernel
theorem dX10_cutAll_295 : decode cX10_cutAll 295 = .ok (.iastore, 1) := by decide +kernel
theorem dX10_cutAll_296 : decode cX10_cutAll 296 = .ok (.aload_n 0, 1) := by decide +kernel
theorem dX10_cutAll_297 : decode cX10_cutAll 297 = .ok (.iconst 0, 1) := by decide +kernel
theorem dX10_cutAll_298 : decode cX10_cutAll 298 = .ok (.putfield 175, 3) := by decide +kernel
theorem dX10_cutAll_301 : decode cX10_cutAll 301 = .ok (.aload_n 0, 1) := by decide +kernel
theorem dX10_cutAll_302 : decode cX10_cutAll 302 = .ok (.iconst 0, 1) := by decide +kernel
theorem dX10_cutAll_303 : decode cX10_cutAll 303 = .ok (.putfield 178, 3) := by decide +kernel
theorem dX10_cutAll_306 : decode cX10_cutAll 306 = .ok (.return_, 1) := by decide +kernel
theorem dX10_wrong_0 : decode cX10_wrong 0 = .ok (.aload_n 0, 1) := by decide +kernel
theorem dX10_wrong_1 : decode cX10_wrong 1 = .ok (.getfield 178, 3) := by decide +kernel
theorem dX10_wrong_4 : decode cX10_wrong 4 = .ok (.ifCond .ne 21, 3) := by decide +kernel
theorem dX10_wrong_7 : decode cX10_wrong 7 = .ok (.aload_n 0, 1) := by decide +kernel
theorem dX10_wrong_8 : decode cX10_wrong 8 = .ok (.iload_n 1, 1) := by decide +kernel
theorem dX10_wrong_9 : decode cX10_wrong 9 = .ok (.bipush 16, 2) := by decide +kernel
theorem dX10_wrong_11 : decode cX10_wrong 11 = .ok (.aload_n 0, 1) := by decide +kernel
theorem dX10_wrong_12 : decode cX10_wrong 12 = .ok (.getfield 27, 3) := by decide +kernel
theorem dX10_wrong_15 : decode cX10_wrong 15 = .ok (.aload_n 0, 1) := by decide +kernel
theorem dX10_wrong_16 : decode cX10_wrong 16 = .ok (.getfield 175, 3) := by decide +kernel
theorem dX10_wrong_19 : decode cX10_wrong 19 = .ok (.iaload, 1) := by decide +kernel
theorem dX10_wrong_20 : decode cX10_wrong 20 = .ok (.imul, 1) := by decide +kernel
theorem dX10_wrong_21 : decode cX10_wrong 21 = .ok (.iadd, 1) := by decide +kernel
theorem dX10_wrong_22 : decode cX10_wrong 22 = .ok (.putfield 178, 3) := by decide +kernel
theorem dX10_wrong_25 : decode cX10_wrong 25 = .ok (.return_, 1) := by decide +kernel
theorem dX10_isSign_0 : decode cX10_isSign 0 = .ok (.aload_n 0, 1) := by decide +kernel
theorem dX10_isSign_1 : decode cX10_isSign 1 = .ok (.getfield 178, 3) := by decide +kernel
theorem dX10_isSign_4 : decode cX10_isSign 4 = .ok (.ifCond .ne 35, 3) := by decide +kernel
theorem dX10_isSign_7 : decode cX10_isSign 7 = .ok (.aload_n 0, 1) := by decide +kernel
theorem dX10_isSign_8 : decode cX10_isSign 8 = .ok (.getfield 24, 3) := by decide +kernel
theorem dX10_isSign_11 : decode cX10_isSign 11 = .ok (.aload_n 0, 1) := by decide +kernel
theorem dX10_isSign_12 : decode cX10_isSign 12 = .ok (.getfield 175, 3) := by decide +kernel
theorem dX10_isSign_15 : decode cX10_isSign 15 = .ok (.iaload, 1) := by decide +kernel
theorem dX10_isSign_16 : decode cX10_isSign 16 = .ok (.iconst 3, 1) := by decide +kernel
theorem dX10_isSign_17 : decode cX10_isSign 17 = .ok (.if_icmp .ne 22, 3) := by decide +kernel
theorem dX10_isSign_20 : decode cX10_isSign 20 = .ok (.aload_n 0, 1) := by decide +kernel
theorem dX10_isSign_21 : decode cX10_isSign 21 = .ok (.getfield 30, 3) := by decide +kernel
theorem dX10_isSign_24 : decode cX10_isSign 24 = .ok (.aload_n 0, 1) := by decide +kernel
theorem dX10_isSign_25 : decode cX10_isSign 25 = .ok (.getfield 175, 3) := by decide +kernel
theorem dX10_isSign_28 : decode cX10_isSign 28 = .ok (.laload, 1) := by decide +kernel
theorem dX10_isSign_29 : decode cX10_isSign 29 = .ok (.iload_n 1, 1) := by decide +kernel
theorem dX10_isSign_30 : decode cX10_isSign 30 = .ok (.i2l, 1) := by decide +kernel
theorem dX10_isSign_31 : decode cX10_isSign 31 = .ok (.lcmp, 1) := by decide +kernel
theorem dX10_isSign_32 : decode cX10_isSign 32 = .ok (.ifCond .ne 7, 3) := by decide +kernel
theorem dX10_isSign_35 : decode cX10_isSign 35 = .ok (.iconst 1, 1) := by decide +kernel
theorem dX10_isSign_36 : decode cX10_isSign 36 = .ok (.goto 4, 3) := by decide +kernel
theorem dX10_isSign_39 : decode cX10_isSign 39 = .ok (.iconst 0, 1) := by decide +kernel
theorem dX10_isSign_40 : decode cX10_isSign 40 = .ok (.ireturn, 1) := by decide +kernel
theorem dX10_isWord_0 : decode cX10_isWord 0 = .ok (.aload_n 0, 1) := by decide +kernel
theorem dX10_isWord_1 : decode cX10_isWord 1 = .ok (.getfield 178, 3) := by decide +kernel
theorem dX10_isWord_4 : decode cX10_isWord 4 = .ok (.ifCond .ne 39, 3) := by decide +kernel
theorem dX10_isWord_7 : decode cX10_isWord 7 = .ok (.aload_n 0, 1) := by decide +kernel
theorem dX10_isWord_8 : decode cX10_isWord 8 = .ok (.getfield 24, 3) := by decide +kernel
theorem dX10_isWord_11 : decode cX10_isWord 11 = .ok (.aload_n 0, 1) := by decide +kernel
theorem dX10_isWord_12 : decode cX10_isWord 12 = .ok (.getfield 175, 3) := by decide +kernel
theorem dX10_isWord_15 : decode cX10_isWord 15 = .ok (.iaload, 1) := by decide +kernel
theorem dX10_isWord_16 : decode cX10_isWord 16 = .ok (.iconst 1, 1) := by decide +kernel
theorem dX10_isWord_17 : decode cX10_isWord 17 = .ok (.if_icmp .ne 26, 3) := by decide +kernel
theorem dX10_isWord_20 : decode cX10_isWord 20 = .ok (.aload_n 0, 1) := by decide +kernel
theorem dX10_isWord_21 : decode cX10_isWord 21 = .ok (.getfield 30, 3) := by decide +kernel
theorem dX10_isWord_24 : decode cX10_isWord 24 = .ok (.aload_n 0, 1) := by decide +kernel
theorem dX10_isWord_25 : decode cX10_isWord 25 = .ok (.getfield 175, 3) := by decide +kernel
theorem dX10_isWord_28 : decode cX10_isWord 28 = .ok (.laload, 1) := by decide +kernel
theorem dX10_isWord_29 : decode cX10_isWord 29 = .ok (.aload_n 0, 1) := by decide +kernel
theorem dX10_isWord_30 : decode cX10_isWord 30 = .ok (.getfield 52, 3) := by decide +kernel
theorem dX10_isWord_33 : decode cX10_isWord 33 = .ok (.iload_n 1, 1) := by decide +kernel
theorem dX10_isWord_34 : decode cX10_isWord 34 = .ok (.laload, 1) := by decide +kernel
theorem dX10_isWord_35 : decode cX10_isWord 35 = .ok (.lcmp, 1) := by decide +kernel
theorem dX10_isWord_36 : decode cX10_isWord 36 = .ok (.ifCond .ne 7, 3) := by decide +kernel
theorem dX10_isWord_39 : decode cX10_isWord 39 = .ok (.iconst 1, 1) := by decide +kernel
theorem dX10_isWord_40 : decode cX10_isWord 40 = .ok (.goto 4, 3) := by decide +kernel
theorem dX10_isWord_43 : decode cX10_isWord 43 = .ok (.iconst 0, 1) := by decide +kernel
theorem dX10_isWord_44 : decode cX10_isWord 44 = .ok (.ireturn, 1) := by decide +kernel
theorem dX10_takeSign_0 : decode cX10_takeSign 0 = .ok (.aload_n 0, 1) := by decide +kernel
theorem dX10_takeSign_1 : decode cX10_takeSign 1 = .ok (.iload_n 1, 1) := by decide +kernel
theorem dX10_takeSign_2 : decode cX10_takeSign 2 = .ok (.invokevirtual 181, 3) := by decide +kernel
theorem dX10_takeSign_5 : decode cX10_takeSign 5 = .ok (.ifCond .eq 16, 3) := by decide +kernel
theorem dX10_takeSign_8 : decode cX10_takeSign 8 = .ok (.aload_n 0, 1) := by decide +kernel
theorem dX10_takeSign_9 : decode cX10_takeSign 9 = .ok (.dup, 1) := by decide +kernel
theorem dX10_takeSign_10 : decode cX10_takeSign 10 = .ok (.getfield 175, 3) := by decide +kernel
theorem dX10_takeSign_13 : decode cX10_takeSign 13 = .ok (.iconst 1, 1) := by decide +kernel
theorem dX10_takeSign_14 : decode cX10_takeSign 14 = .ok (.iadd, 1) := by decide +kernel
theorem dX10_takeSign_15 : decode cX10_takeSign 15 = .ok (.putfield 175, 3) := by decide +kernel
theorem dX10_takeSign_18 : decode cX10_takeSign 18 = .ok (.goto 8, 3) := by decide +kernel
theorem dX10_takeSign_21 : decode cX10_takeSign 21 = .ok (.aload_n 0, 1) := by decide +kernel
theorem dX10_takeSign_22 : decode cX10_takeSign 22 = .ok (.iconst 1, 1) := by decide +kernel
theorem dX10_takeSign_23 : decode cX10_takeSign 23 = .ok (.invokevirtual 184, 3) := by decide +kernel
theorem dX10_takeSign_26 : decode cX10_takeSign 26 = .ok (.return_, 1) := by decide +kernel
theorem dX10_hasSign_0 : decode cX10_hasSign 0 = .ok (.aload_n 0, 1) := by decide +kernel
theorem dX10_hasSign_1 : decode cX10_hasSign 1 = .ok (.iload_n 1, 1) := by decide +kernel
theorem dX10_hasSign_2 : decode cX10_hasSign 2 = .ok (.invokevirtual 181, 3) := by decide +kernel
theorem dX10_hasSign_5 : decode cX10_hasSign 5 = .ok (.istore_n 2, 1) := by decide +kernel
theorem dX10_hasSign_6 : decode cX10_hasSign 6 = .ok (.aload_n 0, 1) := by decide +kernel
theorem dX10_hasSign_7 : decode cX10_hasSign 7 = .ok (.dup, 1) := by decide +kernel
theorem dX10_hasSign_8 : decode cX10_hasSign 8 = .ok (.getfield 175, 3) := by decide +kernel
theorem dX10_hasSign_11 : decode cX10_hasSign 11 = .ok (.iload_n 2, 1) := by decide +kernel
theorem dX10_hasSign_12 : decode cX10_hasSign 12 = .ok (.ifCond .eq 7, 3) := by decide +kernel
theorem dX10_hasSign_15 : decode cX10_hasSign 15 = .ok (.iconst 1, 1) := by decide +kernel
theorem dX10_hasSign_16 : decode cX10_hasSign 16 = .ok (.goto 4, 3) := by decide +kernel
theorem dX10_hasSign_19 : decode cX10_hasSign 19 = .ok (.iconst 0, 1) := by decide +kernel
theorem dX10_hasSign_20 : decode cX10_hasSign 20 = .ok (.iadd, 1) := by decide +kernel
theorem dX10_hasSign_21 : decode cX10_hasSign 21 = .ok (.putfield 175, 3) := by decide +kernel
theorem dX10_hasSign_24 : decode cX10_hasSign 24 = .ok (.iload_n 2, 1) := by decide +kernel
theorem dX10_hasSign_25 : decode cX10_hasSign 25 = .ok (.ireturn, 1) := by decide +kernel
theorem dX10_hasWord_0 : decode cX10_hasWord 0 = .ok (.aload_n 0, 1) := by decide +kernel
theorem dX10_hasWord_1 : decode cX10_hasWord 1 = .ok (.iload_n 1, 1) := by decide +kernel
theorem dX10_hasWord_2 : decode cX10_hasWord 2 = .ok (.invokevirtual 188, 3) := by decide +kernel
theorem dX10_hasWord_5 : decode cX10_hasWord 5 = .ok (.istore_n 2, 1) := by decide +kernel
theorem dX10_hasWord_6 : decode cX10_hasWord 6 = .ok (.aload_n 0, 1) := by decide +kernel
theorem dX10_hasWord_7 : decode cX10_hasWord 7 = .ok (.dup, 1) := by decide +kernel
theorem dX10_hasWord_8 : decode cX10_hasWord 8 = .ok (.getfield 175, 3) := by decide +kernel
theorem dX10_hasWord_11 : decode cX10_hasWord 11 = .ok (.iload_n 2, 1) := by decide +kernel
theorem dX10_hasWord_12 : decode cX10_hasWord 12 = .ok (.ifCond .eq 7, 3) := by decide +kernel
theorem dX10_hasWord_15 : decode cX10_hasWord 15 = .ok (.iconst 1, 1) := by decide +kernel
theorem dX10_hasWord_16 : decode cX10_hasWord 16 = .ok (.goto 4, 3) := by decide +kernel
theorem dX10_hasWord_19 : decode cX10_hasWord 19 = .ok (.iconst 0, 1) := by decide +kernel
theorem dX10_hasWord_20 : decode cX10_hasWord 20 = .ok (.iadd, 1) := by decide +kernel
theorem dX10_hasWord_21 : decode cX10_hasWord 21 = .ok (.putfield 175, 3) := by decide +kernel
theorem dX10_hasWord_24 : decode cX10_hasWord 24 = .ok (.iload_n 2, 1) := by decide +kernel
theorem dX10_hasWord_25 : decode cX10_hasWord 25 = .ok (.ireturn, 1) := by decide +kernel
theorem dX10_takeWord_0 : decode cX10_takeWord 0 = .ok (.aload_n 0, 1) := by decide +kernel
theorem dX10_takeWord_1 : decode cX10_takeWord 1 = .ok (.iload_n 1, 1) := by decide +kernel
theorem dX10_takeWord_2 : decode cX10_takeWord 2 = .ok (.invokevirtual 191, 3) := by decide +kernel
theorem dX10_takeWord_5 : decode cX10_takeWord 5 = .ok (.ifCond .ne 8, 3) := by decide +kernel
theorem dX10_takeWord_8 : decode cX10_takeWord 8 = .ok (.aload_n 0, 1) := by decide +kernel
theorem dX10_takeWord_9 : decode cX10_takeWord 9 = .ok (.iconst 1, 1) := by decide +kernel
theorem dX10_takeWord_10 : decode cX10_takeWord 10 = .ok (.invokevirtual 184, 3) := by decide +kernel
theorem dX10_takeWord_13 : decode cX10_takeWord 13 = .ok (.return_, 1) := by decide +kernel
theorem dX10_emit_0 : decode cX10_emit 0 = .ok (.aload_n 0, 1) := by decide +kernel
theorem dX10_emit_1 : decode cX10_emit 1 = .ok (.getfield 64, 3) := by decide +kernel
theorem dX10_emit_4 : decode cX10_emit 4 = .ok (.sipush 660, 3) := by decide +kernel
theorem dX10_emit_7 : decode cX10_emit 7 = .ok (.aload_n 0, 1) := by decide +kernel
theorem dX10_emit_8 : decode cX10_emit 8 = .ok (.getfield 194, 3) := by decide +kernel
theorem dX10_emit_11 : decode cX10_emit 11 = .ok (.imul, 1) := by decide +kernel
theorem dX10_emit_12 : decode cX10_emit 12 = .ok (.aload_n 0, 1) := by decide +kernel
theorem dX10_emit_13 : decode cX10_emit 13 = .ok (.getfield 197, 3) := by decide +kernel
theorem dX10_emit_16 : decode cX10_emit 16 = .ok (.iadd, 1) := by decide +kernel
theorem dX10_emit_17 : decode cX10_emit 17 = .ok (.iload_n 1, 1) := by decide +kernel
theorem dX10_emit_18 : decode cX10_emit 18 = .ok (.iastore, 1) := by decide +kernel
theorem dX10_emit_19 : decode cX10_emit 19 = .ok (.aload_n 0, 1) := by decide +kernel
theorem dX10_emit_20 : decode cX10_emit 20 = .ok (.getfield 67, 3) := by decide +kernel
theorem dX10_emit_23 : decode cX10_emit 23 = .ok (.sipush 660, 3) := by decide +kernel
theorem dX10_emit_26 : decode cX10_emit 26 = .ok (.aload_n 0, 1) := by decide +kernel
theorem dX10_emit_27 : decode cX10_emit 27 = .ok (.getfield 194, 3) := by decide +kernel
theorem dX10_emit_30 : decode cX10_emit 30 = .ok (.imul, 1) := by decide +kernel
theorem dX10_emit_31 : decode cX10_emit 31 = .ok (.aload_n 0, 1) := by decide +kernel
theorem dX10_emit_32 : decode cX10_emit 32 = .ok (.getfield 197, 3) := by decide +kernel
theorem dX10_emit_35 : decode cX10_emit 35 = .ok (.iadd, 1) := by decide +kernel
theorem dX10_emit_36 : decode cX10_emit 36 = .ok (.iload_n 2, 1) := by decide +kernel
theorem dX10_emit_37 : decode cX10_emit 37 = .ok (.iastore, 1) := by decide +kernel
theorem dX10_emit_38 : decode cX10_emit 38 = .ok (.aload_n 0, 1) := by decide +kernel
theorem dX10_emit_39 : decode cX10_emit 39 = .ok (.dup, 1) := by decide +kernel
theorem dX10_emit_40 : decode cX10_emit 40 = .ok (.getfield 197, 3) := by decide +kernel
theorem dX10_emit_43 : decode cX10_emit 43 = .ok (.iconst 1, 1) := by decide +kernel
theorem dX10_emit_44 : decode cX10_emit 44 = .ok (.iadd, 1) := by decide +kernel
theorem dX10_emit_45 : decode cX10_emit 45 = .ok (.putfield 197, 3) := by decide +kernel
theorem dX10_emit_48 : decode cX10_emit 48 = .ok (.return_, 1) := by decide +kernel
theorem dX10_text_0 : decode cX10_text 0 = .ok (.aload_n 0, 1) := by decide +kernel
theorem dX10_text_1 : decode cX10_text 1 = .ok (.iconst 0, 1) := by decide +kernel
theorem dX10_text_2 : decode cX10_text 2 = .ok (.putfield 1, 3) := by decide +kernel
theorem dX10_text_5 : decode cX10_text 5 = .ok (.aload_n 0, 1) := by decide +kernel
theorem dX10_text_6 : decode cX10_text 6 = .ok (.invokevirtual 200, 3) := by decide +kernel
theorem dX10_text_9 : decode cX10_text 9 = .ok (.aload_n 0, 1) := by decide +kernel
theorem dX10_text_10 : decode cX10_text 10 = .ok (.iconst 1, 1) := by decide +kernel
theorem dX10_text_11 : decode cX10_text 11 = .ok (.aload_n 0, 1) := by decide +kernel
theorem dX10_text_12 : decode cX10_text 12 = .ok (.getfield 203, 3) := by decide +kernel
theorem dX10_text_15 : decode cX10_text 15 = .ok (.isub, 1) := by decide +kernel
theorem dX10_text_16 : decode cX10_text 16 = .ok (.putfield 194, 3) := by decide +kernel
theorem dX10_text_19 : decode cX10_text 19 = .ok (.aload_n 0, 1) := by decide +kernel
theorem dX10_text_20 : decode cX10_text 20 = .ok (.getfield 55, 3) := by decide +kernel
theorem dX10_text_23 : decode cX10_text 23 = .ok (.aload_n 0, 1) := by decide +kernel
theorem dX10_text_24 : decode cX10_text 24 = .ok (.getfield 194, 3) := by decide +kernel
theorem dX10_text_27 : decode cX10_text 27 = .ok (.iconst 0, 1) := by decide +kernel
theorem dX10_text_28 : decode cX10_text 28 = .ok (.iastore, 1) := by decide +kernel
theorem dX10_text_29 : decode cX10_text 29 = .ok (.aload_n 0, 1) := by decide +kernel
theorem dX10_text_30 : decode cX10_text 30 = .ok (.iconst 0, 1) := by decide +kernel
theorem dX10_text_31 : decode cX10_text 31 = .ok (.putfield 197, 3) := by decide +kernel
theorem dX10_text_34 : decode cX10_text 34 = .ok (.aload_n 0, 1) := by decide +kernel
theorem dX10_text_35 : decode cX10_text 35 = .ok (.getfield 178, 3) := by decide +kernel
theorem dX10_text_38 : decode cX10_text 38 = .ok (.ifCond .ne 22, 3) := by decide +kernel
theorem dX10_text_41 : decode cX10_text 41 = .ok (.aload_n 0, 1) := by decide +kernel
theorem dX10_text_42 : decode cX10_text 42 = .ok (.getfield 24, 3) := by decide +kernel
theorem dX10_text_45 : decode cX10_text 45 = .ok (.aload_n 0, 1) := by decide +kernel
theorem dX10_text_46 : decode cX10_text 46 = .ok (.getfield 175, 3) := by decide +kernel
theorem dX10_text_49 : decode cX10_text 49 = .ok (.iaload, 1) := by decide +kernel
theorem dX10_text_50 : decode cX10_text 50 = .ok (.ifCond .eq 10, 3) := by decide +kernel
theorem dX10_text_53 : decode cX10_text 53 = .ok (.aload_n 0, 1) := by decide +kernel
theorem dX10_text_54 : decode cX10_text 54 = .ok (.invokevirtual 206, 3) := by decide +kernel
theorem dX10_text_57 : decode cX10_text 57 = .ok (.goto (-23), 3) := by decide +kernel
theorem dX10_text_60 : decode cX10_text 60 = .ok (.aload_n 0, 1) := by decide +kernel
theorem dX10_text_61 : decode cX10_text 61 = .ok (.getfield 178, 3) := by decide +kernel
theorem dX10_text_64 : decode cX10_text 64 = .ok (.ifCond .ne 11, 3) := by decide +kernel
theorem dX10_text_67 : decode cX10_text 67 = .ok (.aload_n 0, 1) := by decide +kernel
theorem dX10_text_68 : decode cX10_text 68 = .ok (.aload_n 0, 1) := by decide +kernel
theorem dX10_text_69 : decode cX10_text 69 = .ok (.getfield 194, 3) := by decide +kernel
theorem dX10_text_72 : decode cX10_text 72 = .ok (.putfield 203, 3) := by decide +kernel
theorem dX10_text_75 : decode cX10_text 75 = .ok (.aload_n 0, 1) := by decide +kernel
theorem dX10_text_76 : decode cX10_text 76 = .ok (.getfield 178, 3) := by decide +kernel
theorem dX10_text_79 : decode cX10_text 79 = .ok (.ireturn, 1) := by decide +kernel
theorem dX10_line_0 : decode cX10_line 0 = .ok (.aload_n 0, 1) := by decide +kernel
theorem dX10_line_1 : decode cX10_line 1 = .ok (.iconst 0, 1) := by decide +kernel
theorem dX10_line_2 : decode cX10_line 2 = .ok (.invokevirtual 188, 3) := by decide +kernel
theorem dX10_line_5 : decode cX10_line 5 = .ok (.ifCond .ne 11, 3) := by decide +kernel
theorem dX10_line_8 : decode cX10_line 8 = .ok (.aload_n 0, 1) := by decide +kernel
theorem dX10_line_9 : decode cX10_line 9 = .ok (.iconst 1, 1) := by decide +kernel
theorem dX10_line_10 : decode cX10_line 10 = .ok (.invokevirtual 184, 3) := by decide +kernel
theorem dX10_line_13 : decode cX10_line 13 = .ok (.goto 22, 3) := by decide +kernel
theorem dX10_line_16 : decode cX10_line 16 = .ok (.aload_n 0, 1) := by decide +kernel
theorem dX10_line_17 : decode cX10_line 17 = .ok (.getfield 55, 3) := by decide +kernel
theorem dX10_line_20 : decode cX10_line 20 = .ok (.aload_n 0, 1) := by decide +kernel
theorem dX10_line_21 : decode cX10_line 21 = .ok (.getfield 194, 3) := by decide +kernel
theorem dX10_line_24 : decode cX10_line 24 = .ok (.iaload, 1) := by decide +kernel
theorem dX10_line_25 : decode cX10_line 25 = .ok (.bipush 16, 2) := by decide +kernel
theorem dX10_line_27 : decode cX10_line 27 = .ok (.if_icmp .ne 8, 3) := by decide +kernel
theorem dX10_line_30 : decode cX10_line 30 = .ok (.aload_n 0, 1) := by decide +kernel
theorem dX10_line_31 : decode cX10_line 31 = .ok (.iconst 5, 1) := by decide +kernel
theorem dX10_line_32 : decode cX10_line 32 = .ok (.invokevirtual 184, 3) := by decide +kernel
theorem dX10_line_35 : decode cX10_line 35 = .ok (.aload_n 0, 1) := by decide +kernel
theorem dX10_line_36 : decode cX10_line 36 = .ok (.getfield 178, 3) := by decide +kernel
theorem dX10_line_39 : decode cX10_line 39 = .ok (.ifCond .le 4, 3) := by decide +kernel
theorem dX10_line_42 : decode cX10_line 42 = .ok (.return_, 1) := by decide +kernel
theorem dX10_line_43 : decode cX10_line 43 = .ok (.aload_n 0, 1) := by decide +kernel
theorem dX10_line_44 : decode cX10_line 44 = .ok (.dup, 1) := by decide +kernel
theorem dX10_line_45 : decode cX10_line 45 = .ok (.getfield 175, 3) := by decide +kernel
theorem dX10_line_48 : decode cX10_line 48 = .ok (.iconst 1, 1) := by decide +kernel
theorem dX10_line_49 : decode cX10_line 49 = .ok (.iadd, 1) := by decide +kernel
theorem dX10_line_50 : decode cX10_line 50 = .ok (.putfield 175, 3) := by decide +kernel
theorem dX10_line_53 : decode cX10_line 53 = .ok (.bipush 16, 2) := by decide +kernel
theorem dX10_line_55 : decode cX10_line 55 = .ok (.aload_n 0, 1) := by decide +kernel
theorem dX10_line_56 : decode cX10_line 56 = .ok (.getfield 194, 3) := by decide +kernel
theorem dX10_line_59 : decode cX10_line 59 = .ok (.imul, 1) := by decide +kernel
theorem dX10_line_60 : decode cX10_line 60 = .ok (.aload_n 0, 1) := by decide +kernel
theorem dX10_line_61 : decode cX10_line 61 = .ok (.getfield 55, 3) := by decide +kernel
theorem dX10_line_64 : decode cX10_line 64 = .ok (.aload_n 0, 1) := by decide +kernel
theorem dX10_line_65 : decode cX10_line 65 = .ok (.getfield 194, 3) := by decide +kernel
theorem dX10_line_68 : decode cX10_line 68 = .ok (.iaload, 1) := by decide +kernel
theorem dX10_line_69 : decode cX10_line 69 = .ok (.iadd, 1) := by decide +kernel
theorem dX10_line_70 : decode cX10_line 70 = .ok (.istore_n 1, 1) := by decide +kernel
theorem dX10_line_71 : decode cX10_line 71 = .ok (.aload_n 0, 1) := by decide +kernel
theorem dX10_line_72 : decode cX10_line 72 = .ok (.getfield 24, 3) := by decide +kernel
theorem dX10_line_75 : decode cX10_line 75 = .ok (.aload_n 0, 1) := by decide +kernel
theorem dX10_line_76 : decode cX10_line 76 = .ok (.getfield 175, 3) := by decide +kernel
theorem dX10_line_79 : decode cX10_line 79 = .ok (.iaload, 1) := by decide +kernel
theorem dX10_line_80 : decode cX10_line 80 = .ok (.iconst 2, 1) := by decide +kernel
theorem dX10_line_81 : decode cX10_line 81 = .ok (.if_icmp .eq 11, 3) := by decide +kernel
theorem dX10_line_84 : decode cX10_line 84 = .ok (.aload_n 0, 1) := by decide +kernel
theorem dX10_line_85 : decode cX10_line 85 = .ok (.iconst 1, 1) := by decide +kernel
theorem dX10_line_86 : decode cX10_line 86 = .ok (.invokevirtual 184, 3) := by decide +kernel
theorem dX10_line_89 : decode cX10_line 89 = .ok (.goto 24, 3) := by decide +kernel
theorem dX10_line_92 : decode cX10_line 92 = .ok (.aload_n 0, 1) := by decide +kernel
theorem dX10_line_93 : decode cX10_line 93 = .ok (.getfield 30, 3) := by decide +kernel
theorem dX10_line_96 : decode cX10_line 96 = .ok (.aload_n 0, 1) := by decide +kernel
theorem dX10_line_97 : decode cX10_line 97 = .ok (.getfield 175, 3) := by decide +kernel
theorem dX10_line_100 : decode cX10_line 100 = .ok (.laload, 1) := by decide +kernel
theorem dX10_line_101 : decode cX10_line 101 = .ok (.ldc2_w 209, 3) := by decide +kernel
theorem dX10_line_104 : decode cX10_line 104 = .ok (.lcmp, 1) := by decide +kernel
theorem dX10_line_105 : decode cX10_line 105 = .ok (.ifCond .le 8, 3) := by decide +kernel
theorem dX10_line_108 : decode cX10_line 108 = .ok (.aload_n 0, 1) := by decide +kernel
theorem dX10_line_109 : decode cX10_line 109 = .ok (.iconst 4, 1) := by decide +kernel
theorem dX10_line_110 : decode cX10_line 110 = .ok (.invokevirtual 184, 3) := by decide +kernel
theorem dX10_line_113 : decode cX10_line 113 = .ok (.aload_n 0, 1) := by decide +kernel
theorem dX10_line_114 : decode cX10_line 114 = .ok (.getfield 58, 3) := by decide +kernel
theorem dX10_line_117 : decode cX10_line 117 = .ok (.iload_n 1, 1) := by decide +kernel
theorem dX10_line_118 : decode cX10_line 118 = .ok (.aload_n 0, 1) := by decide +kernel
theorem dX10_line_119 : decode cX10_line 119 = .ok (.getfield 178, 3) := by decide +kernel
theorem dX10_line_122 : decode cX10_line 122 = .ok (.ifCond .le 7, 3) := by decide +kernel
theorem dX10_line_125 : decode cX10_line 125 = .ok (.iconst 0, 1) := by decide +kernel
theorem dX10_line_126 : decode cX10_line 126 = .ok (.goto 13, 3) := by decide +kernel
theorem dX10_line_129 : decode cX10_line 129 = .ok (.aload_n 0, 1) := by decide +kernel
theorem dX10_line_130 : decode cX10_line 130 = .ok (.getfield 30, 3) := by decide +kernel
theorem dX10_line_133 : decode cX10_line 133 = .ok (.aload_n 0, 1) := by decide +kernel
theorem dX10_line_134 : decode cX10_line 134 = .ok (.getfield 175, 3) := by decide +kernel
theorem dX10_line_137 : decode cX10_line 137 = .ok (.laload, 1) := by decide +kernel
theorem dX10_line_138 : decode cX10_line 138 = .ok (.l2i, 1) := by decide +kernel
theorem dX10_line_139 : decode cX10_line 139 = .ok (.iastore, 1) := by decide +kernel
theorem dX10_line_140 : decode cX10_line 140 = .ok (.aload_n 0, 1) := by decide +kernel
theorem dX10_line_141 : decode cX10_line 141 = .ok (.dup, 1) := by decide +kernel
theorem dX10_line_142 : decode cX10_line 142 = .ok (.getfield 175, 3) := by decide +kernel
theorem dX10_line_145 : decode cX10_line 145 = .ok (.iconst 1, 1) := by decide +kernel
theorem dX10_line_146 : decode cX10_line 146 = .ok (.iadd, 1) := by decide +kernel
theorem dX10_line_147 : decode cX10_line 147 = .ok (.putfield 175, 3) := by decide +kernel
theorem dX10_line_150 : decode cX10_line 150 = .ok (.aload_n 0, 1) := by decide +kernel
theorem dX10_line_151 : decode cX10_line 151 = .ok (.iconst 1, 1) := by decide +kernel
theorem dX10_line_152 : decode cX10_line 152 = .ok (.invokevirtual 211, 3) := by decide +kernel
theorem dX10_line_155 : decode cX10_line 155 = .ok (.aload_n 0, 1) := by decide +kernel
theorem dX10_line_156 : decode cX10_line 156 = .ok (.getfield 61, 3) := by decide +kernel
theorem dX10_line_159 : decode cX10_line 159 = .ok (.iload_n 1, 1) := by decide +kernel
theorem dX10_line_160 : decode cX10_line 160 = .ok (.sipush 660, 3) := by decide +kernel
theorem dX10_line_163 : decode cX10_line 163 = .ok (.aload_n 0, 1) := by decide +kernel
theorem dX10_line_164 : decode cX10_line 164 = .ok (.getfield 194, 3) := by decide +kernel
theorem dX10_line_167 : decode cX10_line 167 = .ok (.imul, 1) := by decide +kernel
theorem dX10_line_168 : decode cX10_line 168 = .ok (.aload_n 0, 1) := by decide +kernel
theorem dX10_line_169 : decode cX10_line 169 = .ok (.getfield 197, 3) := by decide +kernel
theorem dX10_line_172 : decode cX10_line 172 = .ok (.iadd, 1) := by decide +kernel
theorem dX10_line_173 : decode cX10_line 173 = .ok (.iastore, 1) := by decide +kernel
theorem dX10_line_174 : decode cX10_line 174 = .ok (.aload_n 0, 1) := by decide +kernel
theorem dX10_line_175 : decode cX10_line 175 = .ok (.iconst 0, 1) := by decide +kernel
theorem dX10_line_176 : decode cX10_line 176 = .ok (.putfield 214, 3) := by decide +kernel
theorem dX10_line_179 : decode cX10_line 179 = .ok (.aload_n 0, 1) := by decide +kernel
theorem dX10_line_180 : decode cX10_line 180 = .ok (.invokevirtual 217, 3) := by decide +kernel
theorem dX10_line_183 : decode cX10_line 183 = .ok (.iconst 1, 1) := by decide +kernel
theorem dX10_line_184 : decode cX10_line 184 = .ok (.istore_n 2, 1) := by decide +kernel
theorem dX10_line_185 : decode cX10_line 185 = .ok (.iload_n 2, 1) := by decide +kernel
theorem dX10_line_186 : decode cX10_line 186 = .ok (.ifCond .eq 33, 3) := by decide +kernel
theorem dX10_line_189 : decode cX10_line 189 = .ok (.aload_n 0, 1) := by decide +kernel
theorem dX10_line_190 : decode cX10_line 190 = .ok (.getfield 178, 3) := by decide +kernel
theorem dX10_line_193 : decode cX10_line 193 = .ok (.ifCond .ne 26, 3) := by decide +kernel
theorem dX10_line_196 : decode cX10_line 196 = .ok (.aload_n 0, 1) := by decide +kernel
theorem dX10_line_197 : decode cX10_line 197 = .ok (.invokevirtual 220, 3) := by decide +kernel
theorem dX10_line_200 : decode cX10_line 200 = .ok (.ifCond .ne 10, 3) := by decide +kernel
theorem dX10_line_203 : decode cX10_line 203 = .ok (.aload_n 0, 1) := by decide +kernel
theorem dX10_line_204 : decode cX10_line 204 = .ok (.invokevirtual 224, 3) := by decide +kernel
theorem dX10_line_207 : decode cX10_line 207 = .ok (.ifCond .eq 7, 3) := by decide +kernel
theorem dX10_line_210 : decode cX10_line 210 = .ok (.iconst 1, 1) := by decide +kernel
theorem dX10_line_211 : decode cX10_line 211 = .ok (.goto 4, 3) := by decide +kernel
theorem dX10_line_214 : decode cX10_line 214 = .ok (.iconst 0, 1) := by decide +kernel
theorem dX10_line_215 : decode cX10_line 215 = .ok (.istore_n 2, 1) := by decide +kernel
theorem dX10_line_216 : decode cX10_line 216 = .ok (.goto (-31), 3) := by decide +kernel
theorem dX10_line_219 : decode cX10_line 219 = .ok (.aload_n 0, 1) := by decide +kernel
theorem dX10_line_220 : decode cX10_line 220 = .ok (.iconst 0, 1) := by decide +kernel
theorem dX10_line_221 : decode cX10_line 221 = .ok (.iconst 0, 1) := by decide +kernel
theorem dX10_line_222 : decode cX10_line 222 = .ok (.invokevirtual 227, 3) := by decide +kernel
theorem dX10_line_225 : decode cX10_line 225 = .ok (.aload_n 0, 1) := by decide +kernel
theorem dX10_line_226 : decode cX10_line 226 = .ok (.bipush 59, 2) := by decide +kernel
theorem dX10_line_228 : decode cX10_line 228 = .ok (.invokevirtual 231, 3) := by decide +kernel
theorem dX10_line_231 : decode cX10_line 231 = .ok (.aload_n 0, 1) := by decide +kernel
theorem dX10_line_232 : decode cX10_line 232 = .ok (.getfield 55, 3) := by decide +kernel
theorem dX10_line_235 : decode cX10_line 235 = .ok (.aload_n 0, 1) := by decide +kernel
theorem dX10_line_236 : decode cX10_line 236 = .ok (.getfield 194, 3) := by decide +kernel
theorem dX10_line_239 : decode cX10_line 239 = .ok (.dup2, 1) := by decide +kernel
theorem dX10_line_240 : decode cX10_line 240 = .ok (.iaload, 1) := by decide +kernel
theorem dX10_line_241 : decode cX10_line 241 = .ok (.iconst 1, 1) := by decide +kernel
theorem dX10_line_242 : decode cX10_line 242 = .ok (.iadd, 1) := by decide +kernel
theorem dX10_line_243 : decode cX10_line 243 = .ok (.iastore, 1) := by decide +kernel
theorem dX10_line_244 : decode cX10_line 244 = .ok (.return_, 1) := by decide +kernel
theorem dX10_opens_0 : decode cX10_opens 0 = .ok (.aload_n 0, 1) := by decide +kernel
theorem dX10_opens_1 : decode cX10_opens 1 = .ok (.getfield 70, 3) := by decide +kernel
theorem dX10_opens_4 : decode cX10_opens 4 = .ok (.aload_n 0, 1) := by decide +kernel
theorem dX10_opens_5 : decode cX10_opens 5 = .ok (.getfield 214, 3) := by decide +kernel
theorem dX10_opens_8 : decode cX10_opens 8 = .ok (.iconst 0, 1) := by decide +kernel
theorem dX10_opens_9 : decode cX10_opens 9 = .ok (.iastore, 1) := by decide +kernel
theorem dX10_opens_10 : decode cX10_opens 10 = .ok (.aload_n 0, 1) := by decide +kernel
theorem dX10_opens_11 : decode cX10_opens 11 = .ok (.getfield 73, 3) := by decide +kernel
theorem dX10_opens_14 : decode cX10_opens 14 = .ok (.aload_n 0, 1) := by decide +kernel
theorem dX10_opens_15 : decode cX10_opens 15 = .ok (.getfield 214, 3) := by decide +kernel
theorem dX10_opens_18 : decode cX10_opens 18 = .ok (.iconst 0, 1) := by decide +kernel
theorem dX10_opens_19 : decode cX10_opens 19 = .ok (.iastore, 1) := by decide +kernel
theorem dX10_opens_20 : decode cX10_opens 20 = .ok (.aload_n 0, 1) := by decide +kernel
theorem dX10_opens_21 : decode cX10_opens 21 = .ok (.getfield 76, 3) := by decide +kernel
theorem dX10_opens_24 : decode cX10_opens 24 = .ok (.aload_n 0, 1) := by decide +kernel
theorem dX10_opens_25 : decode cX10_opens 25 = .ok (.getfield 214, 3) := by decide +kernel
theorem dX10_opens_28 : decode cX10_opens 28 = .ok (.iconst 0, 1) := by decide +kernel
theorem dX10_opens_29 : decode cX10_opens 29 = .ok (.iastore, 1) := by decide +kernel
theorem dX10_opens_30 : decode cX10_opens 30 = .ok (.return_, 1) := by decide +kernel
theorem dX10_partWord_0 : decode cX10_partWord 0 = .ok (.iconst 0, 1) := by decide +kernel
theorem dX10_partWord_1 : decode cX10_partWord 1 = .ok (.istore_n 1, 1) := by decide +kernel
theorem dX10_partWord_2 : decode cX10_partWord 2 = .ok (.iload_n 1, 1) := by decide +kernel
theorem dX10_partWord_3 : decode cX10_partWord 3 = .ok (.bipush 6, 2) := by decide +kernel
theorem dX10_partWord_5 : decode cX10_partWord 5 = .ok (.if_icmp .ge 21, 3) := by decide +kernel
theorem dX10_partWord_8 : decode cX10_partWord 8 = .ok (.aload_n 0, 1) := by decide +kernel
theorem dX10_partWord_9 : decode cX10_partWord 9 = .ok (.iconst 3, 1) := by decide +kernel
theorem dX10_partWord_10 : decode cX10_partWord 10 = .ok (.iload_n 1, 1) := by decide +kernel
theorem dX10_partWord_11 : decode cX10_partWord 11 = .ok (.iadd, 1) := by decide +kernel
theorem dX10_partWord_12 : decode cX10_partWord 12 = .ok (.invokevirtual 188, 3) := by decide +kernel
theorem dX10_partWord_15 : decode cX10_partWord 15 = .ok (.ifCond .eq 5, 3) := by decide +kernel
theorem dX10_partWord_18 : decode cX10_partWord 18 = .ok (.iload_n 1, 1) := by decide +kernel
theorem dX10_partWord_19 : decode cX10_partWord 19 = .ok (.ireturn, 1) := by decide +kernel
theorem dX10_partWord_20 : decode cX10_partWord 20 = .ok (.iinc 1 1, 3) := by decide +kernel
theorem dX10_partWord_23 : decode cX10_partWord 23 = .ok (.goto (-21), 3) := by decide +kernel
theorem dX10_partWord_26 : decode cX10_partWord 26 = .ok (.iconst (-1), 1) := by decide +kernel
theorem dX10_partWord_27 : decode cX10_partWord 27 = .ok (.ireturn, 1) := by decide +kernel
theorem dX10_part_0 : decode cX10_part 0 = .ok (.aload_n 0, 1) := by decide +kernel
theorem dX10_part_1 : decode cX10_part 1 = .ok (.invokevirtual 234, 3) := by decide +kernel
theorem dX10_part_4 : decode cX10_part 4 = .ok (.istore_n 1, 1) := by decide +kernel
theorem dX10_part_5 : decode cX10_part 5 = .ok (.aload_n 0, 1) := by decide +kernel
theorem dX10_part_6 : decode cX10_part 6 = .ok (.getfield 178, 3) := by decide +kernel
theorem dX10_part_9 : decode cX10_part 9 = .ok (.ifCond .ne 37, 3) := by decide +kernel
theorem dX10_part_12 : decode cX10_part 12 = .ok (.aload_n 0, 1) := by decide +kernel
theorem dX10_part_13 : decode cX10_part 13 = .ok (.getfield 24, 3) := by decide +kernel
theorem dX10_part_16 : decode cX10_part 16 = .ok (.aload_n 0, 1) := by decide +kernel
theorem dX10_part_17 : decode cX10_part 17 = .ok (.getfield 175, 3) := by decide +kernel
theorem dX10_part_20 : decode cX10_part 20 = .ok (.iaload, 1) := by decide +kernel
theorem dX10_part_21 : decode cX10_part 21 = .ok (.iconst 2, 1) := by decide +kernel
theorem dX10_part_22 : decode cX10_part 22 = .ok (.if_icmp .eq 24, 3) := by decide +kernel
theorem dX10_part_25 : decode cX10_part 25 = .ok (.aload_n 0, 1) := by decide +kernel
theorem dX10_part_26 : decode cX10_part 26 = .ok (.bipush 40, 2) := by decide +kernel
theorem dX10_part_28 : decode cX10_part 28 = .ok (.invokevirtual 181, 3) := by decide +kernel
theorem dX10_part_31 : decode cX10_part 31 = .ok (.ifCond .ne 15, 3) := by decide +kernel
theorem dX10_part_34 : decode cX10_part 34 = .ok (.iload_n 1, 1) := by decide +kernel
theorem dX10_part_35 : decode cX10_part 35 = .ok (.ifCond .ge 11, 3) := by decide +kernel
theorem dX10_part_38 : decode cX10_part 38 = .ok (.aload_n 0, 1) := by decide +kernel
theorem dX10_part_39 : decode cX10_part 39 = .ok (.iconst 1, 1) := by decide +kernel
theorem dX10_part_40 : decode cX10_part 40 = .ok (.invokevirtual 184, 3) := by decide +kernel
theorem dX10_part_43 : decode cX10_part 43 = .ok (.goto 16, 3) := by decide +kernel
theorem dX10_part_46 : decode cX10_part 46 = .ok (.aload_n 0, 1) := by decide +kernel
theorem dX10_part_47 : decode cX10_part 47 = .ok (.getfield 214, 3) := by decide +kernel
theorem dX10_part_50 : decode cX10_part 50 = .ok (.iconst 5, 1) := by decide +kernel
theorem dX10_part_51 : decode cX10_part 51 = .ok (.if_icmp .ne 8, 3) := by decide +kernel
theorem dX10_part_54 : decode cX10_part 54 = .ok (.aload_n 0, 1) := by decide +kernel
theorem dX10_part_55 : decode cX10_part 55 = .ok (.iconst 5, 1) := by decide +kernel
theorem dX10_part_56 : decode cX10_part 56 = .ok (.invokevirtual 184, 3) := by decide +kernel
theorem dX10_part_59 : decode cX10_part 59 = .ok (.aload_n 0, 1) := by decide +kernel
theorem dX10_part_60 : decode cX10_part 60 = .ok (.getfield 178, 3) := by decide +kernel
theorem dX10_part_63 : decode cX10_part 63 = .ok (.ifCond .le 5, 3) := by decide +kernel
theorem dX10_part_66 : decode cX10_part 66 = .ok (.iconst 0, 1) := by decide +kernel
theorem dX10_part_67 : decode cX10_part 67 = .ok (.ireturn, 1) := by decide +kernel
theorem dX10_part_68 : decode cX10_part 68 = .ok (.aload_n 0, 1) := by decide +kernel
theorem dX10_part_69 : decode cX10_part 69 = .ok (.bipush 40, 2) := by decide +kernel
theorem dX10_part_71 : decode cX10_part 71 = .ok (.invokevirtual 238, 3) := by decide +kernel
theorem dX10_part_74 : decode cX10_part 74 = .ok (.ifCond .eq 19, 3) := by decide +kernel
theorem dX10_part_77 : decode cX10_part 77 = .ok (.aload_n 0, 1) := by decide +kernel
theorem dX10_part_78 : decode cX10_part 78 = .ok (.dup, 1) := by decide +kernel
theorem dX10_part_79 : decode cX10_part 79 = .ok (.getfield 214, 3) := by decide +kernel
theorem dX10_part_82 : decode cX10_part 82 = .ok (.iconst 1, 1) := by decide +kernel
theorem dX10_part_83 : decode cX10_part 83 = .ok (.iadd, 1) := by decide +kernel
theorem dX10_part_84 : decode cX10_part 84 = .ok (.putfield 214, 3) := by decide +kernel
theorem dX10_part_87 : decode cX10_part 87 = .ok (.aload_n 0, 1) := by decide +kernel
theorem dX10_part_88 : decode cX10_part 88 = .ok (.invokevirtual 217, 3) := by decide +kernel
theorem dX10_part_91 : decode cX10_part 91 = .ok (.iconst 1, 1) := by decide +kernel
theorem dX10_part_92 : decode cX10_part 92 = .ok (.ireturn, 1) := by decide +kernel
theorem dX10_part_93 : decode cX10_part 93 = .ok (.aload_n 0, 1) := by decide +kernel
theorem dX10_part_94 : decode cX10_part 94 = .ok (.iload_n 1, 1) := by decide +kernel
theorem dX10_part_95 : decode cX10_part 95 = .ok (.ifCond .ge 7, 3) := by decide +kernel
theorem dX10_part_98 : decode cX10_part 98 = .ok (.iconst 1, 1) := by decide +kernel
theorem dX10_part_99 : decode cX10_part 99 = .ok (.goto 4, 3) := by decide +kernel
theorem dX10_part_102 : decode cX10_part 102 = .ok (.iconst 2, 1) := by decide +kernel
theorem dX10_part_103 : decode cX10_part 103 = .ok (.iload_n 1, 1) := by decide +kernel
theorem dX10_part_104 : decode cX10_part 104 = .ok (.ifCond .ge 16, 3) := by decide +kernel
theorem dX10_part_107 : decode cX10_part 107 = .ok (.aload_n 0, 1) := by decide +kernel
theorem dX10_part_108 : decode cX10_part 108 = .ok (.getfield 30, 3) := by decide +kernel
theorem dX10_part_111 : decode cX10_part 111 = .ok (.aload_n 0, 1) := by decide +kernel
theorem dX10_part_112 : decode cX10_part 112 = .ok (.getfield 175, 3) := by decide +kernel
theorem dX10_part_115 : decode cX10_part 115 = .ok (.laload, 1) := by decide +kernel
theorem dX10_part_116 : decode cX10_part 116 = .ok (.l2i, 1) := by decide +kernel
theorem dX10_part_117 : decode cX10_part 117 = .ok (.goto 4, 3) := by decide +kernel
theorem dX10_part_120 : decode cX10_part 120 = .ok (.iload_n 1, 1) := by decide +kernel
theorem dX10_part_121 : decode cX10_part 121 = .ok (.invokevirtual 227, 3) := by decide +kernel
theorem dX10_part_124 : decode cX10_part 124 = .ok (.aload_n 0, 1) := by decide +kernel
theorem dX10_part_125 : decode cX10_part 125 = .ok (.dup, 1) := by decide +kernel
theorem dX10_part_126 : decode cX10_part 126 = .ok (.getfield 175, 3) := by decide +kernel
theorem dX10_part_129 : decode cX10_part 129 = .ok (.iconst 1, 1) := by decide +kernel
theorem dX10_part_130 : decode cX10_part 130 = .ok (.iadd, 1) := by decide +kernel
theorem dX10_part_131 : decode cX10_part 131 = .ok (.putfield 175, 3) := by decide +kernel
theorem dX10_part_134 : decode cX10_part 134 = .ok (.iconst 0, 1) := by decide +kernel
theorem dX10_part_135 : decode cX10_part 135 = .ok (.ireturn, 1) := by decide +kernel
theorem dX10_goesOnBehind_0 : decode cX10_goesOnBehind 0 = .ok (.aload_n 0, 1) := by decide +kernel
theorem dX10_goesOnBehind_1 : decode cX10_goesOnBehind 1 = .ok (.getfield 178, 3) := by decide +kernel
theorem dX10_goesOnBehind_4 : decode cX10_goesOnBehind 4 = .ok (.ifCond .ne 273, 3) := by decide +kernel
theorem dX10_goesOnBehind_7 : decode cX10_goesOnBehind 7 = .ok (.aload_n 0, 1) := by decide +kernel
theorem dX10_goesOnBehind_8 : decode cX10_goesOnBehind 8 = .ok (.getfield 70, 3) := by decide +kernel
theorem dX10_goesOnBehind_11 : decode cX10_goesOnBehind 11 = .ok (.aload_n 0, 1) := by decide +kernel
theorem dX10_goesOnBehind_12 : decode cX10_goesOnBehind 12 = .ok (.getfield 214, 3) := by decide +kernel
theorem dX10_goesOnBehind_15 : decode cX10_goesOnBehind 15 = .ok (.iaload, 1) := by decide +kernel
theorem dX10_goesOnBehind_16 : decode cX10_goesOnBehind 16 = .ok (.ifCond .eq 27, 3) := by decide +kernel
theorem dX10_goesOnBehind_19 : decode cX10_goesOnBehind 19 = .ok (.aload_n 0, 1) := by decide +kernel
theorem dX10_goesOnBehind_20 : decode cX10_goesOnBehind 20 = .ok (.aload_n 0, 1) := by decide +kernel
theorem dX10_goesOnBehind_21 : decode cX10_goesOnBehind 21 = .ok (.getfield 70, 3) := by decide +kernel
theorem dX10_goesOnBehind_24 : decode cX10_goesOnBehind 24 = .ok (.aload_n 0, 1) := by decide +kernel
theorem dX10_goesOnBehind_25 : decode cX10_goesOnBehind 25 = .ok (.getfield 214, 3) := by decide +kernel
theorem dX10_goesOnBehind_28 : decode cX10_goesOnBehind 28 = .ok (.iaload, 1) := by decide +kernel
theorem dX10_goesOnBehind_29 : decode cX10_goesOnBehind 29 = .ok (.iconst 0, 1) := by decide +kernel
theorem dX10_goesOnBehind_30 : decode cX10_goesOnBehind 30 = .ok (.invokevirtual 227, 3) := by decide +kernel
theorem dX10_goesOnBehind_33 : decode cX10_goesOnBehind 33 = .ok (.aload_n 0, 1) := by decide +kernel
theorem dX10_goesOnBehind_34 : decode cX10_goesOnBehind 34 = .ok (.getfield 70, 3) := by decide +kernel
theorem dX10_goesOnBehind_37 : decode cX10_goesOnBehind 37 = .ok (.aload_n 0, 1) := by decide +kernel
theorem dX10_goesOnBehind_38 : decode cX10_goesOnBehind 38 = .ok (.getfield 214, 3) := by decide +kernel
theorem dX10_goesOnBehind_41 : decode cX10_goesOnBehind 41 = .ok (.iconst 0, 1) := by decide +kernel
theorem dX10_goesOnBehind_42 : decode cX10_goesOnBehind 42 = .ok (.iastore, 1) := by decide +kernel
theorem dX10_goesOnBehind_43 : decode cX10_goesOnBehind 43 = .ok (.aload_n 0, 1) := by decide +kernel
theorem dX10_goesOnBehind_44 : decode cX10_goesOnBehind 44 = .ok (.bipush 43, 2) := by decide +kernel
theorem dX10_goesOnBehind_46 : decode cX10_goesOnBehind 46 = .ok (.invokevirtual 181, 3) := by decide +kernel
theorem dX10_goesOnBehind_49 : decode cX10_goesOnBehind 49 = .ok (.ifCond .ne 12, 3) := by decide +kernel
theorem dX10_goesOnBehind_52 : decode cX10_goesOnBehind 52 = .ok (.aload_n 0, 1) := by decide +kernel
theorem dX10_goesOnBehind_53 : decode cX10_goesOnBehind 53 = .ok (.bipush 45, 2) := by decide +kernel
theorem dX10_goesOnBehind_55 : decode cX10_goesOnBehind 55 = .ok (.invokevirtual 181, 3) := by decide +kernel
theorem dX10_goesOnBehind_58 : decode cX10_goesOnBehind 58 = .ok (.ifCond .eq 38, 3) := by decide +kernel
theorem dX10_goesOnBehind_61 : decode cX10_goesOnBehind 61 = .ok (.aload_n 0, 1) := by decide +kernel
theorem dX10_goesOnBehind_62 : decode cX10_goesOnBehind 62 = .ok (.getfield 70, 3) := by decide +kernel
theorem dX10_goesOnBehind_65 : decode cX10_goesOnBehind 65 = .ok (.aload_n 0, 1) := by decide +kernel
theorem dX10_goesOnBehind_66 : decode cX10_goesOnBehind 66 = .ok (.getfield 214, 3) := by decide +kernel
theorem dX10_goesOnBehind_69 : decode cX10_goesOnBehind 69 = .ok (.aload_n 0, 1) := by decide +kernel
theorem dX10_goesOnBehind_70 : decode cX10_goesOnBehind 70 = .ok (.bipush 43, 2) := by decide +kernel
theorem dX10_goesOnBehind_72 : decode cX10_goesOnBehind 72 = .ok (.invokevirtual 181, 3) := by decide +kernel
theorem dX10_goesOnBehind_75 : decode cX10_goesOnBehind 75 = .ok (.ifCond .eq 7, 3) := by decide +kernel
theorem dX10_goesOnBehind_78 : decode cX10_goesOnBehind 78 = .ok (.iconst 3, 1) := by decide +kernel
theorem dX10_goesOnBehind_79 : decode cX10_goesOnBehind 79 = .ok (.goto 4, 3) := by decide +kernel
theorem dX10_goesOnBehind_82 : decode cX10_goesOnBehind 82 = .ok (.iconst 4, 1) := by decide +kernel
theorem dX10_goesOnBehind_83 : decode cX10_goesOnBehind 83 = .ok (.iastore, 1) := by decide +kernel
theorem dX10_goesOnBehind_84 : decode cX10_goesOnBehind 84 = .ok (.aload_n 0, 1) := by decide +kernel
theorem dX10_goesOnBehind_85 : decode cX10_goesOnBehind 85 = .ok (.dup, 1) := by decide +kernel
theorem dX10_goesOnBehind_86 : decode cX10_goesOnBehind 86 = .ok (.getfield 175, 3) := by decide +kernel
theorem dX10_goesOnBehind_89 : decode cX10_goesOnBehind 89 = .ok (.iconst 1, 1) := by decide +kernel
theorem dX10_goesOnBehind_90 : decode cX10_goesOnBehind 90 = .ok (.iadd, 1) := by decide +kernel
theorem dX10_goesOnBehind_91 : decode cX10_goesOnBehind 91 = .ok (.putfield 175, 3) := by decide +kernel
theorem dX10_goesOnBehind_94 : decode cX10_goesOnBehind 94 = .ok (.iconst 1, 1) := by decide +kernel
theorem dX10_goesOnBehind_95 : decode cX10_goesOnBehind 95 = .ok (.ireturn, 1) := by decide +kernel
theorem dX10_goesOnBehind_96 : decode cX10_goesOnBehind 96 = .ok (.aload_n 0, 1) := by decide +kernel
theorem dX10_goesOnBehind_97 : decode cX10_goesOnBehind 97 = .ok (.getfield 73, 3) := by decide +kernel
theorem dX10_goesOnBehind_100 : decode cX10_goesOnBehind 100 = .ok (.aload_n 0, 1) := by decide +kernel
theorem dX10_goesOnBehind_101 : decode cX10_goesOnBehind 101 = .ok (.getfield 214, 3) := by decide +kernel
theorem dX10_goesOnBehind_104 : decode cX10_goesOnBehind 104 = .ok (.iaload, 1) := by decide +kernel
theorem dX10_goesOnBehind_105 : decode cX10_goesOnBehind 105 = .ok (.ifCond .eq 30, 3) := by decide +kernel
theorem dX10_goesOnBehind_108 : decode cX10_goesOnBehind 108 = .ok (.aload_n 0, 1) := by decide +kernel
theorem dX10_goesOnBehind_109 : decode cX10_goesOnBehind 109 = .ok (.aload_n 0, 1) := by decide +kernel
theorem dX10_goesOnBehind_110 : decode cX10_goesOnBehind 110 = .ok (.getfield 73, 3) := by decide +kernel
theorem dX10_goesOnBehind_113 : decode cX10_goesOnBehind 113 = .ok (.aload_n 0, 1) := by decide +kernel
theorem dX10_goesOnBehind_114 : decode cX10_goesOnBehind 114 = .ok (.getfield 214, 3) := by decide +kernel
theorem dX10_goesOnBehind_117 : decode cX10_goesOnBehind 117 = .ok (.iaload, 1) := by decide +kernel
theorem dX10_goesOnBehind_118 : decode cX10_goesOnBehind 118 = .ok (.iconst 0, 1) := by decide +kernel
theorem dX10_goesOnBehind_119 : decode cX10_goesOnBehind 119 = .ok (.invokevirtual 227, 3) := by decide +kernel
theorem dX10_goesOnBehind_122 : decode cX10_goesOnBehind 122 = .ok (.aload_n 0, 1) := by decide +kernel
theorem dX10_goesOnBehind_123 : decode cX10_goesOnBehind 123 = .ok (.getfield 73, 3) := by decide +kernel
theorem dX10_goesOnBehind_126 : decode cX10_goesOnBehind 126 = .ok (.aload_n 0, 1) := by decide +kernel
theorem dX10_goesOnBehind_127 : decode cX10_goesOnBehind 127 = .ok (.getfield 214, 3) := by decide +kernel
theorem dX10_goesOnBehind_130 : decode cX10_goesOnBehind 130 = .ok (.iconst 0, 1) := by decide +kernel
theorem dX10_goesOnBehind_131 : decode cX10_goesOnBehind 131 = .ok (.iastore, 1) := by decide +kernel
theorem dX10_goesOnBehind_132 : decode cX10_goesOnBehind 132 = .ok (.goto 57, 3) := by decide +kernel
theorem dX10_goesOnBehind_135 : decode cX10_goesOnBehind 135 = .ok (.aload_n 0, 1) := by decide +kernel
theorem dX10_goesOnBehind_136 : decode cX10_goesOnBehind 136 = .ok (.bipush 60, 2) := by decide +kernel
theorem dX10_goesOnBehind_138 : decode cX10_goesOnBehind 138 = .ok (.invokevirtual 181, 3) := by decide +kernel
theorem dX10_goesOnBehind_141 : decode cX10_goesOnBehind 141 = .ok (.ifCond .ne 12, 3) := by decide +kernel
theorem dX10_goesOnBehind_144 : decode cX10_goesOnBehind 144 = .ok (.aload_n 0, 1) := by decide +kernel
theorem dX10_goesOnBehind_145 : decode cX10_goesOnBehind 145 = .ok (.bipush 61, 2) := by decide +kernel
theorem dX10_goesOnBehind_147 : decode cX10_goesOnBehind 147 = .ok (.invokevirtual 181, 3) := by decide +kernel
theorem dX10_goesOnBehind_150 : decode cX10_goesOnBehind 150 = .ok (.ifCond .eq 39, 3) := by decide +kernel
theorem dX10_goesOnBehind_153 : decode cX10_goesOnBehind 153 = .ok (.aload_n 0, 1) := by decide +kernel
theorem dX10_goesOnBehind_154 : decode cX10_goesOnBehind 154 = .ok (.getfield 73, 3) := by decide +kernel
theorem dX10_goesOnBehind_157 : decode cX10_goesOnBehind 157 = .ok (.aload_n 0, 1) := by decide +kernel
theorem dX10_goesOnBehind_158 : decode cX10_goesOnBehind 158 = .ok (.getfield 214, 3) := by decide +kernel
theorem dX10_goesOnBehind_161 : decode cX10_goesOnBehind 161 = .ok (.aload_n 0, 1) := by decide +kernel
theorem dX10_goesOnBehind_162 : decode cX10_goesOnBehind 162 = .ok (.bipush 60, 2) := by decide +kernel
theorem dX10_goesOnBehind_164 : decode cX10_goesOnBehind 164 = .ok (.invokevirtual 181, 3) := by decide +kernel
theorem dX10_goesOnBehind_167 : decode cX10_goesOnBehind 167 = .ok (.ifCond .eq 7, 3) := by decide +kernel
theorem dX10_goesOnBehind_170 : decode cX10_goesOnBehind 170 = .ok (.iconst 5, 1) := by decide +kernel
theorem dX10_goesOnBehind_171 : decode cX10_goesOnBehind 171 = .ok (.goto 5, 3) := by decide +kernel
theorem dX10_goesOnBehind_174 : decode cX10_goesOnBehind 174 = .ok (.bipush 6, 2) := by decide +kernel
theorem dX10_goesOnBehind_176 : decode cX10_goesOnBehind 176 = .ok (.iastore, 1) := by decide +kernel
theorem dX10_goesOnBehind_177 : decode cX10_goesOnBehind 177 = .ok (.aload_n 0, 1) := by decide +kernel
theorem dX10_goesOnBehind_178 : decode cX10_goesOnBehind 178 = .ok (.dup, 1) := by decide +kernel
theorem dX10_goesOnBehind_179 : decode cX10_goesOnBehind 179 = .ok (.getfield 175, 3) := by decide +kernel
theorem dX10_goesOnBehind_182 : decode cX10_goesOnBehind 182 = .ok (.iconst 1, 1) := by decide +kernel
theorem dX10_goesOnBehind_183 : decode cX10_goesOnBehind 183 = .ok (.iadd, 1) := by decide +kernel
theorem dX10_goesOnBehind_184 : decode cX10_goesOnBehind 184 = .ok (.putfield 175, 3) := by decide +kernel
theorem dX10_goesOnBehind_187 : decode cX10_goesOnBehind 187 = .ok (.iconst 1, 1) := by decide +kernel
theorem dX10_goesOnBehind_188 : decode cX10_goesOnBehind 188 = .ok (.ireturn, 1) := by decide +kernel
theorem dX10_goesOnBehind_189 : decode cX10_goesOnBehind 189 = .ok (.aload_n 0, 1) := by decide +kernel
theorem dX10_goesOnBehind_190 : decode cX10_goesOnBehind 190 = .ok (.getfield 76, 3) := by decide +kernel
theorem dX10_goesOnBehind_193 : decode cX10_goesOnBehind 193 = .ok (.aload_n 0, 1) := by decide +kernel
theorem dX10_goesOnBehind_194 : decode cX10_goesOnBehind 194 = .ok (.getfield 214, 3) := by decide +kernel
theorem dX10_goesOnBehind_197 : decode cX10_goesOnBehind 197 = .ok (.iaload, 1) := by decide +kernel
theorem dX10_goesOnBehind_198 : decode cX10_goesOnBehind 198 = .ok (.ifCond .eq 20, 3) := by decide +kernel
theorem dX10_goesOnBehind_201 : decode cX10_goesOnBehind 201 = .ok (.aload_n 0, 1) := by decide +kernel
theorem dX10_goesOnBehind_202 : decode cX10_goesOnBehind 202 = .ok (.bipush 7, 2) := by decide +kernel
theorem dX10_goesOnBehind_204 : decode cX10_goesOnBehind 204 = .ok (.iconst 0, 1) := by decide +kernel
theorem dX10_goesOnBehind_205 : decode cX10_goesOnBehind 205 = .ok (.invokevirtual 227, 3) := by decide +kernel
theorem dX10_goesOnBehind_208 : decode cX10_goesOnBehind 208 = .ok (.aload_n 0, 1) := by decide +kernel
theorem dX10_goesOnBehind_209 : decode cX10_goesOnBehind 209 = .ok (.getfield 76, 3) := by decide +kernel
theorem dX10_goesOnBehind_212 : decode cX10_goesOnBehind 212 = .ok (.aload_n 0, 1) := by decide +kernel
theorem dX10_goesOnBehind_213 : decode cX10_goesOnBehind 213 = .ok (.getfield 214, 3) := by decide +kernel
theorem dX10_goesOnBehind_216 : decode cX10_goesOnBehind 216 = .ok (.iconst 0, 1) := by decide +kernel
theorem dX10_goesOnBehind_217 : decode cX10_goesOnBehind 217 = .ok (.iastore, 1) := by decide +kernel
theorem dX10_goesOnBehind_218 : decode cX10_goesOnBehind 218 = .ok (.aload_n 0, 1) := by decide +kernel
theorem dX10_goesOnBehind_219 : decode cX10_goesOnBehind 219 = .ok (.iconst 2, 1) := by decide +kernel
theorem dX10_goesOnBehind_220 : decode cX10_goesOnBehind 220 = .ok (.invokevirtual 188, 3) := by decide +kernel
theorem dX10_goesOnBehind_223 : decode cX10_goesOnBehind 223 = .ok (.ifCond .eq 26, 3) := by decide +kernel
theorem dX10_goesOnBehind_226 : decode cX10_goesOnBehind 226 = .ok (.aload_n 0, 1) := by decide +kernel
theorem dX10_goesOnBehind_227 : decode cX10_goesOnBehind 227 = .ok (.getfield 76, 3) := by decide +kernel
theorem dX10_goesOnBehind_230 : decode cX10_goesOnBehind 230 = .ok (.aload_n 0, 1) := by decide +kernel
theorem dX10_goesOnBehind_231 : decode cX10_goesOnBehind 231 = .ok (.getfield 214, 3) := by decide +kernel
theorem dX10_goesOnBehind_234 : decode cX10_goesOnBehind 234 = .ok (.bipush 7, 2) := by decide +kernel
theorem dX10_goesOnBehind_236 : decode cX10_goesOnBehind 236 = .ok (.iastore, 1) := by decide +kernel
theorem dX10_goesOnBehind_237 : decode cX10_goesOnBehind 237 = .ok (.aload_n 0, 1) := by decide +kernel
theorem dX10_goesOnBehind_238 : decode cX10_goesOnBehind 238 = .ok (.dup, 1) := by decide +kernel
theorem dX10_goesOnBehind_239 : decode cX10_goesOnBehind 239 = .ok (.getfield 175, 3) := by decide +kernel
theorem dX10_goesOnBehind_242 : decode cX10_goesOnBehind 242 = .ok (.iconst 1, 1) := by decide +kernel
theorem dX10_goesOnBehind_243 : decode cX10_goesOnBehind 243 = .ok (.iadd, 1) := by decide +kernel
theorem dX10_goesOnBehind_244 : decode cX10_goesOnBehind 244 = .ok (.putfield 175, 3) := by decide +kernel
theorem dX10_goesOnBehind_247 : decode cX10_goesOnBehind 247 = .ok (.iconst 1, 1) := by decide +kernel
theorem dX10_goesOnBehind_248 : decode cX10_goesOnBehind 248 = .ok (.ireturn, 1) := by decide +kernel
theorem dX10_goesOnBehind_249 : decode cX10_goesOnBehind 249 = .ok (.aload_n 0, 1) := by decide +kernel
theorem dX10_goesOnBehind_250 : decode cX10_goesOnBehind 250 = .ok (.getfield 214, 3) := by decide +kernel
theorem dX10_goesOnBehind_253 : decode cX10_goesOnBehind 253 = .ok (.ifCond .ne 5, 3) := by decide +kernel
theorem dX10_goesOnBehind_256 : decode cX10_goesOnBehind 256 = .ok (.iconst 0, 1) := by decide +kernel
theorem dX10_goesOnBehind_257 : decode cX10_goesOnBehind 257 = .ok (.ireturn, 1) := by decide +kernel
theorem dX10_goesOnBehind_258 : decode cX10_goesOnBehind 258 = .ok (.aload_n 0, 1) := by decide +kernel
theorem dX10_goesOnBehind_259 : decode cX10_goesOnBehind 259 = .ok (.bipush 41, 2) := by decide +kernel
theorem dX10_goesOnBehind_261 : decode cX10_goesOnBehind 261 = .ok (.invokevirtual 231, 3) := by decide +kernel
theorem dX10_goesOnBehind_264 : decode cX10_goesOnBehind 264 = .ok (.aload_n 0, 1) := by decide +kernel
theorem dX10_goesOnBehind_265 : decode cX10_goesOnBehind 265 = .ok (.dup, 1) := by decide +kernel
theorem dX10_goesOnBehind_266 : decode cX10_goesOnBehind 266 = .ok (.getfield 214, 3) := by decide +kernel
theorem dX10_goesOnBehind_269 : decode cX10_goesOnBehind 269 = .ok (.iconst 1, 1) := by decide +kernel
theorem dX10_goesOnBehind_270 : decode cX10_goesOnBehind 270 = .ok (.isub, 1) := by decide +kernel
theorem dX10_goesOnBehind_271 : decode cX10_goesOnBehind 271 = .ok (.putfield 214, 3) := by decide +kernel
theorem dX10_goesOnBehind_274 : decode cX10_goesOnBehind 274 = .ok (.goto (-274), 3) := by decide +kernel
theorem dX10_goesOnBehind_277 : decode cX10_goesOnBehind 277 = .ok (.iconst 0, 1) := by decide +kernel
theorem dX10_goesOnBehind_278 : decode cX10_goesOnBehind 278 = .ok (.ireturn, 1) := by decide +kernel
theorem dX10_worth_0 : decode cX10_worth 0 = .ok (.iload_n 1, 1) := by decide +kernel
theorem dX10_worth_1 : decode cX10_worth 1 = .ok (.istore_n 2, 1) := by decide +kernel
theorem dX10_worth_2 : decode cX10_worth 2 = .ok (.iconst 0, 1) := by decide +kernel
theorem dX10_worth_3 : decode cX10_worth 3 = .ok (.istore_n 3, 1) := by decide +kernel
theorem dX10_worth_4 : decode cX10_worth 4 = .ok (.aload_n 0, 1) := by decide +kernel
theorem dX10_worth_5 : decode cX10_worth 5 = .ok (.getfield 64, 3) := by decide +kernel
theorem dX10_worth_8 : decode cX10_worth 8 = .ok (.iload_n 2, 1) := by decide +kernel
theorem dX10_worth_9 : decode cX10_worth 9 = .ok (.iaload, 1) := by decide +kernel
theorem dX10_worth_10 : decode cX10_worth 10 = .ok (.ifCond .eq 182, 3) := by decide +kernel
theorem dX10_worth_13 : decode cX10_worth 13 = .ok (.aload_n 0, 1) := by decide +kernel
theorem dX10_worth_14 : decode cX10_worth 14 = .ok (.getfield 64, 3) := by decide +kernel
theorem dX10_worth_17 : decode cX10_worth 17 = .ok (.iload_n 2, 1) := by decide +kernel
theorem dX10_worth_18 : decode cX10_worth 18 = .ok (.iaload, 1) := by decide +kernel
theorem dX10_worth_19 : decode cX10_worth 19 = .ok (.istore 4, 2) := by decide +kernel
theorem dX10_worth_21 : decode cX10_worth 21 = .ok (.iload 4, 2) := by decide +kernel
theorem dX10_worth_23 : decode cX10_worth 23 = .ok (.iconst 1, 1) := by decide +kernel
theorem dX10_worth_24 : decode cX10_worth 24 = .ok (.if_icmp .eq 9, 3) := by decide +kernel
theorem dX10_worth_27 : decode cX10_worth 27 = .ok (.iload 4, 2) := by decide +kernel
theorem dX10_worth_29 : decode cX10_worth 29 = .ok (.iconst 2, 1) := by decide +kernel
theorem dX10_worth_30 : decode cX10_worth 30 = .ok (.if_icmp .ne 41, 3) := by decide +kernel
theorem dX10_worth_33 : decode cX10_worth 33 = .ok (.aload_n 0, 1) := by decide +kernel
theorem dX10_worth_34 : decode cX10_worth 34 = .ok (.getfield 82, 3) := by decide +kernel
theorem dX10_worth_37 : decode cX10_worth 37 = .ok (.iload_n 3, 1) := by decide +kernel
theorem dX10_worth_38 : decode cX10_worth 38 = .ok (.iload 4, 2) := by decide +kernel
theorem dX10_worth_40 : decode cX10_worth 40 = .ok (.iconst 1, 1) := by decide +kernel
theorem dX10_worth_41 : decode cX10_worth 41 = .ok (.if_icmp .ne 12, 3) := by decide +kernel
theorem dX10_worth_44 : decode cX10_worth 44 = .ok (.aload_n 0, 1) := by decide +kernel
theorem dX10_worth_45 : decode cX10_worth 45 = .ok (.getfield 67, 3) := by decide +kernel
theorem dX10_worth_48 : decode cX10_worth 48 = .ok (.iload_n 2, 1) := by decide +kernel
theorem dX10_worth_49 : decode cX10_worth 49 = .ok (.iaload, 1) := by decide +kernel
theorem dX10_worth_50 : decode cX10_worth 50 = .ok (.goto 14, 3) := by decide +kernel
theorem dX10_worth_53 : decode cX10_worth 53 = .ok (.aload_n 0, 1) := by decide +kernel
theorem dX10_worth_54 : decode cX10_worth 54 = .ok (.getfield 79, 3) := by decide +kernel
theorem dX10_worth_57 : decode cX10_worth 57 = .ok (.aload_n 0, 1) := by decide +kernel
theorem dX10_worth_58 : decode cX10_worth 58 = .ok (.getfield 67, 3) := by decide +kernel
theorem dX10_worth_61 : decode cX10_worth 61 = .ok (.iload_n 2, 1) := by decide +kernel
theorem dX10_worth_62 : decode cX10_worth 62 = .ok (.iaload, 1) := by decide +kernel
theorem dX10_worth_63 : decode cX10_worth 63 = .ok (.iaload, 1) := by decide +kernel
theorem dX10_worth_64 : decode cX10_worth 64 = .ok (.iastore, 1) := by decide +kernel
theorem dX10_worth_65 : decode cX10_worth 65 = .ok (.iinc 3 1, 3) := by decide +kernel
theorem dX10_worth_68 : decode cX10_worth 68 = .ok (.goto 118, 3) := by decide +kernel
theorem dX10_worth_71 : decode cX10_worth 71 = .ok (.iinc 3 (-1), 3) := by decide +kernel
theorem dX10_worth_74 : decode cX10_worth 74 = .ok (.aload_n 0, 1) := by decide +kernel
theorem dX10_worth_75 : decode cX10_worth 75 = .ok (.getfield 82, 3) := by decide +kernel
theorem dX10_worth_78 : decode cX10_worth 78 = .ok (.iload_n 3, 1) := by decide +kernel
theorem dX10_worth_79 : decode cX10_worth 79 = .ok (.iaload, 1) := by decide +kernel
theorem dX10_worth_80 : decode cX10_worth 80 = .ok (.istore 5, 2) := by decide +kernel
theorem dX10_worth_82 : decode cX10_worth 82 = .ok (.aload_n 0, 1) := by decide +kernel
theorem dX10_worth_83 : decode cX10_worth 83 = .ok (.getfield 82, 3) := by decide +kernel
theorem dX10_worth_86 : decode cX10_worth 86 = .ok (.iload_n 3, 1) := by decide +kernel
theorem dX10_worth_87 : decode cX10_worth 87 = .ok (.iconst 1, 1) := by decide +kernel
theorem dX10_worth_88 : decode cX10_worth 88 = .ok (.isub, 1) := by decide +kernel
theorem dX10_worth_89 : decode cX10_worth 89 = .ok (.iaload, 1) := by decide +kernel
theorem dX10_worth_90 : decode cX10_worth 90 = .ok (.istore 6, 2) := by decide +kernel
theorem dX10_worth_92 : decode cX10_worth 92 = .ok (.aload_n 0, 1) := by decide +kernel
theorem dX10_worth_93 : decode cX10_worth 93 = .ok (.getfield 82, 3) := by decide +kernel
theorem dX10_worth_96 : decode cX10_worth 96 = .ok (.iload_n 3, 1) := by decide +kernel
theorem dX10_worth_97 : decode cX10_worth 97 = .ok (.iconst 1, 1) := by decide +kernel
theorem dX10_worth_98 : decode cX10_worth 98 = .ok (.isub, 1) := by decide +kernel
theorem dX10_worth_99 : decode cX10_worth 99 = .ok (.iload 4, 2) := by decide +kernel
theorem dX10_worth_101 : decode cX10_worth 101 = .ok (.iconst 3, 1) := by decide +kernel
theorem dX10_worth_102 : decode cX10_worth 102 = .ok (.if_icmp .ne 11, 3) := by decide +kernel
theorem dX10_worth_105 : decode cX10_worth 105 = .ok (.iload 6, 2) := by decide +kernel
theorem dX10_worth_107 : decode cX10_worth 107 = .ok (.iload 5, 2) := by decide +kernel
theorem dX10_worth_109 : decode cX10_worth 109 = .ok (.iadd, 1) := by decide +kernel
theorem dX10_worth_110 : decode cX10_worth 110 = .ok (.goto 75, 3) := by decide +kernel
theorem dX10_worth_113 : decode cX10_worth 113 = .ok (.iload 4, 2) := by decide +kernel
theorem dX10_worth_115 : decode cX10_worth 115 = .ok (.iconst 4, 1) := by decide +kernel
theorem dX10_worth_116 : decode cX10_worth 116 = .ok (.if_icmp .ne 11, 3) := by decide +kernel
theorem dX10_worth_119 : decode cX10_worth 119 = .ok (.iload 6, 2) := by decide +kernel
theorem dX10_worth_121 : decode cX10_worth 121 = .ok (.iload 5, 2) := by decide +kernel
theorem dX10_worth_123 : decode cX10_worth 123 = .ok (.isub, 1) := by decide +kernel
theorem dX10_worth_124 : decode cX10_worth 124 = .ok (.goto 61, 3) := by decide +kernel
theorem dX10_worth_127 : decode cX10_worth 127 = .ok (.iload 4, 2) := by decide +kernel
theorem dX10_worth_129 : decode cX10_worth 129 = .ok (.iconst 5, 1) := by decide +kernel
theorem dX10_worth_130 : decode cX10_worth 130 = .ok (.if_icmp .ne 18, 3) := by decide +kernel
theorem dX10_worth_133 : decode cX10_worth 133 = .ok (.iload 6, 2) := by decide +kernel
theorem dX10_worth_135 : decode cX10_worth 135 = .ok (.iload 5, 2) := by decide +kernel
theorem dX10_worth_137 : decode cX10_worth 137 = .ok (.if_icmp .ge 7, 3) := by decide +kernel
theorem dX10_worth_140 : decode cX10_worth 140 = .ok (.iconst 1, 1) := by decide +kernel
theorem dX10_worth_141 : decode cX10_worth 141 = .ok (.goto 44, 3) := by decide +kernel
theorem dX10_worth_144 : decode cX10_worth 144 = .ok (.iconst 0, 1) := by decide +kernel
theorem dX10_worth_145 : decode cX10_worth 145 = .ok (.goto 40, 3) := by decide +kernel
theorem dX10_worth_148 : decode cX10_worth 148 = .ok (.iload 4, 2) := by decide +kernel
theorem dX10_worth_150 : decode cX10_worth 150 = .ok (.bipush 6, 2) := by decide +kernel
theorem dX10_worth_152 : decode cX10_worth 152 = .ok (.if_icmp .ne 18, 3) := by decide +kernel
theorem dX10_worth_155 : decode cX10_worth 155 = .ok (.iload 6, 2) := by decide +kernel
theorem dX10_worth_157 : decode cX10_worth 157 = .ok (.iload 5, 2) := by decide +kernel
theorem dX10_worth_159 : decode cX10_worth 159 = .ok (.if_icmp .ne 7, 3) := by decide +kernel
theorem dX10_worth_162 : decode cX10_worth 162 = .ok (.iconst 1, 1) := by decide +kernel
theorem dX10_worth_163 : decode cX10_worth 163 = .ok (.goto 22, 3) := by decide +kernel
theorem dX10_worth_166 : decode cX10_worth 166 = .ok (.iconst 0, 1) := by decide +kernel
theorem dX10_worth_167 : decode cX10_worth 167 = .ok (.goto 18, 3) := by decide +kernel
theorem dX10_worth_170 : decode cX10_worth 170 = .ok (.iload 6, 2) := by decide +kernel
theorem dX10_worth_172 : decode cX10_worth 172 = .ok (.ifCond .eq 12, 3) := by decide +kernel
theorem dX10_worth_175 : decode cX10_worth 175 = .ok (.iload 5, 2) := by decide +kernel
theorem dX10_worth_177 : decode cX10_worth 177 = .ok (.ifCond .eq 7, 3) := by decide +kernel
theorem dX10_worth_180 : decode cX10_worth 180 = .ok (.iconst 1, 1) := by decide +kernel
theorem dX10_worth_181 : decode cX10_worth 181 = .ok (.goto 4, 3) := by decide +kernel
theorem dX10_worth_184 : decode cX10_worth 184 = .ok (.iconst 0, 1) := by decide +kernel
theorem dX10_worth_185 : decode cX10_worth 185 = .ok (.iastore, 1) := by decide +kernel
theorem dX10_worth_186 : decode cX10_worth 186 = .ok (.iinc 2 1, 3) := by decide +kernel
theorem dX10_worth_189 : decode cX10_worth 189 = .ok (.goto (-185), 3) := by decide +kernel
theorem dX10_worth_192 : decode cX10_worth 192 = .ok (.aload_n 0, 1) := by decide +kernel
theorem dX10_worth_193 : decode cX10_worth 193 = .ok (.getfield 82, 3) := by decide +kernel
theorem dX10_worth_196 : decode cX10_worth 196 = .ok (.iconst 0, 1) := by decide +kernel
theorem dX10_worth_197 : decode cX10_worth 197 = .ok (.iaload, 1) := by decide +kernel
theorem dX10_worth_198 : decode cX10_worth 198 = .ok (.ireturn, 1) := by decide +kernel
theorem dX10_years_0 : decode cX10_years 0 = .ok (.aload_n 0, 1) := by decide +kernel
theorem dX10_years_1 : decode cX10_years 1 = .ok (.iconst 0, 1) := by decide +kernel
theorem dX10_years_2 : decode cX10_years 2 = .ok (.putfield 1, 3) := by decide +kernel
theorem dX10_years_5 : decode cX10_years 5 = .ok (.iload_n 1, 1) := by decide +kernel
theorem dX10_years_6 : decode cX10_years 6 = .ok (.ifCond .lt 20, 3) := by decide +kernel
theorem dX10_years_9 : decode cX10_years 9 = .ok (.iload_n 1, 1) := by decide +kernel
theorem dX10_years_10 : decode cX10_years 10 = .ok (.bipush 20, 2) := by decide +kernel
theorem dX10_years_12 : decode cX10_years 12 = .ok (.if_icmp .gt 14, 3) := by decide +kernel
theorem dX10_years_15 : decode cX10_years 15 = .ok (.aload_n 0, 1) := by decide +kernel
theorem dX10_years_16 : decode cX10_years 16 = .ok (.getfield 241, 3) := by decide +kernel
theorem dX10_years_19 : decode cX10_years 19 = .ok (.iload_n 1, 1) := by decide +kernel
theorem dX10_years_20 : decode cX10_years 20 = .ok (.iadd, 1) := by decide +kernel
theorem dX10_years_21 : decode cX10_years 21 = .ok (.bipush 99, 2) := by decide +kernel
theorem dX10_years_23 : decode cX10_years 23 = .ok (.if_icmp .le 5, 3) := by decide +kernel
theorem dX10_years_26 : decode cX10_years 26 = .ok (.iconst (-1), 1) := by decide +kernel
theorem dX10_years_27 : decode cX10_years 27 = .ok (.ireturn, 1) := by decide +kernel
theorem dX10_years_28 : decode cX10_years 28 = .ok (.aload_n 0, 1) := by decide +kernel
theorem dX10_years_29 : decode cX10_years 29 = .ok (.dup, 1) := by decide +kernel
theorem dX10_years_30 : decode cX10_years 30 = .ok (.getfield 241, 3) := by decide +kernel
theorem dX10_years_33 : decode cX10_years 33 = .ok (.iload_n 1, 1) := by decide +kernel
theorem dX10_years_34 : decode cX10_years 34 = .ok (.iadd, 1) := by decide +kernel
theorem dX10_years_35 : decode cX10_years 35 = .ok (.putfield 241, 3) := by decide +kernel
theorem dX10_years_38 : decode cX10_years 38 = .ok (.aload_n 0, 1) := by decide +kernel
theorem dX10_years_39 : decode cX10_years 39 = .ok (.getfield 241, 3) := by decide +kernel
theorem dX10_years_42 : decode cX10_years 42 = .ok (.ireturn, 1) := by decide +kernel
theorem dX10_isPlace_0 : decode cX10_isPlace 0 = .ok (.iload_n 0, 1) := by decide +kernel
theorem dX10_isPlace_1 : decode cX10_isPlace 1 = .ok (.ifCond .lt 13, 3) := by decide +kernel
theorem dX10_isPlace_4 : decode cX10_isPlace 4 = .ok (.iload_n 0, 1) := by decide +kernel
theorem dX10_isPlace_5 : decode cX10_isPlace 5 = .ok (.bipush 10, 2) := by decide +kernel
theorem dX10_isPlace_7 : decode cX10_isPlace 7 = .ok (.if_icmp .ge 7, 3) := by decide +kernel
theorem dX10_isPlace_10 : decode cX10_isPlace 10 = .ok (.iconst 1, 1) := by decide +kernel
theorem dX10_isPlace_11 : decode cX10_isPlace 11 = .ok (.goto 4, 3) := by decide +kernel
theorem dX10_isPlace_14 : decode cX10_isPlace 14 = .ok (.iconst 0, 1) := by decide +kernel
theorem dX10_isPlace_15 : decode cX10_isPlace 15 = .ok (.ireturn, 1) := by decide +kernel
theorem dX10_isValue_0 : decode cX10_isValue 0 = .ok (.iload_n 0, 1) := by decide +kernel
theorem dX10_isValue_1 : decode cX10_isValue 1 = .ok (.ifCond .lt 14, 3) := by decide +kernel
theorem dX10_isValue_4 : decode cX10_isValue 4 = .ok (.iload_n 0, 1) := by decide +kernel
theorem dX10_isValue_5 : decode cX10_isValue 5 = .ok (.sipush 9999, 3) := by decide +kernel
theorem dX10_isValue_8 : decode cX10_isValue 8 = .ok (.if_icmp .gt 7, 3) := by decide +kernel
theorem dX10_isValue_11 : decode cX10_isValue 11 = .ok (.iconst 1, 1) := by decide +kernel
theorem dX10_isValue_12 : decode cX10_isValue 12 = .ok (.goto 4, 3) := by decide +kernel
theorem dX10_isValue_15 : decode cX10_isValue 15 = .ok (.iconst 0, 1) := by decide +kernel
theorem dX10_isValue_16 : decode cX10_isValue 16 = .ok (.ireturn, 1) := by decide +kernel
theorem dX10_fact_0 : decode cX10_fact 0 = .ok (.aload_n 0, 1) := by decide +kernel
theorem dX10_fact_1 : decode cX10_fact 1 = .ok (.iconst 0, 1) := by decide +kernel
theorem dX10_fact_2 : decode cX10_fact 2 = .ok (.putfield 1, 3) := by decide +kernel
theorem dX10_fact_5 : decode cX10_fact 5 = .ok (.iload_n 1, 1) := by decide +kernel
theorem dX10_fact_6 : decode cX10_fact 6 = .ok (.ifCond .lt 31, 3) := by decide +kernel
theorem dX10_fact_9 : decode cX10_fact 9 = .ok (.iload_n 1, 1) := by decide +kernel
theorem dX10_fact_10 : decode cX10_fact 10 = .ok (.iconst 5, 1) := by decide +kernel
theorem dX10_fact_11 : decode cX10_fact 11 = .ok (.if_icmp .gt 26, 3) := by decide +kernel
theorem dX10_fact_14 : decode cX10_fact 14 = .ok (.iload_n 2, 1) := by decide +kernel
theorem dX10_fact_15 : decode cX10_fact 15 = .ok (.invokestatic 244, 3) := by decide +kernel
theorem dX10_fact_18 : decode cX10_fact 18 = .ok (.ifCond .eq 19, 3) := by decide +kernel
theorem dX10_fact_21 : decode cX10_fact 21 = .ok (.iload_n 3, 1) := by decide +kernel
theorem dX10_fact_22 : decode cX10_fact 22 = .ok (.invokestatic 247, 3) := by decide +kernel
theorem dX10_fact_25 : decode cX10_fact 25 = .ok (.ifCond .eq 12, 3) := by decide +kernel
theorem dX10_fact_28 : decode cX10_fact 28 = .ok (.aload_n 0, 1) := by decide +kernel
theorem dX10_fact_29 : decode cX10_fact 29 = .ok (.getfield 250, 3) := by decide +kernel
theorem dX10_fact_32 : decode cX10_fact 32 = .ok (.bipush 60, 2) := by decide +kernel
theorem dX10_fact_34 : decode cX10_fact 34 = .ok (.if_icmp .ne 5, 3) := by decide +kernel
theorem dX10_fact_37 : decode cX10_fact 37 = .ok (.iconst (-1), 1) := by decide +kernel
theorem dX10_fact_38 : decode cX10_fact 38 = .ok (.ireturn, 1) := by decide +kernel
theorem dX10_fact_39 : decode cX10_fact 39 = .ok (.aload_n 0, 1) := by decide +kernel
theorem dX10_fact_40 : decode cX10_fact 40 = .ok (.getfield 85, 3) := by decide +kernel
theorem dX10_fact_43 : decode cX10_fact 43 = .ok (.aload_n 0, 1) := by decide +kernel
theorem dX10_fact_44 : decode cX10_fact 44 = .ok (.getfield 250, 3) := by decide +kernel
theorem dX10_fact_47 : decode cX10_fact 47 = .ok (.iload_n 1, 1) := by decide +kernel
theorem dX10_fact_48 : decode cX10_fact 48 = .ok (.iastore, 1) := by decide +kernel
theorem dX10_fact_49 : decode cX10_fact 49 = .ok (.aload_n 0, 1) := by decide +kernel
theorem dX10_fact_50 : decode cX10_fact 50 = .ok (.getfield 88, 3) := by decide +kernel
theorem dX10_fact_53 : decode cX10_fact 53 = .ok (.aload_n 0, 1) := by decide +kernel
theorem dX10_fact_54 : decode cX10_fact 54 = .ok (.getfield 250, 3) := by decide +kernel
theorem dX10_fact_57 : decode cX10_fact 57 = .ok (.iload_n 2, 1) := by decide +kernel
theorem dX10_fact_58 : decode cX10_fact 58 = .ok (.iastore, 1) := by decide +kernel
theorem dX10_fact_59 : decode cX10_fact 59 = .ok (.aload_n 0, 1) := by decide +kernel
theorem dX10_fact_60 : decode cX10_fact 60 = .ok (.getfield 91, 3) := by decide +kernel
theorem dX10_fact_63 : decode cX10_fact 63 = .ok (.aload_n 0, 1) := by decide +kernel
theorem dX10_fact_64 : decode cX10_fact 64 = .ok (.getfield 250, 3) := by decide +kernel
theorem dX10_fact_67 : decode cX10_fact 67 = .ok (.iload_n 3, 1) := by decide +kernel
theorem dX10_fact_68 : decode cX10_fact 68 = .ok (.iastore, 1) := by decide +kernel
theorem dX10_fact_69 : decode cX10_fact 69 = .ok (.aload_n 0, 1) := by decide +kernel
theorem dX10_fact_70 : decode cX10_fact 70 = .ok (.getfield 94, 3) := by decide +kernel
theorem dX10_fact_73 : decode cX10_fact 73 = .ok (.aload_n 0, 1) := by decide +kernel
theorem dX10_fact_74 : decode cX10_fact 74 = .ok (.getfield 250, 3) := by decide +kernel
theorem dX10_fact_77 : decode cX10_fact 77 = .ok (.aload_n 0, 1) := by decide +kernel
theorem dX10_fact_78 : decode cX10_fact 78 = .ok (.getfield 241, 3) := by decide +kernel
theorem dX10_fact_81 : decode cX10_fact 81 = .ok (.iastore, 1) := by decide +kernel
theorem dX10_fact_82 : decode cX10_fact 82 = .ok (.aload_n 0, 1) := by decide +kernel
theorem dX10_fact_83 : decode cX10_fact 83 = .ok (.getfield 97, 3) := by decide +kernel
theorem dX10_fact_86 : decode cX10_fact 86 = .ok (.aload_n 0, 1) := by decide +kernel
theorem dX10_fact_87 : decode cX10_fact 87 = .ok (.getfield 250, 3) := by decide +kernel
theorem dX10_fact_90 : decode cX10_fact 90 = .ok (.iconst 1, 1) := by decide +kernel
theorem dX10_fact_91 : decode cX10_fact 91 = .ok (.iastore, 1) := by decide +kernel
theorem dX10_fact_92 : decode cX10_fact 92 = .ok (.aload_n 0, 1) := by decide +kernel
theorem dX10_fact_93 : decode cX10_fact 93 = .ok (.getfield 100, 3) := by decide +kernel
theorem dX10_fact_96 : decode cX10_fact 96 = .ok (.aload_n 0, 1) := by decide +kernel
theorem dX10_fact_97 : decode cX10_fact 97 = .ok (.getfield 250, 3) := by decide +kernel
theorem dX10_fact_100 : decode cX10_fact 100 = .ok (.iconst 1, 1) := by decide +kernel
theorem dX10_fact_101 : decode cX10_fact 101 = .ok (.iastore, 1) := by decide +kernel
theorem dX10_fact_102 : decode cX10_fact 102 = .ok (.aload_n 0, 1) := by decide +kernel
theorem dX10_fact_103 : decode cX10_fact 103 = .ok (.dup, 1) := by decide +kernel
theorem dX10_fact_104 : decode cX10_fact 104 = .ok (.getfield 250, 3) := by decide +kernel
theorem dX10_fact_107 : decode cX10_fact 107 = .ok (.iconst 1, 1) := by decide +kernel
theorem dX10_fact_108 : decode cX10_fact 108 = .ok (.iadd, 1) := by decide +kernel
theorem dX10_fact_109 : decode cX10_fact 109 = .ok (.putfield 250, 3) := by decide +kernel
theorem dX10_fact_112 : decode cX10_fact 112 = .ok (.aload_n 0, 1) := by decide +kernel
theorem dX10_fact_113 : decode cX10_fact 113 = .ok (.getfield 250, 3) := by decide +kernel
theorem dX10_fact_116 : decode cX10_fact 116 = .ok (.iconst 1, 1) := by decide +kernel
theorem dX10_fact_117 : decode cX10_fact 117 = .ok (.isub, 1) := by decide +kernel
theorem dX10_fact_118 : decode cX10_fact 118 = .ok (.ireturn, 1) := by decide +kernel
theorem dX10_isFact_0 : decode cX10_isFact 0 = .ok (.iload_n 1, 1) := by decide +kernel
theorem dX10_isFact_1 : decode cX10_isFact 1 = .ok (.ifCond .lt 15, 3) := by decide +kernel
theorem dX10_isFact_4 : decode cX10_isFact 4 = .ok (.iload_n 1, 1) := by decide +kernel
theorem dX10_isFact_5 : decode cX10_isFact 5 = .ok (.aload_n 0, 1) := by decide +kernel
theorem dX10_isFact_6 : decode cX10_isFact 6 = .ok (.getfield 250, 3) := by decide +kernel
theorem dX10_isFact_9 : decode cX10_isFact 9 = .ok (.if_icmp .ge 7, 3) := by decide +kernel
theorem dX10_isFact_12 : decode cX10_isFact 12 = .ok (.iconst 1, 1) := by decide +kernel
theorem dX10_isFact_13 : decode cX10_isFact 13 = .ok (.goto 4, 3) := by decide +kernel
theorem dX10_isFact_16 : decode cX10_isFact 16 = .ok (.iconst 0, 1) := by decide +kernel
theorem dX10_isFact_17 : decode cX10_isFact 17 = .ok (.ireturn, 1) := by decide +kernel
theorem dX10_line__0 : decode cX10_line_ 0 = .ok (.aload_n 0, 1) := by decide +kernel
theorem dX10_line__1 : decode cX10_line_ 1 = .ok (.iconst 0, 1) := by decide +kernel
theorem dX10_line__2 : decode cX10_line_ 2 = .ok (.putfield 1, 3) := by decide +kernel
theorem dX10_line__5 : decode cX10_line_ 5 = .ok (.aload_n 0, 1) := by decide +kernel
theorem dX10_line__6 : decode cX10_line_ 6 = .ok (.iload_n 1, 1) := by decide +kernel
theorem dX10_line__7 : decode cX10_line_ 7 = .ok (.invokevirtual 253, 3) := by decide +kernel
theorem dX10_line__10 : decode cX10_line_ 10 = .ok (.ifCond .eq 25, 3) := by decide +kernel
theorem dX10_line__13 : decode cX10_line_ 13 = .ok (.iload_n 2, 1) := by decide +kernel
theorem dX10_line__14 : decode cX10_line_ 14 = .ok (.iconst 1, 1) := by decide +kernel
theorem dX10_line__15 : decode cX10_line_ 15 = .ok (.if_icmp .lt 20, 3) := by decide +kernel
theorem dX10_line__18 : decode cX10_line_ 18 = .ok (.iload_n 2, 1) := by decide +kernel
theorem dX10_line__19 : decode cX10_line_ 19 = .ok (.bipush 9, 2) := by decide +kernel
theorem dX10_line__21 : decode cX10_line_ 21 = .ok (.if_icmp .gt 14, 3) := by decide +kernel
theorem dX10_line__24 : decode cX10_line_ 24 = .ok (.iload_n 3, 1) := by decide +kernel
theorem dX10_line__25 : decode cX10_line_ 25 = .ok (.ifCond .lt 10, 3) := by decide +kernel
theorem dX10_line__28 : decode cX10_line_ 28 = .ok (.iload_n 3, 1) := by decide +kernel
theorem dX10_line__29 : decode cX10_line_ 29 = .ok (.sipush 999, 3) := by decide +kernel
theorem dX10_line__32 : decode cX10_line_ 32 = .ok (.if_icmp .le 5, 3) := by decide +kernel
theorem dX10_line__35 : decode cX10_line_ 35 = .ok (.iconst 0, 1) := by decide +kernel
theorem dX10_line__36 : decode cX10_line_ 36 = .ok (.ireturn, 1) := by decide +kernel
theorem dX10_line__37 : decode cX10_line_ 37 = .ok (.aload_n 0, 1) := by decide +kernel
theorem dX10_line__38 : decode cX10_line_ 38 = .ok (.getfield 97, 3) := by decide +kernel
theorem dX10_line__41 : decode cX10_line_ 41 = .ok (.iload_n 1, 1) := by decide +kernel
theorem dX10_line__42 : decode cX10_line_ 42 = .ok (.iload_n 2, 1) := by decide +kernel
theorem dX10_line__43 : decode cX10_line_ 43 = .ok (.iastore, 1) := by decide +kernel
theorem dX10_line__44 : decode cX10_line_ 44 = .ok (.aload_n 0, 1) := by decide +kernel
theorem dX10_line__45 : decode cX10_line_ 45 = .ok (.getfield 100, 3) := by decide +kernel
theorem dX10_line__48 : decode cX10_line_ 48 = .ok (.iload_n 1, 1) := by decide +kernel
theorem dX10_line__49 : decode cX10_line_ 49 = .ok (.iload_n 3, 1) := by decide +kernel
theorem dX10_line__50 : decode cX10_line_ 50 = .ok (.iastore, 1) := by decide +kernel
theorem dX10_line__51 : decode cX10_line_ 51 = .ok (.iconst 1, 1) := by decide +kernel
theorem dX10_line__52 : decode cX10_line_ 52 = .ok (.ireturn, 1) := by decide +kernel
theorem dX10_rateOf_0 : decode cX10_rateOf 0 = .ok (.aload_n 0, 1) := by decide +kernel
theorem dX10_rateOf_1 : decode cX10_rateOf 1 = .ok (.getfield 103, 3) := by decide +kernel
theorem dX10_rateOf_4 : decode cX10_rateOf 4 = .ok (.iload_n 1, 1) := by decide +kernel
theorem dX10_rateOf_5 : decode cX10_rateOf 5 = .ok (.iaload, 1) := by decide +kernel
theorem dX10_rateOf_6 : decode cX10_rateOf 6 = .ok (.iconst 1, 1) := by decide +kernel
theorem dX10_rateOf_7 : decode cX10_rateOf 7 = .ok (.iadd, 1) := by decide +kernel
theorem dX10_rateOf_8 : decode cX10_rateOf 8 = .ok (.aload_n 0, 1) := by decide +kernel
theorem dX10_rateOf_9 : decode cX10_rateOf 9 = .ok (.getfield 106, 3) := by decide +kernel
theorem dX10_rateOf_12 : decode cX10_rateOf 12 = .ok (.iload_n 1, 1) := by decide +kernel
theorem dX10_rateOf_13 : decode cX10_rateOf 13 = .ok (.iaload, 1) := by decide +kernel
theorem dX10_rateOf_14 : decode cX10_rateOf 14 = .ok (.isub, 1) := by decide +kernel
theorem dX10_rateOf_15 : decode cX10_rateOf 15 = .ok (.istore_n 2, 1) := by decide +kernel
theorem dX10_rateOf_16 : decode cX10_rateOf 16 = .ok (.iload_n 2, 1) := by decide +kernel
theorem dX10_rateOf_17 : decode cX10_rateOf 17 = .ok (.ifCond .ge 7, 3) := by decide +kernel
theorem dX10_rateOf_20 : decode cX10_rateOf 20 = .ok (.iconst 0, 1) := by decide +kernel
theorem dX10_rateOf_21 : decode cX10_rateOf 21 = .ok (.goto 20, 3) := by decide +kernel
theorem dX10_rateOf_24 : decode cX10_rateOf 24 = .ok (.ldc2_w 256, 3) := by decide +kernel
theorem dX10_rateOf_27 : decode cX10_rateOf 27 = .ok (.iload_n 2, 1) := by decide +kernel
theorem dX10_rateOf_28 : decode cX10_rateOf 28 = .ok (.i2l, 1) := by decide +kernel
theorem dX10_rateOf_29 : decode cX10_rateOf 29 = .ok (.lmul, 1) := by decide +kernel
theorem dX10_rateOf_30 : decode cX10_rateOf 30 = .ok (.aload_n 0, 1) := by decide +kernel
theorem dX10_rateOf_31 : decode cX10_rateOf 31 = .ok (.getfield 103, 3) := by decide +kernel
theorem dX10_rateOf_34 : decode cX10_rateOf 34 = .ok (.iload_n 1, 1) := by decide +kernel
theorem dX10_rateOf_35 : decode cX10_rateOf 35 = .ok (.iaload, 1) := by decide +kernel
theorem dX10_rateOf_36 : decode cX10_rateOf 36 = .ok (.iconst 2, 1) := by decide +kernel
theorem dX10_rateOf_37 : decode cX10_rateOf 37 = .ok (.iadd, 1) := by decide +kernel
theorem dX10_rateOf_38 : decode cX10_rateOf 38 = .ok (.i2l, 1) := by decide +kernel
theorem dX10_rateOf_39 : decode cX10_rateOf 39 = .ok (.ldiv, 1) := by decide +kernel
theorem dX10_rateOf_40 : decode cX10_rateOf 40 = .ok (.l2i, 1) := by decide +kernel
theorem dX10_rateOf_41 : decode cX10_rateOf 41 = .ok (.ireturn, 1) := by decide +kernel
theorem dX10_chanceOf_0 : decode cX10_chanceOf 0 = .ok (.ldc2_w 256, 3) := by decide +kernel
theorem dX10_chanceOf_3 : decode cX10_chanceOf 3 = .ok (.lstore_n 2, 1) := by decide +kernel
theorem dX10_chanceOf_4 : decode cX10_chanceOf 4 = .ok (.aload_n 0, 1) := by decide +kernel
theorem dX10_chanceOf_5 : decode cX10_chanceOf 5 = .ok (.getfield 94, 3) := by decide +kernel
theorem dX10_chanceOf_8 : decode cX10_chanceOf 8 = .ok (.iload_n 1, 1) := by decide +kernel
theorem dX10_chanceOf_9 : decode cX10_chanceOf 9 = .ok (.iaload, 1) := by decide +kernel
theorem dX10_chanceOf_10 : decode cX10_chanceOf 10 = .ok (.istore 4, 2) := by decide +kernel
theorem dX10_chanceOf_12 : decode cX10_chanceOf 12 = .ok (.iload 4, 2) := by decide +kernel
theorem dX10_chanceOf_14 : decode cX10_chanceOf 14 = .ok (.aload_n 0, 1) := by decide +kernel
theorem dX10_chanceOf_15 : decode cX10_chanceOf 15 = .ok (.getfield 241, 3) := by decide +kernel
theorem dX10_chanceOf_18 : decode cX10_chanceOf 18 = .ok (.if_icmp .ge 27, 3) := by decide +kernel
theorem dX10_chanceOf_21 : decode cX10_chanceOf 21 = .ok (.lload_n 2, 1) := by decide +kernel
theorem dX10_chanceOf_22 : decode cX10_chanceOf 22 = .ok (.aload_n 0, 1) := by decide +kernel
theorem dX10_chanceOf_23 : decode cX10_chanceOf 23 = .ok (.aload_n 0, 1) := by decide +kernel
theorem dX10_chanceOf_24 : decode cX10_chanceOf 24 = .ok (.getfield 85, 3) := by decide +kernel
theorem dX10_chanceOf_27 : decode cX10_chanceOf 27 = .ok (.iload_n 1, 1) := by decide +kernel
theorem dX10_chanceOf_28 : decode cX10_chanceOf 28 = .ok (.iaload, 1) := by decide +kernel
theorem dX10_chanceOf_29 : decode cX10_chanceOf 29 = .ok (.invokevirtual 258, 3) := by decide +kernel
theorem dX10_chanceOf_32 : decode cX10_chanceOf 32 = .ok (.i2l, 1) := by decide +kernel
theorem dX10_chanceOf_33 : decode cX10_chanceOf 33 = .ok (.lmul, 1) := by decide +kernel
theorem dX10_chanceOf_34 : decode cX10_chanceOf 34 = .ok (.ldc2_w 256, 3) := by decide +kernel
theorem dX10_chanceOf_37 : decode cX10_chanceOf 37 = .ok (.ldiv, 1) := by decide +kernel
theorem dX10_chanceOf_38 : decode cX10_chanceOf 38 = .ok (.lstore_n 2, 1) := by decide +kernel
theorem dX10_chanceOf_39 : decode cX10_chanceOf 39 = .ok (.iinc 4 1, 3) := by decide +kernel
theorem dX10_chanceOf_42 : decode cX10_chanceOf 42 = .ok (.goto (-30), 3) := by decide +kernel
theorem dX10_chanceOf_45 : decode cX10_chanceOf 45 = .ok (.lload_n 2, 1) := by decide +kernel
theorem dX10_chanceOf_46 : decode cX10_chanceOf 46 = .ok (.l2i, 1) := by decide +kernel
theorem dX10_chanceOf_47 : decode cX10_chanceOf 47 = .ok (.ireturn, 1) := by decide +kernel
theorem dX10_rate_0 : decode cX10_rate 0 = .ok (.aload_n 0, 1) := by decide +kernel
theorem dX10_rate_1 : decode cX10_rate 1 = .ok (.iconst 0, 1) := by decide +kernel
theorem dX10_rate_2 : decode cX10_rate 2 = .ok (.putfield 1, 3) := by decide +kernel
theorem dX10_rate_5 : decode cX10_rate 5 = .ok (.iload_n 1, 1) := by decide +kernel
theorem dX10_rate_6 : decode cX10_rate 6 = .ok (.ifCond .lt 8, 3) := by decide +kernel
theorem dX10_rate_9 : decode cX10_rate 9 = .ok (.iload_n 1, 1) := by decide +kernel
theorem dX10_rate_10 : decode cX10_rate 10 = .ok (.iconst 5, 1) := by decide +kernel
theorem dX10_rate_11 : decode cX10_rate 11 = .ok (.if_icmp .le 7, 3) := by decide +kernel
theorem dX10_rate_14 : decode cX10_rate 14 = .ok (.iconst (-1), 1) := by decide +kernel
theorem dX10_rate_15 : decode cX10_rate 15 = .ok (.goto 8, 3) := by decide +kernel
theorem dX10_rate_18 : decode cX10_rate 18 = .ok (.aload_n 0, 1) := by decide +kernel
theorem dX10_rate_19 : decode cX10_rate 19 = .ok (.iload_n 1, 1) := by decide +kernel
theorem dX10_rate_20 : decode cX10_rate 20 = .ok (.invokevirtual 258, 3) := by decide +kernel
theorem dX10_rate_23 : decode cX10_rate 23 = .ok (.ireturn, 1) := by decide +kernel
theorem dX10_chance_0 : decode cX10_chance 0 = .ok (.aload_n 0, 1) := by decide +kernel
theorem dX10_chance_1 : decode cX10_chance 1 = .ok (.iconst 0, 1) := by decide +kernel
theorem dX10_chance_2 : decode cX10_chance 2 = .ok (.putfield 1, 3) := by decide +kernel
theorem dX10_chance_5 : decode cX10_chance 5 = .ok (.aload_n 0, 1) := by decide +kernel
theorem dX10_chance_6 : decode cX10_chance 6 = .ok (.iload_n 1, 1) := by decide +kernel
theorem dX10_chance_7 : decode cX10_chance 7 = .ok (.invokevirtual 253, 3) := by decide +kernel
theorem dX10_chance_10 : decode cX10_chance 10 = .ok (.ifCond .eq 11, 3) := by decide +kernel
theorem dX10_chance_13 : decode cX10_chance 13 = .ok (.aload_n 0, 1) := by decide +kernel
theorem dX10_chance_14 : decode cX10_chance 14 = .ok (.iload_n 1, 1) := by decide +kernel
theorem dX10_chance_15 : decode cX10_chance 15 = .ok (.invokevirtual 261, 3) := by decide +kernel
theorem dX10_chance_18 : decode cX10_chance 18 = .ok (.goto 4, 3) := by decide +kernel
theorem dX10_chance_21 : decode cX10_chance 21 = .ok (.iconst (-1), 1) := by decide +kernel
theorem dX10_chance_22 : decode cX10_chance 22 = .ok (.ireturn, 1) := by decide +kernel
theorem dX10_check_0 : decode cX10_check 0 = .ok (.aload_n 0, 1) := by decide +kernel
theorem dX10_check_1 : decode cX10_check 1 = .ok (.iconst 0, 1) := by decide +kernel
theorem dX10_check_2 : decode cX10_check 2 = .ok (.putfield 1, 3) := by decide +kernel
theorem dX10_check_5 : decode cX10_check 5 = .ok (.aload_n 0, 1) := by decide +kernel
theorem dX10_check_6 : decode cX10_check 6 = .ok (.iload_n 1, 1) := by decide +kernel
theorem dX10_check_7 : decode cX10_check 7 = .ok (.invokevirtual 253, 3) := by decide +kernel
theorem dX10_check_10 : decode cX10_check 10 = .ok (.ifCond .eq 10, 3) := by decide +kernel
theorem dX10_check_13 : decode cX10_check 13 = .ok (.iload_n 2, 1) := by decide +kernel
theorem dX10_check_14 : decode cX10_check 14 = .ok (.invokestatic 247, 3) := by decide +kernel
theorem dX10_check_17 : decode cX10_check 17 = .ok (.ifCond .ne 5, 3) := by decide +kernel
theorem dX10_check_20 : decode cX10_check 20 = .ok (.iconst (-1), 1) := by decide +kernel
theorem dX10_check_21 : decode cX10_check 21 = .ok (.ireturn, 1) := by decide +kernel
theorem dX10_check_22 : decode cX10_check 22 = .ok (.iload_n 2, 1) := by decide +kernel
theorem dX10_check_23 : decode cX10_check 23 = .ok (.aload_n 0, 1) := by decide +kernel
theorem dX10_check_24 : decode cX10_check 24 = .ok (.getfield 91, 3) := by decide +kernel
theorem dX10_check_27 : decode cX10_check 27 = .ok (.iload_n 1, 1) := by decide +kernel
theorem dX10_check_28 : decode cX10_check 28 = .ok (.iaload, 1) := by decide +kernel
theorem dX10_check_29 : decode cX10_check 29 = .ok (.if_icmp .eq 7, 3) := by decide +kernel
theorem dX10_check_32 : decode cX10_check 32 = .ok (.iconst 1, 1) := by decide +kernel
theorem dX10_check_33 : decode cX10_check 33 = .ok (.goto 4, 3) := by decide +kernel
theorem dX10_check_36 : decode cX10_check 36 = .ok (.iconst 0, 1) := by decide +kernel
theorem dX10_check_37 : decode cX10_check 37 = .ok (.istore_n 3, 1) := by decide +kernel
theorem dX10_check_38 : decode cX10_check 38 = .ok (.aload_n 0, 1) := by decide +kernel
theorem dX10_check_39 : decode cX10_check 39 = .ok (.getfield 103, 3) := by decide +kernel
theorem dX10_check_42 : decode cX10_check 42 = .ok (.aload_n 0, 1) := by decide +kernel
theorem dX10_check_43 : decode cX10_check 43 = .ok (.getfield 85, 3) := by decide +kernel
theorem dX10_check_46 : decode cX10_check 46 = .ok (.iload_n 1, 1) := by decide +kernel
theorem dX10_check_47 : decode cX10_check 47 = .ok (.iaload, 1) := by decide +kernel
theorem dX10_check_48 : decode cX10_check 48 = .ok (.dup2, 1) := by decide +kernel
theorem dX10_check_49 : decode cX10_check 49 = .ok (.iaload, 1) := by decide +kernel
theorem dX10_check_50 : decode cX10_check 50 = .ok (.aload_n 0, 1) := by decide +kernel
theorem dX10_check_51 : decode cX10_check 51 = .ok (.getfield 241, 3) := by decide +kernel
theorem dX10_check_54 : decode cX10_check 54 = .ok (.aload_n 0, 1) := by decide +kernel
theorem dX10_check_55 : decode cX10_check 55 = .ok (.getfield 94, 3) := by decide +kernel
theorem dX10_check_58 : decode cX10_check 58 = .ok (.iload_n 1, 1) := by decide +kernel
theorem dX10_check_59 : decode cX10_check 59 = .ok (.iaload, 1) := by decide +kernel
theorem dX10_check_60 : decode cX10_check 60 = .ok (.isub, 1) := by decide +kernel
theorem dX10_check_61 : decode cX10_check 61 = .ok (.iadd, 1) := by decide +kernel
theorem dX10_check_62 : decode cX10_check 62 = .ok (.iastore, 1) := by decide +kernel
theorem dX10_check_63 : decode cX10_check 63 = .ok (.aload_n 0, 1) := by decide +kernel
theorem dX10_check_64 : decode cX10_check 64 = .ok (.getfield 106, 3) := by decide +kernel
theorem dX10_check_67 : decode cX10_check 67 = .ok (.aload_n 0, 1) := by decide +kernel
theorem dX10_check_68 : decode cX10_check 68 = .ok (.getfield 85, 3) := by decide +kernel
theorem dX10_check_71 : decode cX10_check 71 = .ok (.iload_n 1, 1) := by decide +kernel
theorem dX10_check_72 : decode cX10_check 72 = .ok (.iaload, 1) := by decide +kernel
theorem dX10_check_73 : decode cX10_check 73 = .ok (.dup2, 1) := by decide +kernel
theorem dX10_check_74 : decode cX10_check 74 = .ok (.iaload, 1) := by decide +kernel
theorem dX10_check_75 : decode cX10_check 75 = .ok (.iload_n 3, 1) := by decide +kernel
theorem dX10_check_76 : decode cX10_check 76 = .ok (.ifCond .eq 7, 3) := by decide +kernel
theorem dX10_check_79 : decode cX10_check 79 = .ok (.iconst 1, 1) := by decide +kernel
theorem dX10_check_80 : decode cX10_check 80 = .ok (.goto 4, 3) := by decide +kernel
theorem dX10_check_83 : decode cX10_check 83 = .ok (.iconst 0, 1) := by decide +kernel
theorem dX10_check_84 : decode cX10_check 84 = .ok (.iadd, 1) := by decide +kernel
theorem dX10_check_85 : decode cX10_check 85 = .ok (.iastore, 1) := by decide +kernel
theorem dX10_check_86 : decode cX10_check 86 = .ok (.aload_n 0, 1) := by decide +kernel
theorem dX10_check_87 : decode cX10_check 87 = .ok (.getfield 91, 3) := by decide +kernel
theorem dX10_check_90 : decode cX10_check 90 = .ok (.iload_n 1, 1) := by decide +kernel
theorem dX10_check_91 : decode cX10_check 91 = .ok (.iload_n 2, 1) := by decide +kernel
theorem dX10_check_92 : decode cX10_check 92 = .ok (.iastore, 1) := by decide +kernel
theorem dX10_check_93 : decode cX10_check 93 = .ok (.aload_n 0, 1) := by decide +kernel
theorem dX10_check_94 : decode cX10_check 94 = .ok (.getfield 94, 3) := by decide +kernel
theorem dX10_check_97 : decode cX10_check 97 = .ok (.iload_n 1, 1) := by decide +kernel
theorem dX10_check_98 : decode cX10_check 98 = .ok (.aload_n 0, 1) := by decide +kernel
theorem dX10_check_99 : decode cX10_check 99 = .ok (.getfield 241, 3) := by decide +kernel
theorem dX10_check_102 : decode cX10_check 102 = .ok (.iastore, 1) := by decide +kernel
theorem dX10_check_103 : decode cX10_check 103 = .ok (.iconst 0, 1) := by decide +kernel
theorem dX10_check_104 : decode cX10_check 104 = .ok (.istore 4, 2) := by decide +kernel
theorem dX10_check_106 : decode cX10_check 106 = .ok (.iload 4, 2) := by decide +kernel
theorem dX10_check_108 : decode cX10_check 108 = .ok (.aload_n 0, 1) := by decide +kernel
theorem dX10_check_109 : decode cX10_check 109 = .ok (.getfield 264, 3) := by decide +kernel
theorem dX10_check_112 : decode cX10_check 112 = .ok (.if_icmp .ge 53, 3) := by decide +kernel
theorem dX10_check_115 : decode cX10_check 115 = .ok (.aload_n 0, 1) := by decide +kernel
theorem dX10_check_116 : decode cX10_check 116 = .ok (.getfield 118, 3) := by decide +kernel
theorem dX10_check_119 : decode cX10_check 119 = .ok (.iload 4, 2) := by decide +kernel
theorem dX10_check_121 : decode cX10_check 121 = .ok (.iaload, 1) := by decide +kernel
theorem dX10_check_122 : decode cX10_check 122 = .ok (.iload_n 1, 1) := by decide +kernel
theorem dX10_check_123 : decode cX10_check 123 = .ok (.if_icmp .ne 36, 3) := by decide +kernel
theorem dX10_check_126 : decode cX10_check 126 = .ok (.aload_n 0, 1) := by decide +kernel
theorem dX10_check_127 : decode cX10_check 127 = .ok (.getfield 124, 3) := by decide +kernel
theorem dX10_check_130 : decode cX10_check 130 = .ok (.iload 4, 2) := by decide +kernel
theorem dX10_check_132 : decode cX10_check 132 = .ok (.iaload, 1) := by decide +kernel
theorem dX10_check_133 : decode cX10_check 133 = .ok (.ifCond .ne 26, 3) := by decide +kernel
theorem dX10_check_136 : decode cX10_check 136 = .ok (.aload_n 0, 1) := by decide +kernel
theorem dX10_check_137 : decode cX10_check 137 = .ok (.getfield 124, 3) := by decide +kernel
theorem dX10_check_140 : decode cX10_check 140 = .ok (.iload 4, 2) := by decide +kernel
theorem dX10_check_142 : decode cX10_check 142 = .ok (.aload_n 0, 1) := by decide +kernel
theorem dX10_check_143 : decode cX10_check 143 = .ok (.getfield 121, 3) := by decide +kernel
theorem dX10_check_146 : decode cX10_check 146 = .ok (.iload 4, 2) := by decide +kernel
theorem dX10_check_148 : decode cX10_check 148 = .ok (.iaload, 1) := by decide +kernel
theorem dX10_check_149 : decode cX10_check 149 = .ok (.iload_n 2, 1) := by decide +kernel
theorem dX10_check_150 : decode cX10_check 150 = .ok (.if_icmp .ne 7, 3) := by decide +kernel
theorem dX10_check_153 : decode cX10_check 153 = .ok (.iconst 1, 1) := by decide +kernel
theorem dX10_check_154 : decode cX10_check 154 = .ok (.goto 4, 3) := by decide +kernel
theorem dX10_check_157 : decode cX10_check 157 = .ok (.iconst 2, 1) := by decide +kernel
theorem dX10_check_158 : decode cX10_check 158 = .ok (.iastore, 1) := by decide +kernel
theorem dX10_check_159 : decode cX10_check 159 = .ok (.iinc 4 1, 3) := by decide +kernel
theorem dX10_check_162 : decode cX10_check 162 = .ok (.goto (-56), 3) := by decide +kernel
theorem dX10_check_165 : decode cX10_check 165 = .ok (.aload_n 0, 1) := by decide +kernel
theorem dX10_check_166 : decode cX10_check 166 = .ok (.iload_n 1, 1) := by decide +kernel
theorem dX10_check_167 : decode cX10_check 167 = .ok (.iload_n 2, 1) := by decide +kernel
theorem dX10_check_168 : decode cX10_check 168 = .ok (.invokevirtual 267, 3) := by decide +kernel
theorem dX10_check_171 : decode cX10_check 171 = .ok (.iload_n 3, 1) := by decide +kernel
theorem dX10_check_172 : decode cX10_check 172 = .ok (.ifCond .eq 7, 3) := by decide +kernel
theorem dX10_check_175 : decode cX10_check 175 = .ok (.iconst 1, 1) := by decide +kernel
theorem dX10_check_176 : decode cX10_check 176 = .ok (.goto 4, 3) := by decide +kernel
theorem dX10_check_179 : decode cX10_check 179 = .ok (.iconst 0, 1) := by decide +kernel
theorem dX10_check_180 : decode cX10_check 180 = .ok (.ireturn, 1) := by decide +kernel
theorem dX10_takes_0 : decode cX10_takes 0 = .ok (.aload_n 0, 1) := by decide +kernel
theorem dX10_takes_1 : decode cX10_takes 1 = .ok (.iconst 0, 1) := by decide +kernel
theorem dX10_takes_2 : decode cX10_takes 2 = .ok (.putfield 1, 3) := by decide +kernel
theorem dX10_takes_5 : decode cX10_takes 5 = .ok (.iload_n 1, 1) := by decide +kernel
theorem dX10_takes_6 : decode cX10_takes 6 = .ok (.invokestatic 244, 3) := by decide +kernel
theorem dX10_takes_9 : decode cX10_takes 9 = .ok (.ifCond .eq 14, 3) := by decide +kernel
theorem dX10_takes_12 : decode cX10_takes 12 = .ok (.iload_n 2, 1) := by decide +kernel
theorem dX10_takes_13 : decode cX10_takes 13 = .ok (.iconst 1, 1) := by decide +kernel
theorem dX10_takes_14 : decode cX10_takes 14 = .ok (.if_icmp .lt 9, 3) := by decide +kernel
theorem dX10_takes_17 : decode cX10_takes 17 = .ok (.iload_n 2, 1) := by decide +kernel
theorem dX10_takes_18 : decode cX10_takes 18 = .ok (.bipush 20, 2) := by decide +kernel
theorem dX10_takes_20 : decode cX10_takes 20 = .ok (.if_icmp .le 5, 3) := by decide +kernel
theorem dX10_takes_23 : decode cX10_takes 23 = .ok (.iconst 0, 1) := by decide +kernel
theorem dX10_takes_24 : decode cX10_takes 24 = .ok (.ireturn, 1) := by decide +kernel
theorem dX10_takes_25 : decode cX10_takes 25 = .ok (.aload_n 0, 1) := by decide +kernel
theorem dX10_takes_26 : decode cX10_takes 26 = .ok (.getfield 109, 3) := by decide +kernel
theorem dX10_takes_29 : decode cX10_takes 29 = .ok (.iload_n 1, 1) := by decide +kernel
theorem dX10_takes_30 : decode cX10_takes 30 = .ok (.iload_n 2, 1) := by decide +kernel
theorem dX10_takes_31 : decode cX10_takes 31 = .ok (.iastore, 1) := by decide +kernel
theorem dX10_takes_32 : decode cX10_takes 32 = .ok (.iconst 1, 1) := by decide +kernel
theorem dX10_takes_33 : decode cX10_takes 33 = .ok (.ireturn, 1) := by decide +kernel
theorem dX10_daysOf_0 : decode cX10_daysOf 0 = .ok (.iconst 0, 1) := by decide +kernel
theorem dX10_daysOf_1 : decode cX10_daysOf 1 = .ok (.istore_n 2, 1) := by decide +kernel
theorem dX10_daysOf_2 : decode cX10_daysOf 2 = .ok (.iconst 0, 1) := by decide +kernel
theorem dX10_daysOf_3 : decode cX10_daysOf 3 = .ok (.istore_n 3, 1) := by decide +kernel
theorem dX10_daysOf_4 : decode cX10_daysOf 4 = .ok (.iload_n 3, 1) := by decide +kernel
theorem dX10_daysOf_5 : decode cX10_daysOf 5 = .ok (.bipush 10, 2) := by decide +kernel
theorem dX10_daysOf_7 : decode cX10_daysOf 7 = .ok (.if_icmp .ge 31, 3) := by decide +kernel
theorem dX10_daysOf_10 : decode cX10_daysOf 10 = .ok (.iload_n 2, 1) := by decide +kernel
theorem dX10_daysOf_11 : decode cX10_daysOf 11 = .ok (.iload_n 1, 1) := by decide +kernel
theorem dX10_daysOf_12 : decode cX10_daysOf 12 = .ok (.iload_n 3, 1) := by decide +kernel
theorem dX10_daysOf_13 : decode cX10_daysOf 13 = .ok (.ishr, 1) := by decide +kernel
theorem dX10_daysOf_14 : decode cX10_daysOf 14 = .ok (.iconst 1, 1) := by decide +kernel
theorem dX10_daysOf_15 : decode cX10_daysOf 15 = .ok (.iand, 1) := by decide +kernel
theorem dX10_daysOf_16 : decode cX10_daysOf 16 = .ok (.iconst 1, 1) := by decide +kernel
theorem dX10_daysOf_17 : decode cX10_daysOf 17 = .ok (.if_icmp .ne 12, 3) := by decide +kernel
theorem dX10_daysOf_20 : decode cX10_daysOf 20 = .ok (.aload_n 0, 1) := by decide +kernel
theorem dX10_daysOf_21 : decode cX10_daysOf 21 = .ok (.getfield 109, 3) := by decide +kernel
theorem dX10_daysOf_24 : decode cX10_daysOf 24 = .ok (.iload_n 3, 1) := by decide +kernel
theorem dX10_daysOf_25 : decode cX10_daysOf 25 = .ok (.iaload, 1) := by decide +kernel
theorem dX10_daysOf_26 : decode cX10_daysOf 26 = .ok (.goto 4, 3) := by decide +kernel
theorem dX10_daysOf_29 : decode cX10_daysOf 29 = .ok (.iconst 0, 1) := by decide +kernel
theorem dX10_daysOf_30 : decode cX10_daysOf 30 = .ok (.iadd, 1) := by decide +kernel
theorem dX10_daysOf_31 : decode cX10_daysOf 31 = .ok (.istore_n 2, 1) := by decide +kernel
theorem dX10_daysOf_32 : decode cX10_daysOf 32 = .ok (.iinc 3 1, 3) := by decide +kernel
theorem dX10_daysOf_35 : decode cX10_daysOf 35 = .ok (.goto (-31), 3) := by decide +kernel
theorem dX10_daysOf_38 : decode cX10_daysOf 38 = .ok (.iload_n 2, 1) := by decide +kernel
theorem dX10_daysOf_39 : decode cX10_daysOf 39 = .ok (.ireturn, 1) := by decide +kernel
theorem dX10_doubtOf_0 : decode cX10_doubtOf 0 = .ok (.lconst 0, 1) := by decide +kernel
theorem dX10_doubtOf_1 : decode cX10_doubtOf 1 = .ok (.lstore_n 2, 1) := by decide +kernel
theorem dX10_doubtOf_2 : decode cX10_doubtOf 2 = .ok (.iconst 0, 1) := by decide +kernel
theorem dX10_doubtOf_3 : decode cX10_doubtOf 3 = .ok (.istore 4, 2) := by decide +kernel
theorem dX10_doubtOf_5 : decode cX10_doubtOf 5 = .ok (.iload 4, 2) := by decide +kernel
theorem dX10_doubtOf_7 : decode cX10_doubtOf 7 = .ok (.bipush 10, 2) := by decide +kernel
theorem dX10_doubtOf_9 : decode cX10_doubtOf 9 = .ok (.if_icmp .ge 33, 3) := by decide +kernel
theorem dX10_doubtOf_12 : decode cX10_doubtOf 12 = .ok (.lload_n 2, 1) := by decide +kernel
theorem dX10_doubtOf_13 : decode cX10_doubtOf 13 = .ok (.iload_n 1, 1) := by decide +kernel
theorem dX10_doubtOf_14 : decode cX10_doubtOf 14 = .ok (.iload 4, 2) := by decide +kernel
theorem dX10_doubtOf_16 : decode cX10_doubtOf 16 = .ok (.ishr, 1) := by decide +kernel
theorem dX10_doubtOf_17 : decode cX10_doubtOf 17 = .ok (.iconst 1, 1) := by decide +kernel
theorem dX10_doubtOf_18 : decode cX10_doubtOf 18 = .ok (.iand, 1) := by decide +kernel
theorem dX10_doubtOf_19 : decode cX10_doubtOf 19 = .ok (.iconst 1, 1) := by decide +kernel
theorem dX10_doubtOf_20 : decode cX10_doubtOf 20 = .ok (.if_icmp .ne 13, 3) := by decide +kernel
theorem dX10_doubtOf_23 : decode cX10_doubtOf 23 = .ok (.aload_n 0, 1) := by decide +kernel
theorem dX10_doubtOf_24 : decode cX10_doubtOf 24 = .ok (.getfield 112, 3) := by decide +kernel
theorem dX10_doubtOf_27 : decode cX10_doubtOf 27 = .ok (.iload 4, 2) := by decide +kernel
theorem dX10_doubtOf_29 : decode cX10_doubtOf 29 = .ok (.laload, 1) := by decide +kernel
theorem dX10_doubtOf_30 : decode cX10_doubtOf 30 = .ok (.goto 4, 3) := by decide +kernel
theorem dX10_doubtOf_33 : decode cX10_doubtOf 33 = .ok (.lconst 0, 1) := by decide +kernel
theorem dX10_doubtOf_34 : decode cX10_doubtOf 34 = .ok (.ladd, 1) := by decide +kernel
theorem dX10_doubtOf_35 : decode cX10_doubtOf 35 = .ok (.lstore_n 2, 1) := by decide +kernel
theorem dX10_doubtOf_36 : decode cX10_doubtOf 36 = .ok (.iinc 4 1, 3) := by decide +kernel
theorem dX10_doubtOf_39 : decode cX10_doubtOf 39 = .ok (.goto (-34), 3) := by decide +kernel
theorem dX10_doubtOf_42 : decode cX10_doubtOf 42 = .ok (.lload_n 2, 1) := by decide +kernel
theorem dX10_doubtOf_43 : decode cX10_doubtOf 43 = .ok (.lreturn, 1) := by decide +kernel
theorem dX10_plan_0 : decode cX10_plan 0 = .ok (.aload_n 0, 1) := by decide +kernel
theorem dX10_plan_1 : decode cX10_plan 1 = .ok (.iconst 0, 1) := by decide +kernel
theorem dX10_plan_2 : decode cX10_plan 2 = .ok (.putfield 1, 3) := by decide +kernel
theorem dX10_plan_5 : decode cX10_plan 5 = .ok (.iload_n 1, 1) := by decide +kernel
theorem dX10_plan_6 : decode cX10_plan 6 = .ok (.ifCond .lt 18, 3) := by decide +kernel
theorem dX10_plan_9 : decode cX10_plan 9 = .ok (.iload_n 1, 1) := by decide +kernel
theorem dX10_plan_10 : decode cX10_plan 10 = .ok (.bipush 99, 2) := by decide +kernel
theorem dX10_plan_12 : decode cX10_plan 12 = .ok (.if_icmp .gt 12, 3) := by decide +kernel
theorem dX10_plan_15 : decode cX10_plan 15 = .ok (.iload_n 2, 1) := by decide +kernel
theorem dX10_plan_16 : decode cX10_plan 16 = .ok (.ifCond .lt 8, 3) := by decide +kernel
theorem dX10_plan_19 : decode cX10_plan 19 = .ok (.iload_n 2, 1) := by decide +kernel
theorem dX10_plan_20 : decode cX10_plan 20 = .ok (.iconst 1, 1) := by decide +kernel
theorem dX10_plan_21 : decode cX10_plan 21 = .ok (.if_icmp .le 5, 3) := by decide +kernel
theorem dX10_plan_24 : decode cX10_plan 24 = .ok (.iconst (-1), 1) := by decide +kernel
theorem dX10_plan_25 : decode cX10_plan 25 = .ok (.ireturn, 1) := by decide +kernel
theorem dX10_plan_26 : decode cX10_plan 26 = .ok (.iconst 0, 1) := by decide +kernel
theorem dX10_plan_27 : decode cX10_plan 27 = .ok (.istore_n 3, 1) := by decide +kernel
theorem dX10_plan_28 : decode cX10_plan 28 = .ok (.iload_n 3, 1) := by decide +kernel
theorem dX10_plan_29 : decode cX10_plan 29 = .ok (.bipush 10, 2) := by decide +kernel
theorem dX10_plan_31 : decode cX10_plan 31 = .ok (.if_icmp .ge 16, 3) := by decide +kernel
theorem dX10_plan_34 : decode cX10_plan 34 = .ok (.aload_n 0, 1) := by decide +kernel
theorem dX10_plan_35 : decode cX10_plan 35 = .ok (.getfield 112, 3) := by decide +kernel
theorem dX10_plan_38 : decode cX10_plan 38 = .ok (.iload_n 3, 1) := by decide +kernel
theorem dX10_plan_39 : decode cX10_plan 39 = .ok (.lconst 0, 1) := by decide +kernel
theorem dX10_plan_40 : decode cX10_plan 40 = .ok (.lastore, 1) := by decide +kernel
theorem dX10_plan_41 : decode cX10_plan 41 = .ok (.iinc 3 1, 3) := by decide +kernel
theorem dX10_plan_44 : decode cX10_plan 44 = .ok (.goto (-16), 3) := by decide +kernel
theorem dX10_plan_47 : decode cX10_plan 47 = .ok (.iconst 0, 1) := by decide +kernel
theorem dX10_plan_48 : decode cX10_plan 48 = .ok (.istore_n 3, 1) := by decide +kernel
theorem dX10_plan_49 : decode cX10_plan 49 = .ok (.iload_n 3, 1) := by decide +kernel
theorem dX10_plan_50 : decode cX10_plan 50 = .ok (.aload_n 0, 1) := by decide +kernel
theorem dX10_plan_51 : decode cX10_plan 51 = .ok (.getfield 250, 3) := by decide +kernel
theorem dX10_plan_54 : decode cX10_plan 54 = .ok (.if_icmp .ge 33, 3) := by decide +kernel
theorem dX10_plan_57 : decode cX10_plan 57 = .ok (.aload_n 0, 1) := by decide +kernel
theorem dX10_plan_58 : decode cX10_plan 58 = .ok (.getfield 112, 3) := by decide +kernel
theorem dX10_plan_61 : decode cX10_plan 61 = .ok (.aload_n 0, 1) := by decide +kernel
theorem dX10_plan_62 : decode cX10_plan 62 = .ok (.getfield 88, 3) := by decide +kernel
theorem dX10_plan_65 : decode cX10_plan 65 = .ok (.iload_n 3, 1) := by decide +kernel
theorem dX10_plan_66 : decode cX10_plan 66 = .ok (.iaload, 1) := by decide +kernel
theorem dX10_plan_67 : decode cX10_plan 67 = .ok (.dup2, 1) := by decide +kernel
theorem dX10_plan_68 : decode cX10_plan 68 = .ok (.laload, 1) := by decide +kernel
theorem dX10_plan_69 : decode cX10_plan 69 = .ok (.ldc_w 270, 3) := by decide +kernel
theorem dX10_plan_72 : decode cX10_plan 72 = .ok (.aload_n 0, 1) := by decide +kernel
theorem dX10_plan_73 : decode cX10_plan 73 = .ok (.iload_n 3, 1) := by decide +kernel
theorem dX10_plan_74 : decode cX10_plan 74 = .ok (.invokevirtual 261, 3) := by decide +kernel
theorem dX10_plan_77 : decode cX10_plan 77 = .ok (.isub, 1) := by decide +kernel
theorem dX10_plan_78 : decode cX10_plan 78 = .ok (.i2l, 1) := by decide +kernel
theorem dX10_plan_79 : decode cX10_plan 79 = .ok (.ladd, 1) := by decide +kernel
theorem dX10_plan_80 : decode cX10_plan 80 = .ok (.lastore, 1) := by decide +kernel
theorem dX10_plan_81 : decode cX10_plan 81 = .ok (.iinc 3 1, 3) := by decide +kernel
theorem dX10_plan_84 : decode cX10_plan 84 = .ok (.goto (-35), 3) := by decide +kernel
theorem dX10_plan_87 : decode cX10_plan 87 = .ok (.iconst 0, 1) := by decide +kernel
theorem dX10_plan_88 : decode cX10_plan 88 = .ok (.istore_n 3, 1) := by decide +kernel
theorem dX10_plan_89 : decode cX10_plan 89 = .ok (.iconst 1, 1) := by decide +kernel
theorem dX10_plan_90 : decode cX10_plan 90 = .ok (.istore 4, 2) := by decide +kernel
theorem dX10_plan_92 : decode cX10_plan 92 = .ok (.iload 4, 2) := by decide +kernel
theorem dX10_plan_94 : decode cX10_plan 94 = .ok (.sipush 1024, 3) := by decide +kernel
theorem dX10_plan_97 : decode cX10_plan 97 = .ok (.if_icmp .ge 82, 3) := by decide +kernel
theorem dX10_plan_100 : decode cX10_plan 100 = .ok (.aload_n 0, 1) := by decide +kernel
theorem dX10_plan_101 : decode cX10_plan 101 = .ok (.iload 4, 2) := by decide +kernel
theorem dX10_plan_103 : decode cX10_plan 103 = .ok (.invokevirtual 271, 3) := by decide +kernel
theorem dX10_plan_106 : decode cX10_plan 106 = .ok (.aload_n 0, 1) := by decide +kernel
theorem dX10_plan_107 : decode cX10_plan 107 = .ok (.iload_n 3, 1) := by decide +kernel
theorem dX10_plan_108 : decode cX10_plan 108 = .ok (.invokevirtual 271, 3) := by decide +kernel
theorem dX10_plan_111 : decode cX10_plan 111 = .ok (.lcmp, 1) := by decide +kernel
theorem dX10_plan_112 : decode cX10_plan 112 = .ok (.ifCond .gt 32, 3) := by decide +kernel
theorem dX10_plan_115 : decode cX10_plan 115 = .ok (.aload_n 0, 1) := by decide +kernel
theorem dX10_plan_116 : decode cX10_plan 116 = .ok (.iload 4, 2) := by decide +kernel
theorem dX10_plan_118 : decode cX10_plan 118 = .ok (.invokevirtual 271, 3) := by decide +kernel
theorem dX10_plan_121 : decode cX10_plan 121 = .ok (.aload_n 0, 1) := by decide +kernel
theorem dX10_plan_122 : decode cX10_plan 122 = .ok (.iload_n 3, 1) := by decide +kernel
theorem dX10_plan_123 : decode cX10_plan 123 = .ok (.invokevirtual 271, 3) := by decide +kernel
theorem dX10_plan_126 : decode cX10_plan 126 = .ok (.lcmp, 1) := by decide +kernel
theorem dX10_plan_127 : decode cX10_plan 127 = .ok (.ifCond .ne 21, 3) := by decide +kernel
theorem dX10_plan_130 : decode cX10_plan 130 = .ok (.aload_n 0, 1) := by decide +kernel
theorem dX10_plan_131 : decode cX10_plan 131 = .ok (.iload 4, 2) := by decide +kernel
theorem dX10_plan_133 : decode cX10_plan 133 = .ok (.invokevirtual 275, 3) := by decide +kernel
theorem dX10_plan_136 : decode cX10_plan 136 = .ok (.aload_n 0, 1) := by decide +kernel
theorem dX10_plan_137 : decode cX10_plan 137 = .ok (.iload_n 3, 1) := by decide +kernel
theorem dX10_plan_138 : decode cX10_plan 138 = .ok (.invokevirtual 275, 3) := by decide +kernel
theorem dX10_plan_141 : decode cX10_plan 141 = .ok (.if_icmp .ge 7, 3) := by decide +kernel
theorem dX10_plan_144 : decode cX10_plan 144 = .ok (.iconst 1, 1) := by decide +kernel
theorem dX10_plan_145 : decode cX10_plan 145 = .ok (.goto 4, 3) := by decide +kernel
theorem dX10_plan_148 : decode cX10_plan 148 = .ok (.iconst 0, 1) := by decide +kernel
theorem dX10_plan_149 : decode cX10_plan 149 = .ok (.istore 5, 2) := by decide +kernel
theorem dX10_plan_151 : decode cX10_plan 151 = .ok (.aload_n 0, 1) := by decide +kernel
theorem dX10_plan_152 : decode cX10_plan 152 = .ok (.iload 4, 2) := by decide +kernel
theorem dX10_plan_154 : decode cX10_plan 154 = .ok (.invokevirtual 275, 3) := by decide +kernel
theorem dX10_plan_157 : decode cX10_plan 157 = .ok (.iload_n 1, 1) := by decide +kernel
theorem dX10_plan_158 : decode cX10_plan 158 = .ok (.if_icmp .gt 13, 3) := by decide +kernel
theorem dX10_plan_161 : decode cX10_plan 161 = .ok (.iload 5, 2) := by decide +kernel
theorem dX10_plan_163 : decode cX10_plan 163 = .ok (.ifCond .eq 8, 3) := by decide +kernel
theorem dX10_plan_166 : decode cX10_plan 166 = .ok (.iload 4, 2) := by decide +kernel
theorem dX10_plan_168 : decode cX10_plan 168 = .ok (.goto 4, 3) := by decide +kernel
theorem dX10_plan_171 : decode cX10_plan 171 = .ok (.iload_n 3, 1) := by decide +kernel
theorem dX10_plan_172 : decode cX10_plan 172 = .ok (.istore_n 3, 1) := by decide +kernel
theorem dX10_plan_173 : decode cX10_plan 173 = .ok (.iinc 4 1, 3) := by decide +kernel
theorem dX10_plan_176 : decode cX10_plan 176 = .ok (.goto (-84), 3) := by decide +kernel
theorem dX10_plan_179 : decode cX10_plan 179 = .ok (.iload_n 2, 1) := by decide +kernel
theorem dX10_plan_180 : decode cX10_plan 180 = .ok (.ifCond .ne 7, 3) := by decide +kernel
theorem dX10_plan_183 : decode cX10_plan 183 = .ok (.iload_n 3, 1) := by decide +kernel
theorem dX10_plan_184 : decode cX10_plan 184 = .ok (.goto 13, 3) := by decide +kernel
theorem dX10_plan_187 : decode cX10_plan 187 = .ok (.aload_n 0, 1) := by decide +kernel
theorem dX10_plan_188 : decode cX10_plan 188 = .ok (.iload_n 3, 1) := by decide +kernel
theorem dX10_plan_189 : decode cX10_plan 189 = .ok (.invokevirtual 271, 3) := by decide +kernel
theorem dX10_plan_192 : decode cX10_plan 192 = .ok (.ldc2_w 278, 3) := by decide +kernel
theorem dX10_plan_195 : decode cX10_plan 195 = .ok (.ldiv, 1) := by decide +kernel
theorem dX10_plan_196 : decode cX10_plan 196 = .ok (.l2i, 1) := by decide +kernel
theorem dX10_plan_197 : decode cX10_plan 197 = .ok (.ireturn, 1) := by decide +kernel
theorem dX10_letter_0 : decode cX10_letter 0 = .ok (.aload_n 0, 1) := by decide +kernel
theorem dX10_letter_1 : decode cX10_letter 1 = .ok (.iconst 0, 1) := by decide +kernel
theorem dX10_letter_2 : decode cX10_letter 2 = .ok (.putfield 1, 3) := by decide +kernel
theorem dX10_letter_5 : decode cX10_letter 5 = .ok (.iload_n 1, 1) := by decide +kernel
theorem dX10_letter_6 : decode cX10_letter 6 = .ok (.ifCond .lt 33, 3) := by decide +kernel
theorem dX10_letter_9 : decode cX10_letter 9 = .ok (.iload_n 1, 1) := by decide +kernel
theorem dX10_letter_10 : decode cX10_letter 10 = .ok (.bipush 19, 2) := by decide +kernel
theorem dX10_letter_12 : decode cX10_letter 12 = .ok (.if_icmp .gt 27, 3) := by decide +kernel
theorem dX10_letter_15 : decode cX10_letter 15 = .ok (.aload_n 0, 1) := by decide +kernel
theorem dX10_letter_16 : decode cX10_letter 16 = .ok (.iload_n 2, 1) := by decide +kernel
theorem dX10_letter_17 : decode cX10_letter 17 = .ok (.invokevirtual 253, 3) := by decide +kernel
theorem dX10_letter_20 : decode cX10_letter 20 = .ok (.ifCond .eq 19, 3) := by decide +kernel
theorem dX10_letter_23 : decode cX10_letter 23 = .ok (.iload_n 3, 1) := by decide +kernel
theorem dX10_letter_24 : decode cX10_letter 24 = .ok (.invokestatic 247, 3) := by decide +kernel
theorem dX10_letter_27 : decode cX10_letter 27 = .ok (.ifCond .eq 12, 3) := by decide +kernel
theorem dX10_letter_30 : decode cX10_letter 30 = .ok (.aload_n 0, 1) := by decide +kernel
theorem dX10_letter_31 : decode cX10_letter 31 = .ok (.getfield 264, 3) := by decide +kernel
theorem dX10_letter_34 : decode cX10_letter 34 = .ok (.bipush 100, 2) := by decide +kernel
theorem dX10_letter_36 : decode cX10_letter 36 = .ok (.if_icmp .ne 5, 3) := by decide +kernel
theorem dX10_letter_39 : decode cX10_letter 39 = .ok (.iconst (-1), 1) := by decide +kernel
theorem dX10_letter_40 : decode cX10_letter 40 = .ok (.ireturn, 1) := by decide +kernel
theorem dX10_letter_41 : decode cX10_letter 41 = .ok (.aload_n 0, 1) := by decide +kernel
theorem dX10_letter_42 : decode cX10_letter 42 = .ok (.getfield 115, 3) := by decide +kernel
theorem dX10_letter_45 : decode cX10_letter 45 = .ok (.aload_n 0, 1) := by decide +kernel
theorem dX10_letter_46 : decode cX10_letter 46 = .ok (.getfield 264, 3) := by decide +kernel
theorem dX10_letter_49 : decode cX10_letter 49 = .ok (.iload_n 1, 1) := by decide +kernel
theorem dX10_letter_50 : decode cX10_letter 50 = .ok (.iastore, 1) := by decide +kernel
theorem dX10_letter_51 : decode cX10_letter 51 = .ok (.aload_n 0, 1) := by decide +kernel
theorem dX10_letter_52 : decode cX10_letter 52 = .ok (.getfield 118, 3) := by decide +kernel
theorem dX10_letter_55 : decode cX10_letter 55 = .ok (.aload_n 0, 1) := by decide +kernel
theorem dX10_letter_56 : decode cX10_letter 56 = .ok (.getfield 264, 3) := by decide +kernel
theorem dX10_letter_59 : decode cX10_letter 59 = .ok (.iload_n 2, 1) := by decide +kernel
theorem dX10_letter_60 : decode cX10_letter 60 = .ok (.iastore, 1) := by decide +kernel
theorem dX10_letter_61 : decode cX10_letter 61 = .ok (.aload_n 0, 1) := by decide +kernel
theorem dX10_letter_62 : decode cX10_letter 62 = .ok (.getfield 121, 3) := by decide +kernel
theorem dX10_letter_65 : decode cX10_letter 65 = .ok (.aload_n 0, 1) := by decide +kernel
theorem dX10_letter_66 : decode cX10_letter 66 = .ok (.getfield 264, 3) := by decide +kernel
theorem dX10_letter_69 : decode cX10_letter 69 = .ok (.iload_n 3, 1) := by decide +kernel
theorem dX10_letter_70 : decode cX10_letter 70 = .ok (.iastore, 1) := by decide +kernel
theorem dX10_letter_71 : decode cX10_letter 71 = .ok (.aload_n 0, 1) := by decide +kernel
theorem dX10_letter_72 : decode cX10_letter 72 = .ok (.dup, 1) := by decide +kernel
theorem dX10_letter_73 : decode cX10_letter 73 = .ok (.getfield 264, 3) := by decide +kernel
theorem dX10_letter_76 : decode cX10_letter 76 = .ok (.iconst 1, 1) := by decide +kernel
theorem dX10_letter_77 : decode cX10_letter 77 = .ok (.iadd, 1) := by decide +kernel
theorem dX10_letter_78 : decode cX10_letter 78 = .ok (.putfield 264, 3) := by decide +kernel
theorem dX10_letter_81 : decode cX10_letter 81 = .ok (.aload_n 0, 1) := by decide +kernel
theorem dX10_letter_82 : decode cX10_letter 82 = .ok (.getfield 264, 3) := by decide +kernel
theorem dX10_letter_85 : decode cX10_letter 85 = .ok (.iconst 1, 1) := by decide +kernel
theorem dX10_letter_86 : decode cX10_letter 86 = .ok (.isub, 1) := by decide +kernel
theorem dX10_letter_87 : decode cX10_letter 87 = .ok (.ireturn, 1) := by decide +kernel
theorem dX10_weightOf_0 : decode cX10_weightOf 0 = .ok (.iconst 0, 1) := by decide +kernel
theorem dX10_weightOf_1 : decode cX10_weightOf 1 = .ok (.istore_n 2, 1) := by decide +kernel
theorem dX10_weightOf_2 : decode cX10_weightOf 2 = .ok (.iconst 0, 1) := by decide +kernel
theorem dX10_weightOf_3 : decode cX10_weightOf 3 = .ok (.istore_n 3, 1) := by decide +kernel
theorem dX10_weightOf_4 : decode cX10_weightOf 4 = .ok (.iconst 0, 1) := by decide +kernel
theorem dX10_weightOf_5 : decode cX10_weightOf 5 = .ok (.istore 4, 2) := by decide +kernel
theorem dX10_weightOf_7 : decode cX10_weightOf 7 = .ok (.iload 4, 2) := by decide +kernel
theorem dX10_weightOf_9 : decode cX10_weightOf 9 = .ok (.aload_n 0, 1) := by decide +kernel
theorem dX10_weightOf_10 : decode cX10_weightOf 10 = .ok (.getfield 264, 3) := by decide +kernel
theorem dX10_weightOf_13 : decode cX10_weightOf 13 = .ok (.if_icmp .ge 68, 3) := by decide +kernel
theorem dX10_weightOf_16 : decode cX10_weightOf 16 = .ok (.iload_n 2, 1) := by decide +kernel
theorem dX10_weightOf_17 : decode cX10_weightOf 17 = .ok (.aload_n 0, 1) := by decide +kernel
theorem dX10_weightOf_18 : decode cX10_weightOf 18 = .ok (.getfield 115, 3) := by decide +kernel
theorem dX10_weightOf_21 : decode cX10_weightOf 21 = .ok (.iload 4, 2) := by decide +kernel
theorem dX10_weightOf_23 : decode cX10_weightOf 23 = .ok (.iaload, 1) := by decide +kernel
theorem dX10_weightOf_24 : decode cX10_weightOf 24 = .ok (.iload_n 1, 1) := by decide +kernel
theorem dX10_weightOf_25 : decode cX10_weightOf 25 = .ok (.if_icmp .ne 18, 3) := by decide +kernel
theorem dX10_weightOf_28 : decode cX10_weightOf 28 = .ok (.aload_n 0, 1) := by decide +kernel
theorem dX10_weightOf_29 : decode cX10_weightOf 29 = .ok (.getfield 124, 3) := by decide +kernel
theorem dX10_weightOf_32 : decode cX10_weightOf 32 = .ok (.iload 4, 2) := by decide +kernel
theorem dX10_weightOf_34 : decode cX10_weightOf 34 = .ok (.iaload, 1) := by decide +kernel
theorem dX10_weightOf_35 : decode cX10_weightOf 35 = .ok (.iconst 1, 1) := by decide +kernel
theorem dX10_weightOf_36 : decode cX10_weightOf 36 = .ok (.if_icmp .ne 7, 3) := by decide +kernel
theorem dX10_weightOf_39 : decode cX10_weightOf 39 = .ok (.iconst 1, 1) := by decide +kernel
theorem dX10_weightOf_40 : decode cX10_weightOf 40 = .ok (.goto 4, 3) := by decide +kernel
theorem dX10_weightOf_43 : decode cX10_weightOf 43 = .ok (.iconst 0, 1) := by decide +kernel
theorem dX10_weightOf_44 : decode cX10_weightOf 44 = .ok (.iadd, 1) := by decide +kernel
theorem dX10_weightOf_45 : decode cX10_weightOf 45 = .ok (.istore_n 2, 1) := by decide +kernel
theorem dX10_weightOf_46 : decode cX10_weightOf 46 = .ok (.iload_n 3, 1) := by decide +kernel
theorem dX10_weightOf_47 : decode cX10_weightOf 47 = .ok (.aload_n 0, 1) := by decide +kernel
theorem dX10_weightOf_48 : decode cX10_weightOf 48 = .ok (.getfield 115, 3) := by decide +kernel
theorem dX10_weightOf_51 : decode cX10_weightOf 51 = .ok (.iload 4, 2) := by decide +kernel
theorem dX10_weightOf_53 : decode cX10_weightOf 53 = .ok (.iaload, 1) := by decide +kernel
theorem dX10_weightOf_54 : decode cX10_weightOf 54 = .ok (.iload_n 1, 1) := by decide +kernel
theorem dX10_weightOf_55 : decode cX10_weightOf 55 = .ok (.if_icmp .ne 17, 3) := by decide +kernel
theorem dX10_weightOf_58 : decode cX10_weightOf 58 = .ok (.aload_n 0, 1) := by decide +kernel
theorem dX10_weightOf_59 : decode cX10_weightOf 59 = .ok (.getfield 124, 3) := by decide +kernel
theorem dX10_weightOf_62 : decode cX10_weightOf 62 = .ok (.iload 4, 2) := by decide +kernel
theorem dX10_weightOf_64 : decode cX10_weightOf 64 = .ok (.iaload, 1) := by decide +kernel
theorem dX10_weightOf_65 : decode cX10_weightOf 65 = .ok (.ifCond .le 7, 3) := by decide +kernel
theorem dX10_weightOf_68 : decode cX10_weightOf 68 = .ok (.iconst 1, 1) := by decide +kernel
theorem dX10_weightOf_69 : decode cX10_weightOf 69 = .ok (.goto 4, 3) := by decide +kernel
theorem dX10_weightOf_72 : decode cX10_weightOf 72 = .ok (.iconst 0, 1) := by decide +kernel
theorem dX10_weightOf_73 : decode cX10_weightOf 73 = .ok (.iadd, 1) := by decide +kernel
theorem dX10_weightOf_74 : decode cX10_weightOf 74 = .ok (.istore_n 3, 1) := by decide +kernel
theorem dX10_weightOf_75 : decode cX10_weightOf 75 = .ok (.iinc 4 1, 3) := by decide +kernel
theorem dX10_weightOf_78 : decode cX10_weightOf 78 = .ok (.goto (-71), 3) := by decide +kernel
theorem dX10_weightOf_81 : decode cX10_weightOf 81 = .ok (.sipush 1000, 3) := by decide +kernel
theorem dX10_weightOf_84 : decode cX10_weightOf 84 = .ok (.iload_n 2, 1) := by decide +kernel
theorem dX10_weightOf_85 : decode cX10_weightOf 85 = .ok (.iconst 1, 1) := by decide +kernel
theorem dX10_weightOf_86 : decode cX10_weightOf 86 = .ok (.iadd, 1) := by decide +kernel
theorem dX10_weightOf_87 : decode cX10_weightOf 87 = .ok (.imul, 1) := by decide +kernel
theorem dX10_weightOf_88 : decode cX10_weightOf 88 = .ok (.iload_n 3, 1) := by decide +kernel
theorem dX10_weightOf_89 : decode cX10_weightOf 89 = .ok (.iconst 2, 1) := by decide +kernel
theorem dX10_weightOf_90 : decode cX10_weightOf 90 = .ok (.iadd, 1) := by decide +kernel
theorem dX10_weightOf_91 : decode cX10_weightOf 91 = .ok (.idiv, 1) := by decide +kernel
theorem dX10_weightOf_92 : decode cX10_weightOf 92 = .ok (.ireturn, 1) := by decide +kernel
theorem dX10_weight_0 : decode cX10_weight 0 = .ok (.aload_n 0, 1) := by decide +kernel
theorem dX10_weight_1 : decode cX10_weight 1 = .ok (.iconst 0, 1) := by decide +kernel
theorem dX10_weight_2 : decode cX10_weight 2 = .ok (.putfield 1, 3) := by decide +kernel
theorem dX10_weight_5 : decode cX10_weight 5 = .ok (.iload_n 1, 1) := by decide +kernel
theorem dX10_weight_6 : decode cX10_weight 6 = .ok (.ifCond .lt 9, 3) := by decide +kernel
theorem dX10_weight_9 : decode cX10_weight 9 = .ok (.iload_n 1, 1) := by decide +kernel
theorem dX10_weight_10 : decode cX10_weight 10 = .ok (.bipush 19, 2) := by decide +kernel
theorem dX10_weight_12 : decode cX10_weight 12 = .ok (.if_icmp .le 7, 3) := by decide +kernel
theorem dX10_weight_15 : decode cX10_weight 15 = .ok (.iconst (-1), 1) := by decide +kernel
theorem dX10_weight_16 : decode cX10_weight 16 = .ok (.goto 8, 3) := by decide +kernel
theorem dX10_weight_19 : decode cX10_weight 19 = .ok (.aload_n 0, 1) := by decide +kernel
theorem dX10_weight_20 : decode cX10_weight 20 = .ok (.iload_n 1, 1) := by decide +kernel
theorem dX10_weight_21 : decode cX10_weight 21 = .ok (.invokevirtual 280, 3) := by decide +kernel
theorem dX10_weight_24 : decode cX10_weight 24 = .ok (.ireturn, 1) := by decide +kernel
theorem dX10_isOpen_0 : decode cX10_isOpen 0 = .ok (.aload_n 0, 1) := by decide +kernel
theorem dX10_isOpen_1 : decode cX10_isOpen 1 = .ok (.getfield 118, 3) := by decide +kernel
theorem dX10_isOpen_4 : decode cX10_isOpen 4 = .ok (.iload_n 1, 1) := by decide +kernel
theorem dX10_isOpen_5 : decode cX10_isOpen 5 = .ok (.iaload, 1) := by decide +kernel
theorem dX10_isOpen_6 : decode cX10_isOpen 6 = .ok (.iload_n 2, 1) := by decide +kernel
theorem dX10_isOpen_7 : decode cX10_isOpen 7 = .ok (.if_icmp .ne 16, 3) := by decide +kernel
theorem dX10_isOpen_10 : decode cX10_isOpen 10 = .ok (.aload_n 0, 1) := by decide +kernel
theorem dX10_isOpen_11 : decode cX10_isOpen 11 = .ok (.getfield 124, 3) := by decide +kernel
theorem dX10_isOpen_14 : decode cX10_isOpen 14 = .ok (.iload_n 1, 1) := by decide +kernel
theorem dX10_isOpen_15 : decode cX10_isOpen 15 = .ok (.iaload, 1) := by decide +kernel
theorem dX10_isOpen_16 : decode cX10_isOpen 16 = .ok (.ifCond .ne 7, 3) := by decide +kernel
theorem dX10_isOpen_19 : decode cX10_isOpen 19 = .ok (.iconst 1, 1) := by decide +kernel
theorem dX10_isOpen_20 : decode cX10_isOpen 20 = .ok (.goto 4, 3) := by decide +kernel
theorem dX10_isOpen_23 : decode cX10_isOpen 23 = .ok (.iconst 0, 1) := by decide +kernel
theorem dX10_isOpen_24 : decode cX10_isOpen 24 = .ok (.ireturn, 1) := by decide +kernel
theorem dX10_heard_0 : decode cX10_heard 0 = .ok (.iload_n 2, 1) := by decide +kernel
theorem dX10_heard_1 : decode cX10_heard 1 = .ok (.aload_n 0, 1) := by decide +kernel
theorem dX10_heard_2 : decode cX10_heard 2 = .ok (.getfield 91, 3) := by decide +kernel
theorem dX10_heard_5 : decode cX10_heard 5 = .ok (.iload_n 1, 1) := by decide +kernel
theorem dX10_heard_6 : decode cX10_heard 6 = .ok (.iaload, 1) := by decide +kernel
theorem dX10_heard_7 : decode cX10_heard 7 = .ok (.if_icmp .ne 15, 3) := by decide +kernel
theorem dX10_heard_10 : decode cX10_heard 10 = .ok (.aload_n 0, 1) := by decide +kernel
theorem dX10_heard_11 : decode cX10_heard 11 = .ok (.iload_n 1, 1) := by decide +kernel
theorem dX10_heard_12 : decode cX10_heard 12 = .ok (.invokevirtual 261, 3) := by decide +kernel
theorem dX10_heard_15 : decode cX10_heard 15 = .ok (.sipush 1000, 3) := by decide +kernel
theorem dX10_heard_18 : decode cX10_heard 18 = .ok (.idiv, 1) := by decide +kernel
theorem dX10_heard_19 : decode cX10_heard 19 = .ok (.goto 4, 3) := by decide +kernel
theorem dX10_heard_22 : decode cX10_heard 22 = .ok (.iconst 0, 1) := by decide +kernel
theorem dX10_heard_23 : decode cX10_heard 23 = .ok (.istore_n 3, 1) := by decide +kernel
theorem dX10_heard_24 : decode cX10_heard 24 = .ok (.iconst 0, 1) := by decide +kernel
theorem dX10_heard_25 : decode cX10_heard 25 = .ok (.istore 4, 2) := by decide +kernel
theorem dX10_heard_27 : decode cX10_heard 27 = .ok (.iload 4, 2) := by decide +kernel
theorem dX10_heard_29 : decode cX10_heard 29 = .ok (.bipush 20, 2) := by decide +kernel
theorem dX10_heard_31 : decode cX10_heard 31 = .ok (.if_icmp .ge 93, 3) := by decide +kernel
theorem dX10_heard_34 : decode cX10_heard 34 = .ok (.iconst 0, 1) := by decide +kernel
theorem dX10_heard_35 : decode cX10_heard 35 = .ok (.istore 5, 2) := by decide +kernel
theorem dX10_heard_37 : decode cX10_heard 37 = .ok (.iconst 0, 1) := by decide +kernel
theorem dX10_heard_38 : decode cX10_heard 38 = .ok (.istore 6, 2) := by decide +kernel
theorem dX10_heard_40 : decode cX10_heard 40 = .ok (.iload 6, 2) := by decide +kernel
theorem dX10_heard_42 : decode cX10_heard 42 = .ok (.aload_n 0, 1) := by decide +kernel
theorem dX10_heard_43 : decode cX10_heard 43 = .ok (.getfield 264, 3) := by decide +kernel
theorem dX10_heard_46 : decode cX10_heard 46 = .ok (.if_icmp .ge 54, 3) := by decide +kernel
theorem dX10_heard_49 : decode cX10_heard 49 = .ok (.iload 5, 2) := by decide +kernel
theorem dX10_heard_51 : decode cX10_heard 51 = .ok (.ifCond .ne 36, 3) := by decide +kernel
theorem dX10_heard_54 : decode cX10_heard 54 = .ok (.aload_n 0, 1) := by decide +kernel
theorem dX10_heard_55 : decode cX10_heard 55 = .ok (.getfield 115, 3) := by decide +kernel
theorem dX10_heard_58 : decode cX10_heard 58 = .ok (.iload 6, 2) := by decide +kernel
theorem dX10_heard_60 : decode cX10_heard 60 = .ok (.iaload, 1) := by decide +kernel
theorem dX10_heard_61 : decode cX10_heard 61 = .ok (.iload 4, 2) := by decide +kernel
theorem dX10_heard_63 : decode cX10_heard 63 = .ok (.if_icmp .ne 28, 3) := by decide +kernel
theorem dX10_heard_66 : decode cX10_heard 66 = .ok (.aload_n 0, 1) := by decide +kernel
theorem dX10_heard_67 : decode cX10_heard 67 = .ok (.iload 6, 2) := by decide +kernel
theorem dX10_heard_69 : decode cX10_heard 69 = .ok (.iload_n 1, 1) := by decide +kernel
theorem dX10_heard_70 : decode cX10_heard 70 = .ok (.invokevirtual 283, 3) := by decide +kernel
theorem dX10_heard_73 : decode cX10_heard 73 = .ok (.ifCond .eq 18, 3) := by decide +kernel
theorem dX10_heard_76 : decode cX10_heard 76 = .ok (.aload_n 0, 1) := by decide +kernel
theorem dX10_heard_77 : decode cX10_heard 77 = .ok (.getfield 121, 3) := by decide +kernel
theorem dX10_heard_80 : decode cX10_heard 80 = .ok (.iload 6, 2) := by decide +kernel
theorem dX10_heard_82 : decode cX10_heard 82 = .ok (.iaload, 1) := by decide +kernel
theorem dX10_heard_83 : decode cX10_heard 83 = .ok (.iload_n 2, 1) := by decide +kernel
theorem dX10_heard_84 : decode cX10_heard 84 = .ok (.if_icmp .ne 7, 3) := by decide +kernel
theorem dX10_heard_87 : decode cX10_heard 87 = .ok (.iconst 1, 1) := by decide +kernel
theorem dX10_heard_88 : decode cX10_heard 88 = .ok (.goto 4, 3) := by decide +kernel
theorem dX10_heard_91 : decode cX10_heard 91 = .ok (.iconst 0, 1) := by decide +kernel
theorem dX10_heard_92 : decode cX10_heard 92 = .ok (.istore 5, 2) := by decide +kernel
theorem dX10_heard_94 : decode cX10_heard 94 = .ok (.iinc 6 1, 3) := by decide +kernel
theorem dX10_heard_97 : decode cX10_heard 97 = .ok (.goto (-57), 3) := by decide +kernel
theorem dX10_heard_100 : decode cX10_heard 100 = .ok (.iload_n 3, 1) := by decide +kernel
theorem dX10_heard_101 : decode cX10_heard 101 = .ok (.iload 5, 2) := by decide +kernel
theorem dX10_heard_103 : decode cX10_heard 103 = .ok (.ifCond .eq 12, 3) := by decide +kernel
theorem dX10_heard_106 : decode cX10_heard 106 = .ok (.aload_n 0, 1) := by decide +kernel
theorem dX10_heard_107 : decode cX10_heard 107 = .ok (.iload 4, 2) := by decide +kernel
theorem dX10_heard_109 : decode cX10_heard 109 = .ok (.invokevirtual 280, 3) := by decide +kernel
theorem dX10_heard_112 : decode cX10_heard 112 = .ok (.goto 4, 3) := by decide +kernel
theorem dX10_heard_115 : decode cX10_heard 115 = .ok (.iconst 0, 1) := by decide +kernel
theorem dX10_heard_116 : decode cX10_heard 116 = .ok (.iadd, 1) := by decide +kernel
theorem dX10_heard_117 : decode cX10_heard 117 = .ok (.istore_n 3, 1) := by decide +kernel
theorem dX10_heard_118 : decode cX10_heard 118 = .ok (.iinc 4 1, 3) := by decide +kernel
theorem dX10_heard_121 : decode cX10_heard 121 = .ok (.goto (-94), 3) := by decide +kernel
theorem dX10_heard_124 : decode cX10_heard 124 = .ok (.iload_n 3, 1) := by decide +kernel
theorem dX10_heard_125 : decode cX10_heard 125 = .ok (.ireturn, 1) := by decide +kernel
theorem dX10_believes_0 : decode cX10_believes 0 = .ok (.aload_n 0, 1) := by decide +kernel
theorem dX10_believes_1 : decode cX10_believes 1 = .ok (.getfield 91, 3) := by decide +kernel
theorem dX10_believes_4 : decode cX10_believes 4 = .ok (.iload_n 1, 1) := by decide +kernel
theorem dX10_believes_5 : decode cX10_believes 5 = .ok (.iaload, 1) := by decide +kernel
theorem dX10_believes_6 : decode cX10_believes 6 = .ok (.istore_n 2, 1) := by decide +kernel
theorem dX10_believes_7 : decode cX10_believes 7 = .ok (.iconst (-1), 1) := by decide +kernel
theorem dX10_believes_8 : decode cX10_believes 8 = .ok (.istore_n 3, 1) := by decide +kernel
theorem dX10_believes_9 : decode cX10_believes 9 = .ok (.iconst 0, 1) := by decide +kernel
theorem dX10_believes_10 : decode cX10_believes 10 = .ok (.istore 4, 2) := by decide +kernel
theorem dX10_believes_12 : decode cX10_believes 12 = .ok (.iload 4, 2) := by decide +kernel
theorem dX10_believes_14 : decode cX10_believes 14 = .ok (.aload_n 0, 1) := by decide +kernel
theorem dX10_believes_15 : decode cX10_believes 15 = .ok (.getfield 264, 3) := by decide +kernel
theorem dX10_believes_18 : decode cX10_believes 18 = .ok (.if_icmp .ge 113, 3) := by decide +kernel
theorem dX10_believes_21 : decode cX10_believes 21 = .ok (.aload_n 0, 1) := by decide +kernel
theorem dX10_believes_22 : decode cX10_believes 22 = .ok (.iload 4, 2) := by decide +kernel
theorem dX10_believes_24 : decode cX10_believes 24 = .ok (.iload_n 1, 1) := by decide +kernel
theorem dX10_believes_25 : decode cX10_believes 25 = .ok (.invokevirtual 283, 3) := by decide +kernel
theorem dX10_believes_28 : decode cX10_believes 28 = .ok (.ifCond .eq 97, 3) := by decide +kernel
theorem dX10_believes_31 : decode cX10_believes 31 = .ok (.aload_n 0, 1) := by decide +kernel
theorem dX10_believes_32 : decode cX10_believes 32 = .ok (.getfield 121, 3) := by decide +kernel
theorem dX10_believes_35 : decode cX10_believes 35 = .ok (.iload 4, 2) := by decide +kernel
theorem dX10_believes_37 : decode cX10_believes 37 = .ok (.iaload, 1) := by decide +kernel
theorem dX10_believes_38 : decode cX10_believes 38 = .ok (.aload_n 0, 1) := by decide +kernel
theorem dX10_believes_39 : decode cX10_believes 39 = .ok (.getfield 91, 3) := by decide +kernel
theorem dX10_believes_42 : decode cX10_believes 42 = .ok (.iload_n 1, 1) := by decide +kernel
theorem dX10_believes_43 : decode cX10_believes 43 = .ok (.iaload, 1) := by decide +kernel
theorem dX10_believes_44 : decode cX10_believes 44 = .ok (.if_icmp .eq 81, 3) := by decide +kernel
theorem dX10_believes_47 : decode cX10_believes 47 = .ok (.iload_n 3, 1) := by decide +kernel
theorem dX10_believes_48 : decode cX10_believes 48 = .ok (.ifCond .ge 17, 3) := by decide +kernel
theorem dX10_believes_51 : decode cX10_believes 51 = .ok (.aload_n 0, 1) := by decide +kernel
theorem dX10_believes_52 : decode cX10_believes 52 = .ok (.iload_n 1, 1) := by decide +kernel
theorem dX10_believes_53 : decode cX10_believes 53 = .ok (.aload_n 0, 1) := by decide +kernel
theorem dX10_believes_54 : decode cX10_believes 54 = .ok (.getfield 91, 3) := by decide +kernel
theorem dX10_believes_57 : decode cX10_believes 57 = .ok (.iload_n 1, 1) := by decide +kernel
theorem dX10_believes_58 : decode cX10_believes 58 = .ok (.iaload, 1) := by decide +kernel
theorem dX10_believes_59 : decode cX10_believes 59 = .ok (.invokevirtual 287, 3) := by decide +kernel
theorem dX10_believes_62 : decode cX10_believes 62 = .ok (.goto 4, 3) := by decide +kernel
theorem dX10_believes_65 : decode cX10_believes 65 = .ok (.iload_n 3, 1) := by decide +kernel
theorem dX10_believes_66 : decode cX10_believes 66 = .ok (.istore_n 3, 1) := by decide +kernel
theorem dX10_believes_67 : decode cX10_believes 67 = .ok (.aload_n 0, 1) := by decide +kernel
theorem dX10_believes_68 : decode cX10_believes 68 = .ok (.iload_n 1, 1) := by decide +kernel
theorem dX10_believes_69 : decode cX10_believes 69 = .ok (.aload_n 0, 1) := by decide +kernel
theorem dX10_believes_70 : decode cX10_believes 70 = .ok (.getfield 121, 3) := by decide +kernel
theorem dX10_believes_73 : decode cX10_believes 73 = .ok (.iload 4, 2) := by decide +kernel
theorem dX10_believes_75 : decode cX10_believes 75 = .ok (.iaload, 1) := by decide +kernel
theorem dX10_believes_76 : decode cX10_believes 76 = .ok (.invokevirtual 287, 3) := by decide +kernel
theorem dX10_believes_79 : decode cX10_believes 79 = .ok (.istore 5, 2) := by decide +kernel
theorem dX10_believes_81 : decode cX10_believes 81 = .ok (.iload 5, 2) := by decide +kernel
theorem dX10_believes_83 : decode cX10_believes 83 = .ok (.iload_n 3, 1) := by decide +kernel
theorem dX10_believes_84 : decode cX10_believes 84 = .ok (.if_icmp .gt 30, 3) := by decide +kernel
theorem dX10_believes_87 : decode cX10_believes 87 = .ok (.iload 5, 2) := by decide +kernel
theorem dX10_believes_89 : decode cX10_believes 89 = .ok (.iload_n 3, 1) := by decide +kernel
theorem dX10_believes_90 : decode cX10_believes 90 = .ok (.if_icmp .ne 35, 3) := by decide +kernel
theorem dX10_believes_93 : decode cX10_believes 93 = .ok (.iload_n 2, 1) := by decide +kernel
theorem dX10_believes_94 : decode cX10_believes 94 = .ok (.aload_n 0, 1) := by decide +kernel
theorem dX10_believes_95 : decode cX10_believes 95 = .ok (.getfield 91, 3) := by decide +kernel
theorem dX10_believes_98 : decode cX10_believes 98 = .ok (.iload_n 1, 1) := by decide +kernel
theorem dX10_believes_99 : decode cX10_believes 99 = .ok (.iaload, 1) := by decide +kernel
theorem dX10_believes_100 : decode cX10_believes 100 = .ok (.if_icmp .eq 25, 3) := by decide +kernel
theorem dX10_believes_103 : decode cX10_believes 103 = .ok (.aload_n 0, 1) := by decide +kernel
theorem dX10_believes_104 : decode cX10_believes 104 = .ok (.getfield 121, 3) := by decide +kernel
theorem dX10_believes_107 : decode cX10_believes 107 = .ok (.iload 4, 2) := by decide +kernel
theorem dX10_believes_109 : decode cX10_believes 109 = .ok (.iaload, 1) := by decide +kernel
theorem dX10_believes_110 : decode cX10_believes 110 = .ok (.iload_n 2, 1) := by decide +kernel
theorem dX10_believes_111 : decode cX10_believes 111 = .ok (.if_icmp .ge 14, 3) := by decide +kernel
theorem dX10_believes_114 : decode cX10_believes 114 = .ok (.aload_n 0, 1) := by decide +kernel
theorem dX10_believes_115 : decode cX10_believes 115 = .ok (.getfield 121, 3) := by decide +kernel
theorem dX10_believes_118 : decode cX10_believes 118 = .ok (.iload 4, 2) := by decide +kernel
theorem dX10_believes_120 : decode cX10_believes 120 = .ok (.iaload, 1) := by decide +kernel
theorem dX10_believes_121 : decode cX10_believes 121 = .ok (.istore_n 2, 1) := by decide +kernel
theorem dX10_believes_122 : decode cX10_believes 122 = .ok (.iload 5, 2) := by decide +kernel
theorem dX10_believes_124 : decode cX10_believes 124 = .ok (.istore_n 3, 1) := by decide +kernel
theorem dX10_believes_125 : decode cX10_believes 125 = .ok (.iinc 4 1, 3) := by decide +kernel
theorem dX10_believes_128 : decode cX10_believes 128 = .ok (.goto (-116), 3) := by decide +kernel
theorem dX10_believes_131 : decode cX10_believes 131 = .ok (.iload_n 2, 1) := by decide +kernel
theorem dX10_believes_132 : decode cX10_believes 132 = .ok (.ireturn, 1) := by decide +kernel
theorem dX10_believed_0 : decode cX10_believed 0 = .ok (.aload_n 0, 1) := by decide +kernel
theorem dX10_believed_1 : decode cX10_believed 1 = .ok (.iconst 0, 1) := by decide +kernel
theorem dX10_believed_2 : decode cX10_believed 2 = .ok (.putfield 1, 3) := by decide +kernel
theorem dX10_believed_5 : decode cX10_believed 5 = .ok (.aload_n 0, 1) := by decide +kernel
theorem dX10_believed_6 : decode cX10_believed 6 = .ok (.iload_n 1, 1) := by decide +kernel
theorem dX10_believed_7 : decode cX10_believed 7 = .ok (.invokevirtual 253, 3) := by decide +kernel
theorem dX10_believed_10 : decode cX10_believed 10 = .ok (.ifCond .eq 11, 3) := by decide +kernel
theorem dX10_believed_13 : decode cX10_believed 13 = .ok (.aload_n 0, 1) := by decide +kernel
theorem dX10_believed_14 : decode cX10_believed 14 = .ok (.iload_n 1, 1) := by decide +kernel
theorem dX10_believed_15 : decode cX10_believed 15 = .ok (.invokevirtual 291, 3) := by decide +kernel
theorem dX10_believed_18 : decode cX10_believed 18 = .ok (.goto 4, 3) := by decide +kernel
theorem dX10_believed_21 : decode cX10_believed 21 = .ok (.iconst (-1), 1) := by decide +kernel
theorem dX10_believed_22 : decode cX10_believed 22 = .ok (.ireturn, 1) := by decide +kernel
theorem dX10_quarrel_0 : decode cX10_quarrel 0 = .ok (.aload_n 0, 1) := by decide +kernel
theorem dX10_quarrel_1 : decode cX10_quarrel 1 = .ok (.iconst 0, 1) := by decide +kernel
theorem dX10_quarrel_2 : decode cX10_quarrel 2 = .ok (.putfield 1, 3) := by decide +kernel
theorem dX10_quarrel_5 : decode cX10_quarrel 5 = .ok (.aload_n 0, 1) := by decide +kernel
theorem dX10_quarrel_6 : decode cX10_quarrel 6 = .ok (.iload_n 1, 1) := by decide +kernel
theorem dX10_quarrel_7 : decode cX10_quarrel 7 = .ok (.invokevirtual 253, 3) := by decide +kernel
theorem dX10_quarrel_10 : decode cX10_quarrel 10 = .ok (.ifCond .ne 5, 3) := by decide +kernel
theorem dX10_quarrel_13 : decode cX10_quarrel 13 = .ok (.iconst (-1), 1) := by decide +kernel
theorem dX10_quarrel_14 : decode cX10_quarrel 14 = .ok (.ireturn, 1) := by decide +kernel
theorem dX10_quarrel_15 : decode cX10_quarrel 15 = .ok (.iconst (-1), 1) := by decide +kernel
theorem dX10_quarrel_16 : decode cX10_quarrel 16 = .ok (.istore_n 2, 1) := by decide +kernel
theorem dX10_quarrel_17 : decode cX10_quarrel 17 = .ok (.iconst 0, 1) := by decide +kernel
theorem dX10_quarrel_18 : decode cX10_quarrel 18 = .ok (.istore_n 3, 1) := by decide +kernel
theorem dX10_quarrel_19 : decode cX10_quarrel 19 = .ok (.iconst 0, 1) := by decide +kernel
theorem dX10_quarrel_20 : decode cX10_quarrel 20 = .ok (.istore 4, 2) := by decide +kernel
theorem dX10_quarrel_22 : decode cX10_quarrel 22 = .ok (.iload 4, 2) := by decide +kernel
theorem dX10_quarrel_24 : decode cX10_quarrel 24 = .ok (.aload_n 0, 1) := by decide +kernel
theorem dX10_quarrel_25 : decode cX10_quarrel 25 = .ok (.getfield 264, 3) := by decide +kernel
theorem dX10_quarrel_28 : decode cX10_quarrel 28 = .ok (.if_icmp .ge 48, 3) := by decide +kernel
theorem dX10_quarrel_31 : decode cX10_quarrel 31 = .ok (.aload_n 0, 1) := by decide +kernel
theorem dX10_quarrel_32 : decode cX10_quarrel 32 = .ok (.iload 4, 2) := by decide +kernel
theorem dX10_quarrel_34 : decode cX10_quarrel 34 = .ok (.iload_n 1, 1) := by decide +kernel
theorem dX10_quarrel_35 : decode cX10_quarrel 35 = .ok (.invokevirtual 283, 3) := by decide +kernel
theorem dX10_quarrel_38 : decode cX10_quarrel 38 = .ok (.ifCond .eq 32, 3) := by decide +kernel
theorem dX10_quarrel_41 : decode cX10_quarrel 41 = .ok (.iload_n 2, 1) := by decide +kernel
theorem dX10_quarrel_42 : decode cX10_quarrel 42 = .ok (.ifCond .lt 18, 3) := by decide +kernel
theorem dX10_quarrel_45 : decode cX10_quarrel 45 = .ok (.iload_n 2, 1) := by decide +kernel
theorem dX10_quarrel_46 : decode cX10_quarrel 46 = .ok (.aload_n 0, 1) := by decide +kernel
theorem dX10_quarrel_47 : decode cX10_quarrel 47 = .ok (.getfield 121, 3) := by decide +kernel
theorem dX10_quarrel_50 : decode cX10_quarrel 50 = .ok (.iload 4, 2) := by decide +kernel
theorem dX10_quarrel_52 : decode cX10_quarrel 52 = .ok (.iaload, 1) := by decide +kernel
theorem dX10_quarrel_53 : decode cX10_quarrel 53 = .ok (.if_icmp .eq 7, 3) := by decide +kernel
theorem dX10_quarrel_56 : decode cX10_quarrel 56 = .ok (.iconst 1, 1) := by decide +kernel
theorem dX10_quarrel_57 : decode cX10_quarrel 57 = .ok (.goto 4, 3) := by decide +kernel
theorem dX10_quarrel_60 : decode cX10_quarrel 60 = .ok (.iload_n 3, 1) := by decide +kernel
theorem dX10_quarrel_61 : decode cX10_quarrel 61 = .ok (.istore_n 3, 1) := by decide +kernel
theorem dX10_quarrel_62 : decode cX10_quarrel 62 = .ok (.aload_n 0, 1) := by decide +kernel
theorem dX10_quarrel_63 : decode cX10_quarrel 63 = .ok (.getfield 121, 3) := by decide +kernel
theorem dX10_quarrel_66 : decode cX10_quarrel 66 = .ok (.iload 4, 2) := by decide +kernel
theorem dX10_quarrel_68 : decode cX10_quarrel 68 = .ok (.iaload, 1) := by decide +kernel
theorem dX10_quarrel_69 : decode cX10_quarrel 69 = .ok (.istore_n 2, 1) := by decide +kernel
theorem dX10_quarrel_70 : decode cX10_quarrel 70 = .ok (.iinc 4 1, 3) := by decide +kernel
theorem dX10_quarrel_73 : decode cX10_quarrel 73 = .ok (.goto (-51), 3) := by decide +kernel
theorem dX10_quarrel_76 : decode cX10_quarrel 76 = .ok (.iload_n 3, 1) := by decide +kernel
theorem dX10_quarrel_77 : decode cX10_quarrel 77 = .ok (.ireturn, 1) := by decide +kernel
theorem dX10_proof_0 : decode cX10_proof 0 = .ok (.aload_n 0, 1) := by decide +kernel
theorem dX10_proof_1 : decode cX10_proof 1 = .ok (.iconst 0, 1) := by decide +kernel
theorem dX10_proof_2 : decode cX10_proof 2 = .ok (.putfield 1, 3) := by decide +kernel
theorem dX10_proof_5 : decode cX10_proof 5 = .ok (.iload_n 1, 1) := by decide +kernel
theorem dX10_proof_6 : decode cX10_proof 6 = .ok (.ifCond .lt 11, 3) := by decide +kernel
theorem dX10_proof_9 : decode cX10_proof 9 = .ok (.iload_n 1, 1) := by decide +kernel
theorem dX10_proof_10 : decode cX10_proof 10 = .ok (.aload_n 0, 1) := by decide +kernel
theorem dX10_proof_11 : decode cX10_proof 11 = .ok (.getfield 264, 3) := by decide +kernel
theorem dX10_proof_14 : decode cX10_proof 14 = .ok (.if_icmp .lt 7, 3) := by decide +kernel
theorem dX10_proof_17 : decode cX10_proof 17 = .ok (.iconst (-1), 1) := by decide +kernel
theorem dX10_proof_18 : decode cX10_proof 18 = .ok (.goto 9, 3) := by decide +kernel
theorem dX10_proof_21 : decode cX10_proof 21 = .ok (.aload_n 0, 1) := by decide +kernel
theorem dX10_proof_22 : decode cX10_proof 22 = .ok (.getfield 124, 3) := by decide +kernel
theorem dX10_proof_25 : decode cX10_proof 25 = .ok (.iload_n 1, 1) := by decide +kernel
theorem dX10_proof_26 : decode cX10_proof 26 = .ok (.iaload, 1) := by decide +kernel
theorem dX10_proof_27 : decode cX10_proof 27 = .ok (.ireturn, 1) := by decide +kernel
theorem dX10_mark_0 : decode cX10_mark 0 = .ok (.aload_n 0, 1) := by decide +kernel
theorem dX10_mark_1 : decode cX10_mark 1 = .ok (.iconst 0, 1) := by decide +kernel
theorem dX10_mark_2 : decode cX10_mark 2 = .ok (.putfield 1, 3) := by decide +kernel
theorem dX10_mark_5 : decode cX10_mark 5 = .ok (.iload_n 1, 1) := by decide +kernel
theorem dX10_mark_6 : decode cX10_mark 6 = .ok (.invokestatic 244, 3) := by decide +kernel
theorem dX10_mark_9 : decode cX10_mark 9 = .ok (.ifCond .eq 22, 3) := by decide +kernel
theorem dX10_mark_12 : decode cX10_mark 12 = .ok (.iload_n 2, 1) := by decide +kernel
theorem dX10_mark_13 : decode cX10_mark 13 = .ok (.ifCond .lt 18, 3) := by decide +kernel
theorem dX10_mark_16 : decode cX10_mark 16 = .ok (.iload_n 2, 1) := by decide +kernel
theorem dX10_mark_17 : decode cX10_mark 17 = .ok (.iconst 4, 1) := by decide +kernel
theorem dX10_mark_18 : decode cX10_mark 18 = .ok (.if_icmp .gt 13, 3) := by decide +kernel
theorem dX10_mark_21 : decode cX10_mark 21 = .ok (.iload_n 3, 1) := by decide +kernel
theorem dX10_mark_22 : decode cX10_mark 22 = .ok (.ifCond .lt 9, 3) := by decide +kernel
theorem dX10_mark_25 : decode cX10_mark 25 = .ok (.iload_n 3, 1) := by decide +kernel
theorem dX10_mark_26 : decode cX10_mark 26 = .ok (.bipush 100, 2) := by decide +kernel
theorem dX10_mark_28 : decode cX10_mark 28 = .ok (.if_icmp .le 5, 3) := by decide +kernel
theorem dX10_mark_31 : decode cX10_mark 31 = .ok (.iconst 0, 1) := by decide +kernel
theorem dX10_mark_32 : decode cX10_mark 32 = .ok (.ireturn, 1) := by decide +kernel
theorem dX10_mark_33 : decode cX10_mark 33 = .ok (.aload_n 0, 1) := by decide +kernel
theorem dX10_mark_34 : decode cX10_mark 34 = .ok (.getfield 127, 3) := by decide +kernel
theorem dX10_mark_37 : decode cX10_mark 37 = .ok (.iconst 5, 1) := by decide +kernel
theorem dX10_mark_38 : decode cX10_mark 38 = .ok (.iload_n 1, 1) := by decide +kernel
theorem dX10_mark_39 : decode cX10_mark 39 = .ok (.imul, 1) := by decide +kernel
theorem dX10_mark_40 : decode cX10_mark 40 = .ok (.iload_n 2, 1) := by decide +kernel
theorem dX10_mark_41 : decode cX10_mark 41 = .ok (.iadd, 1) := by decide +kernel
theorem dX10_mark_42 : decode cX10_mark 42 = .ok (.iload_n 3, 1) := by decide +kernel
theorem dX10_mark_43 : decode cX10_mark 43 = .ok (.iastore, 1) := by decide +kernel
theorem dX10_mark_44 : decode cX10_mark 44 = .ok (.iconst 1, 1) := by decide +kernel
theorem dX10_mark_45 : decode cX10_mark 45 = .ok (.ireturn, 1) := by decide +kernel
theorem dX10_shiftOf_0 : decode cX10_shiftOf 0 = .ok (.iconst 0, 1) := by decide +kernel
theorem dX10_shiftOf_1 : decode cX10_shiftOf 1 = .ok (.istore_n 2, 1) := by decide +kernel
theorem dX10_shiftOf_2 : decode cX10_shiftOf 2 = .ok (.iconst 0, 1) := by decide +kernel
theorem dX10_shiftOf_3 : decode cX10_shiftOf 3 = .ok (.istore_n 3, 1) := by decide +kernel
theorem dX10_shiftOf_4 : decode cX10_shiftOf 4 = .ok (.iconst 0, 1) := by decide +kernel
theorem dX10_shiftOf_5 : decode cX10_shiftOf 5 = .ok (.istore 4, 2) := by decide +kernel
theorem dX10_shiftOf_7 : decode cX10_shiftOf 7 = .ok (.iload 4, 2) := by decide +kernel
theorem dX10_shiftOf_9 : decode cX10_shiftOf 9 = .ok (.bipush 10, 2) := by decide +kernel
theorem dX10_shiftOf_11 : decode cX10_shiftOf 11 = .ok (.if_icmp .ge 62, 3) := by decide +kernel
theorem dX10_shiftOf_14 : decode cX10_shiftOf 14 = .ok (.aload_n 0, 1) := by decide +kernel
theorem dX10_shiftOf_15 : decode cX10_shiftOf 15 = .ok (.getfield 127, 3) := by decide +kernel
theorem dX10_shiftOf_18 : decode cX10_shiftOf 18 = .ok (.iconst 5, 1) := by decide +kernel
theorem dX10_shiftOf_19 : decode cX10_shiftOf 19 = .ok (.iload 4, 2) := by decide +kernel
theorem dX10_shiftOf_21 : decode cX10_shiftOf 21 = .ok (.imul, 1) := by decide +kernel
theorem dX10_shiftOf_22 : decode cX10_shiftOf 22 = .ok (.iaload, 1) := by decide +kernel
theorem dX10_shiftOf_23 : decode cX10_shiftOf 23 = .ok (.ifCond .lt 44, 3) := by decide +kernel
theorem dX10_shiftOf_26 : decode cX10_shiftOf 26 = .ok (.aload_n 0, 1) := by decide +kernel
theorem dX10_shiftOf_27 : decode cX10_shiftOf 27 = .ok (.getfield 127, 3) := by decide +kernel
theorem dX10_shiftOf_30 : decode cX10_shiftOf 30 = .ok (.iconst 5, 1) := by decide +kernel
theorem dX10_shiftOf_31 : decode cX10_shiftOf 31 = .ok (.iload 4, 2) := by decide +kernel
theorem dX10_shiftOf_33 : decode cX10_shiftOf 33 = .ok (.imul, 1) := by decide +kernel
theorem dX10_shiftOf_34 : decode cX10_shiftOf 34 = .ok (.iload_n 1, 1) := by decide +kernel
theorem dX10_shiftOf_35 : decode cX10_shiftOf 35 = .ok (.iadd, 1) := by decide +kernel
theorem dX10_shiftOf_36 : decode cX10_shiftOf 36 = .ok (.iaload, 1) := by decide +kernel
theorem dX10_shiftOf_37 : decode cX10_shiftOf 37 = .ok (.ifCond .lt 30, 3) := by decide +kernel
theorem dX10_shiftOf_40 : decode cX10_shiftOf 40 = .ok (.iload_n 2, 1) := by decide +kernel
theorem dX10_shiftOf_41 : decode cX10_shiftOf 41 = .ok (.aload_n 0, 1) := by decide +kernel
theorem dX10_shiftOf_42 : decode cX10_shiftOf 42 = .ok (.getfield 127, 3) := by decide +kernel
theorem dX10_shiftOf_45 : decode cX10_shiftOf 45 = .ok (.iconst 5, 1) := by decide +kernel
theorem dX10_shiftOf_46 : decode cX10_shiftOf 46 = .ok (.iload 4, 2) := by decide +kernel
theorem dX10_shiftOf_48 : decode cX10_shiftOf 48 = .ok (.imul, 1) := by decide +kernel
theorem dX10_shiftOf_49 : decode cX10_shiftOf 49 = .ok (.iload_n 1, 1) := by decide +kernel
theorem dX10_shiftOf_50 : decode cX10_shiftOf 50 = .ok (.iadd, 1) := by decide +kernel
theorem dX10_shiftOf_51 : decode cX10_shiftOf 51 = .ok (.iaload, 1) := by decide +kernel
theorem dX10_shiftOf_52 : decode cX10_shiftOf 52 = .ok (.aload_n 0, 1) := by decide +kernel
theorem dX10_shiftOf_53 : decode cX10_shiftOf 53 = .ok (.getfield 127, 3) := by decide +kernel
theorem dX10_shiftOf_56 : decode cX10_shiftOf 56 = .ok (.iconst 5, 1) := by decide +kernel
theorem dX10_shiftOf_57 : decode cX10_shiftOf 57 = .ok (.iload 4, 2) := by decide +kernel
theorem dX10_shiftOf_59 : decode cX10_shiftOf 59 = .ok (.imul, 1) := by decide +kernel
theorem dX10_shiftOf_60 : decode cX10_shiftOf 60 = .ok (.iaload, 1) := by decide +kernel
theorem dX10_shiftOf_61 : decode cX10_shiftOf 61 = .ok (.isub, 1) := by decide +kernel
theorem dX10_shiftOf_62 : decode cX10_shiftOf 62 = .ok (.iadd, 1) := by decide +kernel
theorem dX10_shiftOf_63 : decode cX10_shiftOf 63 = .ok (.istore_n 2, 1) := by decide +kernel
theorem dX10_shiftOf_64 : decode cX10_shiftOf 64 = .ok (.iinc 3 1, 3) := by decide +kernel
theorem dX10_shiftOf_67 : decode cX10_shiftOf 67 = .ok (.iinc 4 1, 3) := by decide +kernel
theorem dX10_shiftOf_70 : decode cX10_shiftOf 70 = .ok (.goto (-63), 3) := by decide +kernel
theorem dX10_shiftOf_73 : decode cX10_shiftOf 73 = .ok (.iload_n 3, 1) := by decide +kernel
theorem dX10_shiftOf_74 : decode cX10_shiftOf 74 = .ok (.ifCond .ne 7, 3) := by decide +kernel
theorem dX10_shiftOf_77 : decode cX10_shiftOf 77 = .ok (.iconst 0, 1) := by decide +kernel
theorem dX10_shiftOf_78 : decode cX10_shiftOf 78 = .ok (.goto 6, 3) := by decide +kernel
theorem dX10_shiftOf_81 : decode cX10_shiftOf 81 = .ok (.iload_n 2, 1) := by decide +kernel
theorem dX10_shiftOf_82 : decode cX10_shiftOf 82 = .ok (.iload_n 3, 1) := by decide +kernel
theorem dX10_shiftOf_83 : decode cX10_shiftOf 83 = .ok (.idiv, 1) := by decide +kernel
theorem dX10_shiftOf_84 : decode cX10_shiftOf 84 = .ok (.ireturn, 1) := by decide +kernel
theorem dX10_shift_0 : decode cX10_shift 0 = .ok (.aload_n 0, 1) := by decide +kernel
theorem dX10_shift_1 : decode cX10_shift 1 = .ok (.iload_n 1, 1) := by decide +kernel
theorem dX10_shift_2 : decode cX10_shift 2 = .ok (.ifCond .lt 12, 3) := by decide +kernel
theorem dX10_shift_5 : decode cX10_shift 5 = .ok (.iload_n 1, 1) := by decide +kernel
theorem dX10_shift_6 : decode cX10_shift 6 = .ok (.iconst 4, 1) := by decide +kernel
theorem dX10_shift_7 : decode cX10_shift 7 = .ok (.if_icmp .gt 7, 3) := by decide +kernel
theorem dX10_shift_10 : decode cX10_shift 10 = .ok (.iconst 0, 1) := by decide +kernel
theorem dX10_shift_11 : decode cX10_shift 11 = .ok (.goto 4, 3) := by decide +kernel
theorem dX10_shift_14 : decode cX10_shift 14 = .ok (.iconst 1, 1) := by decide +kernel
theorem dX10_shift_15 : decode cX10_shift 15 = .ok (.putfield 1, 3) := by decide +kernel
theorem dX10_shift_18 : decode cX10_shift 18 = .ok (.aload_n 0, 1) := by decide +kernel
theorem dX10_shift_19 : decode cX10_shift 19 = .ok (.getfield 1, 3) := by decide +kernel
theorem dX10_shift_22 : decode cX10_shift 22 = .ok (.ifCond .le 7, 3) := by decide +kernel
theorem dX10_shift_25 : decode cX10_shift 25 = .ok (.iconst 0, 1) := by decide +kernel
theorem dX10_shift_26 : decode cX10_shift 26 = .ok (.goto 8, 3) := by decide +kernel
theorem dX10_shift_29 : decode cX10_shift 29 = .ok (.aload_n 0, 1) := by decide +kernel
theorem dX10_shift_30 : decode cX10_shift 30 = .ok (.iload_n 1, 1) := by decide +kernel
theorem dX10_shift_31 : decode cX10_shift 31 = .ok (.invokevirtual 294, 3) := by decide +kernel
theorem dX10_shift_34 : decode cX10_shift 34 = .ok (.ireturn, 1) := by decide +kernel
theorem dX10_paid_0 : decode cX10_paid 0 = .ok (.aload_n 0, 1) := by decide +kernel
theorem dX10_paid_1 : decode cX10_paid 1 = .ok (.iconst 0, 1) := by decide +kernel
theorem dX10_paid_2 : decode cX10_paid 2 = .ok (.putfield 1, 3) := by decide +kernel
theorem dX10_paid_5 : decode cX10_paid 5 = .ok (.iload_n 1, 1) := by decide +kernel
theorem dX10_paid_6 : decode cX10_paid 6 = .ok (.invokestatic 244, 3) := by decide +kernel
theorem dX10_paid_9 : decode cX10_paid 9 = .ok (.ifCond .ne 5, 3) := by decide +kernel
theorem dX10_paid_12 : decode cX10_paid 12 = .ok (.iconst 0, 1) := by decide +kernel
theorem dX10_paid_13 : decode cX10_paid 13 = .ok (.ireturn, 1) := by decide +kernel
theorem dX10_paid_14 : decode cX10_paid 14 = .ok (.aload_n 0, 1) := by decide +kernel
theorem dX10_paid_15 : decode cX10_paid 15 = .ok (.getfield 130, 3) := by decide +kernel
theorem dX10_paid_18 : decode cX10_paid 18 = .ok (.iload_n 1, 1) := by decide +kernel
theorem dX10_paid_19 : decode cX10_paid 19 = .ok (.iload_n 2, 1) := by decide +kernel
theorem dX10_paid_20 : decode cX10_paid 20 = .ok (.bastore, 1) := by decide +kernel
theorem dX10_paid_21 : decode cX10_paid 21 = .ok (.iconst 1, 1) := by decide +kernel
theorem dX10_paid_22 : decode cX10_paid 22 = .ok (.ireturn, 1) := by decide +kernel
theorem dX10_starsOf_0 : decode cX10_starsOf 0 = .ok (.iconst 0, 1) := by decide +kernel
theorem dX10_starsOf_1 : decode cX10_starsOf 1 = .ok (.istore_n 2, 1) := by decide +kernel
theorem dX10_starsOf_2 : decode cX10_starsOf 2 = .ok (.iconst 0, 1) := by decide +kernel
theorem dX10_starsOf_3 : decode cX10_starsOf 3 = .ok (.istore_n 3, 1) := by decide +kernel
theorem dX10_starsOf_4 : decode cX10_starsOf 4 = .ok (.iconst 0, 1) := by decide +kernel
theorem dX10_starsOf_5 : decode cX10_starsOf 5 = .ok (.istore 4, 2) := by decide +kernel
theorem dX10_starsOf_7 : decode cX10_starsOf 7 = .ok (.iconst 0, 1) := by decide +kernel
theorem dX10_starsOf_8 : decode cX10_starsOf 8 = .ok (.istore 5, 2) := by decide +kernel
theorem dX10_starsOf_10 : decode cX10_starsOf 10 = .ok (.iconst 0, 1) := by decide +kernel
theorem dX10_starsOf_11 : decode cX10_starsOf 11 = .ok (.istore 6, 2) := by decide +kernel
theorem dX10_starsOf_13 : decode cX10_starsOf 13 = .ok (.iload 6, 2) := by decide +kernel
theorem dX10_starsOf_15 : decode cX10_starsOf 15 = .ok (.iconst 5, 1) := by decide +kernel
theorem dX10_starsOf_16 : decode cX10_starsOf 16 = .ok (.if_icmp .ge 116, 3) := by decide +kernel
theorem dX10_starsOf_19 : decode cX10_starsOf 19 = .ok (.aload_n 0, 1) := by decide +kernel
theorem dX10_starsOf_20 : decode cX10_starsOf 20 = .ok (.getfield 127, 3) := by decide +kernel
theorem dX10_starsOf_23 : decode cX10_starsOf 23 = .ok (.iconst 5, 1) := by decide +kernel
theorem dX10_starsOf_24 : decode cX10_starsOf 24 = .ok (.iload_n 1, 1) := by decide +kernel
theorem dX10_starsOf_25 : decode cX10_starsOf 25 = .ok (.imul, 1) := by decide +kernel
theorem dX10_starsOf_26 : decode cX10_starsOf 26 = .ok (.iload 6, 2) := by decide +kernel
theorem dX10_starsOf_28 : decode cX10_starsOf 28 = .ok (.iadd, 1) := by decide +kernel
theorem dX10_starsOf_29 : decode cX10_starsOf 29 = .ok (.iaload, 1) := by decide +kernel
theorem dX10_starsOf_30 : decode cX10_starsOf 30 = .ok (.ifCond .lt 96, 3) := by decide +kernel
theorem dX10_starsOf_33 : decode cX10_starsOf 33 = .ok (.aload_n 0, 1) := by decide +kernel
theorem dX10_starsOf_34 : decode cX10_starsOf 34 = .ok (.getfield 127, 3) := by decide +kernel
theorem dX10_starsOf_37 : decode cX10_starsOf 37 = .ok (.iconst 5, 1) := by decide +kernel
theorem dX10_starsOf_38 : decode cX10_starsOf 38 = .ok (.iload_n 1, 1) := by decide +kernel
theorem dX10_starsOf_39 : decode cX10_starsOf 39 = .ok (.imul, 1) := by decide +kernel
theorem dX10_starsOf_40 : decode cX10_starsOf 40 = .ok (.iload 6, 2) := by decide +kernel
theorem dX10_starsOf_42 : decode cX10_starsOf 42 = .ok (.iadd, 1) := by decide +kernel
theorem dX10_starsOf_43 : decode cX10_starsOf 43 = .ok (.iaload, 1) := by decide +kernel
theorem dX10_starsOf_44 : decode cX10_starsOf 44 = .ok (.aload_n 0, 1) := by decide +kernel
theorem dX10_starsOf_45 : decode cX10_starsOf 45 = .ok (.iload 6, 2) := by decide +kernel
theorem dX10_starsOf_47 : decode cX10_starsOf 47 = .ok (.invokevirtual 294, 3) := by decide +kernel
theorem dX10_starsOf_50 : decode cX10_starsOf 50 = .ok (.isub, 1) := by decide +kernel
theorem dX10_starsOf_51 : decode cX10_starsOf 51 = .ok (.istore 7, 2) := by decide +kernel
theorem dX10_starsOf_53 : decode cX10_starsOf 53 = .ok (.iload 7, 2) := by decide +kernel
theorem dX10_starsOf_55 : decode cX10_starsOf 55 = .ok (.ifCond .ge 7, 3) := by decide +kernel
theorem dX10_starsOf_58 : decode cX10_starsOf 58 = .ok (.iconst 0, 1) := by decide +kernel
theorem dX10_starsOf_59 : decode cX10_starsOf 59 = .ok (.goto 17, 3) := by decide +kernel
theorem dX10_starsOf_62 : decode cX10_starsOf 62 = .ok (.iload 7, 2) := by decide +kernel
theorem dX10_starsOf_64 : decode cX10_starsOf 64 = .ok (.bipush 100, 2) := by decide +kernel
theorem dX10_starsOf_66 : decode cX10_starsOf 66 = .ok (.if_icmp .le 8, 3) := by decide +kernel
theorem dX10_starsOf_69 : decode cX10_starsOf 69 = .ok (.bipush 100, 2) := by decide +kernel
theorem dX10_starsOf_71 : decode cX10_starsOf 71 = .ok (.goto 5, 3) := by decide +kernel
theorem dX10_starsOf_74 : decode cX10_starsOf 74 = .ok (.iload 7, 2) := by decide +kernel
theorem dX10_starsOf_76 : decode cX10_starsOf 76 = .ok (.istore 7, 2) := by decide +kernel
theorem dX10_starsOf_78 : decode cX10_starsOf 78 = .ok (.iload_n 2, 1) := by decide +kernel
theorem dX10_starsOf_79 : decode cX10_starsOf 79 = .ok (.ifCond .eq 10, 3) := by decide +kernel
theorem dX10_starsOf_82 : decode cX10_starsOf 82 = .ok (.iload 7, 2) := by decide +kernel
theorem dX10_starsOf_84 : decode cX10_starsOf 84 = .ok (.iload 4, 2) := by decide +kernel
theorem dX10_starsOf_86 : decode cX10_starsOf 86 = .ok (.if_icmp .ge 8, 3) := by decide +kernel
theorem dX10_starsOf_89 : decode cX10_starsOf 89 = .ok (.iload 7, 2) := by decide +kernel
theorem dX10_starsOf_91 : decode cX10_starsOf 91 = .ok (.goto 5, 3) := by decide +kernel
theorem dX10_starsOf_94 : decode cX10_starsOf 94 = .ok (.iload 4, 2) := by decide +kernel
theorem dX10_starsOf_96 : decode cX10_starsOf 96 = .ok (.istore 4, 2) := by decide +kernel
theorem dX10_starsOf_98 : decode cX10_starsOf 98 = .ok (.iload_n 2, 1) := by decide +kernel
theorem dX10_starsOf_99 : decode cX10_starsOf 99 = .ok (.ifCond .eq 10, 3) := by decide +kernel
theorem dX10_starsOf_102 : decode cX10_starsOf 102 = .ok (.iload 7, 2) := by decide +kernel
theorem dX10_starsOf_104 : decode cX10_starsOf 104 = .ok (.iload 5, 2) := by decide +kernel
theorem dX10_starsOf_106 : decode cX10_starsOf 106 = .ok (.if_icmp .le 8, 3) := by decide +kernel
theorem dX10_starsOf_109 : decode cX10_starsOf 109 = .ok (.iload 7, 2) := by decide +kernel
theorem dX10_starsOf_111 : decode cX10_starsOf 111 = .ok (.goto 5, 3) := by decide +kernel
theorem dX10_starsOf_114 : decode cX10_starsOf 114 = .ok (.iload 5, 2) := by decide +kernel
theorem dX10_starsOf_116 : decode cX10_starsOf 116 = .ok (.istore 5, 2) := by decide +kernel
theorem dX10_starsOf_118 : decode cX10_starsOf 118 = .ok (.iload_n 3, 1) := by decide +kernel
theorem dX10_starsOf_119 : decode cX10_starsOf 119 = .ok (.iload 7, 2) := by decide +kernel
theorem dX10_starsOf_121 : decode cX10_starsOf 121 = .ok (.iadd, 1) := by decide +kernel
theorem dX10_starsOf_122 : decode cX10_starsOf 122 = .ok (.istore_n 3, 1) := by decide +kernel
theorem dX10_starsOf_123 : decode cX10_starsOf 123 = .ok (.iinc 2 1, 3) := by decide +kernel
theorem dX10_starsOf_126 : decode cX10_starsOf 126 = .ok (.iinc 6 1, 3) := by decide +kernel
theorem dX10_starsOf_129 : decode cX10_starsOf 129 = .ok (.goto (-116), 3) := by decide +kernel
theorem dX10_starsOf_132 : decode cX10_starsOf 132 = .ok (.aload_n 0, 1) := by decide +kernel
theorem dX10_starsOf_133 : decode cX10_starsOf 133 = .ok (.getfield 79, 3) := by decide +kernel
theorem dX10_starsOf_136 : decode cX10_starsOf 136 = .ok (.iconst 0, 1) := by decide +kernel
theorem dX10_starsOf_137 : decode cX10_starsOf 137 = .ok (.iload_n 2, 1) := by decide +kernel
theorem dX10_starsOf_138 : decode cX10_starsOf 138 = .ok (.iastore, 1) := by decide +kernel
theorem dX10_starsOf_139 : decode cX10_starsOf 139 = .ok (.aload_n 0, 1) := by decide +kernel
theorem dX10_starsOf_140 : decode cX10_starsOf 140 = .ok (.getfield 79, 3) := by decide +kernel
theorem dX10_starsOf_143 : decode cX10_starsOf 143 = .ok (.iconst 1, 1) := by decide +kernel
theorem dX10_starsOf_144 : decode cX10_starsOf 144 = .ok (.iload_n 2, 1) := by decide +kernel
theorem dX10_starsOf_145 : decode cX10_starsOf 145 = .ok (.ifCond .ne 7, 3) := by decide +kernel
theorem dX10_starsOf_148 : decode cX10_starsOf 148 = .ok (.iconst 0, 1) := by decide +kernel
theorem dX10_starsOf_149 : decode cX10_starsOf 149 = .ok (.goto 6, 3) := by decide +kernel
theorem dX10_starsOf_152 : decode cX10_starsOf 152 = .ok (.iload_n 3, 1) := by decide +kernel
theorem dX10_starsOf_153 : decode cX10_starsOf 153 = .ok (.iload_n 2, 1) := by decide +kernel
theorem dX10_starsOf_154 : decode cX10_starsOf 154 = .ok (.idiv, 1) := by decide +kernel
theorem dX10_starsOf_155 : decode cX10_starsOf 155 = .ok (.iastore, 1) := by decide +kernel
theorem dX10_starsOf_156 : decode cX10_starsOf 156 = .ok (.aload_n 0, 1) := by decide +kernel
theorem dX10_starsOf_157 : decode cX10_starsOf 157 = .ok (.getfield 79, 3) := by decide +kernel
theorem dX10_starsOf_160 : decode cX10_starsOf 160 = .ok (.iconst 2, 1) := by decide +kernel
theorem dX10_starsOf_161 : decode cX10_starsOf 161 = .ok (.iload 4, 2) := by decide +kernel
theorem dX10_starsOf_163 : decode cX10_starsOf 163 = .ok (.iastore, 1) := by decide +kernel
theorem dX10_starsOf_164 : decode cX10_starsOf 164 = .ok (.aload_n 0, 1) := by decide +kernel
theorem dX10_starsOf_165 : decode cX10_starsOf 165 = .ok (.getfield 79, 3) := by decide +kernel
theorem dX10_starsOf_168 : decode cX10_starsOf 168 = .ok (.iconst 3, 1) := by decide +kernel
theorem dX10_starsOf_169 : decode cX10_starsOf 169 = .ok (.iload 5, 2) := by decide +kernel
theorem dX10_starsOf_171 : decode cX10_starsOf 171 = .ok (.iastore, 1) := by decide +kernel
theorem dX10_starsOf_172 : decode cX10_starsOf 172 = .ok (.aload_n 0, 1) := by decide +kernel
theorem dX10_starsOf_173 : decode cX10_starsOf 173 = .ok (.getfield 79, 3) := by decide +kernel
theorem dX10_starsOf_176 : decode cX10_starsOf 176 = .ok (.iconst 4, 1) := by decide +kernel
theorem dX10_starsOf_177 : decode cX10_starsOf 177 = .ok (.iconst 0, 1) := by decide +kernel
theorem dX10_starsOf_178 : decode cX10_starsOf 178 = .ok (.iastore, 1) := by decide +kernel
theorem dX10_starsOf_179 : decode cX10_starsOf 179 = .ok (.iconst 0, 1) := by decide +kernel
theorem dX10_starsOf_180 : decode cX10_starsOf 180 = .ok (.istore 6, 2) := by decide +kernel
theorem dX10_starsOf_182 : decode cX10_starsOf 182 = .ok (.iload 6, 2) := by decide +kernel
theorem dX10_starsOf_184 : decode cX10_starsOf 184 = .ok (.aload_n 0, 1) := by decide +kernel
theorem dX10_starsOf_185 : decode cX10_starsOf 185 = .ok (.getfield 250, 3) := by decide +kernel
theorem dX10_starsOf_188 : decode cX10_starsOf 188 = .ok (.if_icmp .ge 34, 3) := by decide +kernel
theorem dX10_starsOf_191 : decode cX10_starsOf 191 = .ok (.aload_n 0, 1) := by decide +kernel
theorem dX10_starsOf_192 : decode cX10_starsOf 192 = .ok (.getfield 79, 3) := by decide +kernel
theorem dX10_starsOf_195 : decode cX10_starsOf 195 = .ok (.iconst 4, 1) := by decide +kernel
theorem dX10_starsOf_196 : decode cX10_starsOf 196 = .ok (.dup2, 1) := by decide +kernel
theorem dX10_starsOf_197 : decode cX10_starsOf 197 = .ok (.iaload, 1) := by decide +kernel
theorem dX10_starsOf_198 : decode cX10_starsOf 198 = .ok (.aload_n 0, 1) := by decide +kernel
theorem dX10_starsOf_199 : decode cX10_starsOf 199 = .ok (.getfield 88, 3) := by decide +kernel
theorem dX10_starsOf_202 : decode cX10_starsOf 202 = .ok (.iload 6, 2) := by decide +kernel
theorem dX10_starsOf_204 : decode cX10_starsOf 204 = .ok (.iaload, 1) := by decide +kernel
theorem dX10_starsOf_205 : decode cX10_starsOf 205 = .ok (.iload_n 1, 1) := by decide +kernel
theorem dX10_starsOf_206 : decode cX10_starsOf 206 = .ok (.if_icmp .ne 7, 3) := by decide +kernel
theorem dX10_starsOf_209 : decode cX10_starsOf 209 = .ok (.iconst 1, 1) := by decide +kernel
theorem dX10_starsOf_210 : decode cX10_starsOf 210 = .ok (.goto 4, 3) := by decide +kernel
theorem dX10_starsOf_213 : decode cX10_starsOf 213 = .ok (.iconst 0, 1) := by decide +kernel
theorem dX10_starsOf_214 : decode cX10_starsOf 214 = .ok (.iadd, 1) := by decide +kernel
theorem dX10_starsOf_215 : decode cX10_starsOf 215 = .ok (.iastore, 1) := by decide +kernel
theorem dX10_starsOf_216 : decode cX10_starsOf 216 = .ok (.iinc 6 1, 3) := by decide +kernel
theorem dX10_starsOf_219 : decode cX10_starsOf 219 = .ok (.goto (-37), 3) := by decide +kernel
theorem dX10_starsOf_222 : decode cX10_starsOf 222 = .ok (.aload_n 0, 1) := by decide +kernel
theorem dX10_starsOf_223 : decode cX10_starsOf 223 = .ok (.getfield 79, 3) := by decide +kernel
theorem dX10_starsOf_226 : decode cX10_starsOf 226 = .ok (.iconst 5, 1) := by decide +kernel
theorem dX10_starsOf_227 : decode cX10_starsOf 227 = .ok (.aload_n 0, 1) := by decide +kernel
theorem dX10_starsOf_228 : decode cX10_starsOf 228 = .ok (.getfield 130, 3) := by decide +kernel
theorem dX10_starsOf_231 : decode cX10_starsOf 231 = .ok (.iload_n 1, 1) := by decide +kernel
theorem dX10_starsOf_232 : decode cX10_starsOf 232 = .ok (.baload, 1) := by decide +kernel
theorem dX10_starsOf_233 : decode cX10_starsOf 233 = .ok (.ifCond .eq 7, 3) := by decide +kernel
theorem dX10_starsOf_236 : decode cX10_starsOf 236 = .ok (.iconst 1, 1) := by decide +kernel
theorem dX10_starsOf_237 : decode cX10_starsOf 237 = .ok (.goto 4, 3) := by decide +kernel
theorem dX10_starsOf_240 : decode cX10_starsOf 240 = .ok (.iconst 0, 1) := by decide +kernel
theorem dX10_starsOf_241 : decode cX10_starsOf 241 = .ok (.iastore, 1) := by decide +kernel
theorem dX10_starsOf_242 : decode cX10_starsOf 242 = .ok (.bipush 16, 2) := by decide +kernel
theorem dX10_starsOf_244 : decode cX10_starsOf 244 = .ok (.aload_n 0, 1) := by decide +kernel
theorem dX10_starsOf_245 : decode cX10_starsOf 245 = .ok (.getfield 203, 3) := by decide +kernel
theorem dX10_starsOf_248 : decode cX10_starsOf 248 = .ok (.imul, 1) := by decide +kernel
theorem dX10_starsOf_249 : decode cX10_starsOf 249 = .ok (.istore 6, 2) := by decide +kernel
theorem dX10_starsOf_251 : decode cX10_starsOf 251 = .ok (.iload 6, 2) := by decide +kernel
theorem dX10_starsOf_253 : decode cX10_starsOf 253 = .ok (.bipush 16, 2) := by decide +kernel
theorem dX10_starsOf_255 : decode cX10_starsOf 255 = .ok (.aload_n 0, 1) := by decide +kernel
theorem dX10_starsOf_256 : decode cX10_starsOf 256 = .ok (.getfield 203, 3) := by decide +kernel
theorem dX10_starsOf_259 : decode cX10_starsOf 259 = .ok (.imul, 1) := by decide +kernel
theorem dX10_starsOf_260 : decode cX10_starsOf 260 = .ok (.aload_n 0, 1) := by decide +kernel
theorem dX10_starsOf_261 : decode cX10_starsOf 261 = .ok (.getfield 55, 3) := by decide +kernel
theorem dX10_starsOf_264 : decode cX10_starsOf 264 = .ok (.aload_n 0, 1) := by decide +kernel
theorem dX10_starsOf_265 : decode cX10_starsOf 265 = .ok (.getfield 203, 3) := by decide +kernel
theorem dX10_starsOf_268 : decode cX10_starsOf 268 = .ok (.iaload, 1) := by decide +kernel
theorem dX10_starsOf_269 : decode cX10_starsOf 269 = .ok (.iadd, 1) := by decide +kernel
theorem dX10_starsOf_270 : decode cX10_starsOf 270 = .ok (.if_icmp .ge 31, 3) := by decide +kernel
theorem dX10_starsOf_273 : decode cX10_starsOf 273 = .ok (.aload_n 0, 1) := by decide +kernel
theorem dX10_starsOf_274 : decode cX10_starsOf 274 = .ok (.aload_n 0, 1) := by decide +kernel
theorem dX10_starsOf_275 : decode cX10_starsOf 275 = .ok (.getfield 61, 3) := by decide +kernel
theorem dX10_starsOf_278 : decode cX10_starsOf 278 = .ok (.iload 6, 2) := by decide +kernel
theorem dX10_starsOf_280 : decode cX10_starsOf 280 = .ok (.iaload, 1) := by decide +kernel
theorem dX10_starsOf_281 : decode cX10_starsOf 281 = .ok (.invokevirtual 297, 3) := by decide +kernel
theorem dX10_starsOf_284 : decode cX10_starsOf 284 = .ok (.ifCond .eq 11, 3) := by decide +kernel
theorem dX10_starsOf_287 : decode cX10_starsOf 287 = .ok (.aload_n 0, 1) := by decide +kernel
theorem dX10_starsOf_288 : decode cX10_starsOf 288 = .ok (.getfield 58, 3) := by decide +kernel
theorem dX10_starsOf_291 : decode cX10_starsOf 291 = .ok (.iload 6, 2) := by decide +kernel
theorem dX10_starsOf_293 : decode cX10_starsOf 293 = .ok (.iaload, 1) := by decide +kernel
theorem dX10_starsOf_294 : decode cX10_starsOf 294 = .ok (.ireturn, 1) := by decide +kernel
theorem dX10_starsOf_295 : decode cX10_starsOf 295 = .ok (.iinc 6 1, 3) := by decide +kernel
theorem dX10_starsOf_298 : decode cX10_starsOf 298 = .ok (.goto (-47), 3) := by decide +kernel
theorem dX10_starsOf_301 : decode cX10_starsOf 301 = .ok (.iconst 0, 1) := by decide +kernel
theorem dX10_starsOf_302 : decode cX10_starsOf 302 = .ok (.ireturn, 1) := by decide +kernel
theorem dX10_stars_0 : decode cX10_stars 0 = .ok (.aload_n 0, 1) := by decide +kernel
theorem dX10_stars_1 : decode cX10_stars 1 = .ok (.iconst 0, 1) := by decide +kernel
theorem dX10_stars_2 : decode cX10_stars 2 = .ok (.putfield 1, 3) := by decide +kernel
theorem dX10_stars_5 : decode cX10_stars 5 = .ok (.iload_n 1, 1) := by decide +kernel
theorem dX10_stars_6 : decode cX10_stars 6 = .ok (.invokestatic 244, 3) := by decide +kernel
theorem dX10_stars_9 : decode cX10_stars 9 = .ok (.ifCond .eq 11, 3) := by decide +kernel
theorem dX10_stars_12 : decode cX10_stars 12 = .ok (.aload_n 0, 1) := by decide +kernel
theorem dX10_stars_13 : decode cX10_stars 13 = .ok (.iload_n 1, 1) := by decide +kernel
theorem dX10_stars_14 : decode cX10_stars 14 = .ok (.invokevirtual 300, 3) := by decide +kernel
theorem dX10_stars_17 : decode cX10_stars 17 = .ok (.goto 4, 3) := by decide +kernel
theorem dX10_stars_20 : decode cX10_stars 20 = .ok (.iconst (-1), 1) := by decide +kernel
theorem dX10_stars_21 : decode cX10_stars 21 = .ok (.ireturn, 1) := by decide +kernel
theorem dX10_laysOut_0 : decode cX10_laysOut 0 = .ok (.aload_n 0, 1) := by decide +kernel
theorem dX10_laysOut_1 : decode cX10_laysOut 1 = .ok (.iconst 0, 1) := by decide +kernel
theorem dX10_laysOut_2 : decode cX10_laysOut 2 = .ok (.putfield 303, 3) := by decide +kernel
theorem dX10_laysOut_5 : decode cX10_laysOut 5 = .ok (.iconst 0, 1) := by decide +kernel
theorem dX10_laysOut_6 : decode cX10_laysOut 6 = .ok (.istore_n 2, 1) := by decide +kernel
theorem dX10_laysOut_7 : decode cX10_laysOut 7 = .ok (.iload_n 2, 1) := by decide +kernel
theorem dX10_laysOut_8 : decode cX10_laysOut 8 = .ok (.aload_n 0, 1) := by decide +kernel
theorem dX10_laysOut_9 : decode cX10_laysOut 9 = .ok (.getfield 250, 3) := by decide +kernel
theorem dX10_laysOut_12 : decode cX10_laysOut 12 = .ok (.if_icmp .ge 39, 3) := by decide +kernel
theorem dX10_laysOut_15 : decode cX10_laysOut 15 = .ok (.aload_n 0, 1) := by decide +kernel
theorem dX10_laysOut_16 : decode cX10_laysOut 16 = .ok (.getfield 88, 3) := by decide +kernel
theorem dX10_laysOut_19 : decode cX10_laysOut 19 = .ok (.iload_n 2, 1) := by decide +kernel
theorem dX10_laysOut_20 : decode cX10_laysOut 20 = .ok (.iaload, 1) := by decide +kernel
theorem dX10_laysOut_21 : decode cX10_laysOut 21 = .ok (.iload_n 1, 1) := by decide +kernel
theorem dX10_laysOut_22 : decode cX10_laysOut 22 = .ok (.if_icmp .ne 23, 3) := by decide +kernel
theorem dX10_laysOut_25 : decode cX10_laysOut 25 = .ok (.aload_n 0, 1) := by decide +kernel
theorem dX10_laysOut_26 : decode cX10_laysOut 26 = .ok (.getfield 134, 3) := by decide +kernel
theorem dX10_laysOut_29 : decode cX10_laysOut 29 = .ok (.aload_n 0, 1) := by decide +kernel
theorem dX10_laysOut_30 : decode cX10_laysOut 30 = .ok (.getfield 303, 3) := by decide +kernel
theorem dX10_laysOut_33 : decode cX10_laysOut 33 = .ok (.iload_n 2, 1) := by decide +kernel
theorem dX10_laysOut_34 : decode cX10_laysOut 34 = .ok (.iastore, 1) := by decide +kernel
theorem dX10_laysOut_35 : decode cX10_laysOut 35 = .ok (.aload_n 0, 1) := by decide +kernel
theorem dX10_laysOut_36 : decode cX10_laysOut 36 = .ok (.dup, 1) := by decide +kernel
theorem dX10_laysOut_37 : decode cX10_laysOut 37 = .ok (.getfield 303, 3) := by decide +kernel
theorem dX10_laysOut_40 : decode cX10_laysOut 40 = .ok (.iconst 1, 1) := by decide +kernel
theorem dX10_laysOut_41 : decode cX10_laysOut 41 = .ok (.iadd, 1) := by decide +kernel
theorem dX10_laysOut_42 : decode cX10_laysOut 42 = .ok (.putfield 303, 3) := by decide +kernel
theorem dX10_laysOut_45 : decode cX10_laysOut 45 = .ok (.iinc 2 1, 3) := by decide +kernel
theorem dX10_laysOut_48 : decode cX10_laysOut 48 = .ok (.goto (-41), 3) := by decide +kernel
theorem dX10_laysOut_51 : decode cX10_laysOut 51 = .ok (.aload_n 0, 1) := by decide +kernel
theorem dX10_laysOut_52 : decode cX10_laysOut 52 = .ok (.getfield 303, 3) := by decide +kernel
theorem dX10_laysOut_55 : decode cX10_laysOut 55 = .ok (.istore_n 2, 1) := by decide +kernel
theorem dX10_laysOut_56 : decode cX10_laysOut 56 = .ok (.iload_n 2, 1) := by decide +kernel
theorem dX10_laysOut_57 : decode cX10_laysOut 57 = .ok (.ifCond .lt 200, 3) := by decide +kernel
theorem dX10_laysOut_60 : decode cX10_laysOut 60 = .ok (.iconst 0, 1) := by decide +kernel
theorem dX10_laysOut_61 : decode cX10_laysOut 61 = .ok (.istore_n 3, 1) := by decide +kernel
theorem dX10_laysOut_62 : decode cX10_laysOut 62 = .ok (.iload_n 3, 1) := by decide +kernel
theorem dX10_laysOut_63 : decode cX10_laysOut 63 = .ok (.bipush 100, 2) := by decide +kernel
theorem dX10_laysOut_65 : decode cX10_laysOut 65 = .ok (.if_icmp .ge 186, 3) := by decide +kernel
theorem dX10_laysOut_68 : decode cX10_laysOut 68 = .ok (.aload_n 0, 1) := by decide +kernel
theorem dX10_laysOut_69 : decode cX10_laysOut 69 = .ok (.getfield 137, 3) := by decide +kernel
theorem dX10_laysOut_72 : decode cX10_laysOut 72 = .ok (.bipush 100, 2) := by decide +kernel
theorem dX10_laysOut_74 : decode cX10_laysOut 74 = .ok (.iload_n 2, 1) := by decide +kernel
theorem dX10_laysOut_75 : decode cX10_laysOut 75 = .ok (.imul, 1) := by decide +kernel
theorem dX10_laysOut_76 : decode cX10_laysOut 76 = .ok (.iload_n 3, 1) := by decide +kernel
theorem dX10_laysOut_77 : decode cX10_laysOut 77 = .ok (.iadd, 1) := by decide +kernel
theorem dX10_laysOut_78 : decode cX10_laysOut 78 = .ok (.iconst 0, 1) := by decide +kernel
theorem dX10_laysOut_79 : decode cX10_laysOut 79 = .ok (.iastore, 1) := by decide +kernel
theorem dX10_laysOut_80 : decode cX10_laysOut 80 = .ok (.aload_n 0, 1) := by decide +kernel
theorem dX10_laysOut_81 : decode cX10_laysOut 81 = .ok (.getfield 140, 3) := by decide +kernel
theorem dX10_laysOut_84 : decode cX10_laysOut 84 = .ok (.bipush 100, 2) := by decide +kernel
theorem dX10_laysOut_86 : decode cX10_laysOut 86 = .ok (.iload_n 2, 1) := by decide +kernel
theorem dX10_laysOut_87 : decode cX10_laysOut 87 = .ok (.imul, 1) := by decide +kernel
theorem dX10_laysOut_88 : decode cX10_laysOut 88 = .ok (.iload_n 3, 1) := by decide +kernel
theorem dX10_laysOut_89 : decode cX10_laysOut 89 = .ok (.iadd, 1) := by decide +kernel
theorem dX10_laysOut_90 : decode cX10_laysOut 90 = .ok (.iconst 0, 1) := by decide +kernel
theorem dX10_laysOut_91 : decode cX10_laysOut 91 = .ok (.iastore, 1) := by decide +kernel
theorem dX10_laysOut_92 : decode cX10_laysOut 92 = .ok (.iload_n 2, 1) := by decide +kernel
theorem dX10_laysOut_93 : decode cX10_laysOut 93 = .ok (.aload_n 0, 1) := by decide +kernel
theorem dX10_laysOut_94 : decode cX10_laysOut 94 = .ok (.getfield 303, 3) := by decide +kernel
theorem dX10_laysOut_97 : decode cX10_laysOut 97 = .ok (.if_icmp .ge 148, 3) := by decide +kernel
theorem dX10_laysOut_100 : decode cX10_laysOut 100 = .ok (.aload_n 0, 1) := by decide +kernel
theorem dX10_laysOut_101 : decode cX10_laysOut 101 = .ok (.getfield 137, 3) := by decide +kernel
theorem dX10_laysOut_104 : decode cX10_laysOut 104 = .ok (.bipush 100, 2) := by decide +kernel
theorem dX10_laysOut_106 : decode cX10_laysOut 106 = .ok (.iload_n 2, 1) := by decide +kernel
theorem dX10_laysOut_107 : decode cX10_laysOut 107 = .ok (.imul, 1) := by decide +kernel
theorem dX10_laysOut_108 : decode cX10_laysOut 108 = .ok (.iload_n 3, 1) := by decide +kernel
theorem dX10_laysOut_109 : decode cX10_laysOut 109 = .ok (.iadd, 1) := by decide +kernel
theorem dX10_laysOut_110 : decode cX10_laysOut 110 = .ok (.aload_n 0, 1) := by decide +kernel
theorem dX10_laysOut_111 : decode cX10_laysOut 111 = .ok (.getfield 137, 3) := by decide +kernel
theorem dX10_laysOut_114 : decode cX10_laysOut 114 = .ok (.bipush 100, 2) := by decide +kernel
theorem dX10_laysOut_116 : decode cX10_laysOut 116 = .ok (.iload_n 2, 1) := by decide +kernel
theorem dX10_laysOut_117 : decode cX10_laysOut 117 = .ok (.iconst 1, 1) := by decide +kernel
theorem dX10_laysOut_118 : decode cX10_laysOut 118 = .ok (.iadd, 1) := by decide +kernel
theorem dX10_laysOut_119 : decode cX10_laysOut 119 = .ok (.imul, 1) := by decide +kernel
theorem dX10_laysOut_120 : decode cX10_laysOut 120 = .ok (.iload_n 3, 1) := by decide +kernel
theorem dX10_laysOut_121 : decode cX10_laysOut 121 = .ok (.iadd, 1) := by decide +kernel
theorem dX10_laysOut_122 : decode cX10_laysOut 122 = .ok (.iaload, 1) := by decide +kernel
theorem dX10_laysOut_123 : decode cX10_laysOut 123 = .ok (.iastore, 1) := by decide +kernel
theorem dX10_laysOut_124 : decode cX10_laysOut 124 = .ok (.aload_n 0, 1) := by decide +kernel
theorem dX10_laysOut_125 : decode cX10_laysOut 125 = .ok (.getfield 140, 3) := by decide +kernel
theorem dX10_laysOut_128 : decode cX10_laysOut 128 = .ok (.bipush 100, 2) := by decide +kernel
theorem dX10_laysOut_130 : decode cX10_laysOut 130 = .ok (.iload_n 2, 1) := by decide +kernel
theorem dX10_laysOut_131 : decode cX10_laysOut 131 = .ok (.imul, 1) := by decide +kernel
theorem dX10_laysOut_132 : decode cX10_laysOut 132 = .ok (.iload_n 3, 1) := by decide +kernel
theorem dX10_laysOut_133 : decode cX10_laysOut 133 = .ok (.iadd, 1) := by decide +kernel
theorem dX10_laysOut_134 : decode cX10_laysOut 134 = .ok (.aload_n 0, 1) := by decide +kernel
theorem dX10_laysOut_135 : decode cX10_laysOut 135 = .ok (.getfield 140, 3) := by decide +kernel
theorem dX10_laysOut_138 : decode cX10_laysOut 138 = .ok (.bipush 100, 2) := by decide +kernel
theorem dX10_laysOut_140 : decode cX10_laysOut 140 = .ok (.iload_n 2, 1) := by decide +kernel
theorem dX10_laysOut_141 : decode cX10_laysOut 141 = .ok (.iconst 1, 1) := by decide +kernel
theorem dX10_laysOut_142 : decode cX10_laysOut 142 = .ok (.iadd, 1) := by decide +kernel
theorem dX10_laysOut_143 : decode cX10_laysOut 143 = .ok (.imul, 1) := by decide +kernel
theorem dX10_laysOut_144 : decode cX10_laysOut 144 = .ok (.iload_n 3, 1) := by decide +kernel
theorem dX10_laysOut_145 : decode cX10_laysOut 145 = .ok (.iadd, 1) := by decide +kernel
theorem dX10_laysOut_146 : decode cX10_laysOut 146 = .ok (.iaload, 1) := by decide +kernel
theorem dX10_laysOut_147 : decode cX10_laysOut 147 = .ok (.iastore, 1) := by decide +kernel
theorem dX10_laysOut_148 : decode cX10_laysOut 148 = .ok (.aload_n 0, 1) := by decide +kernel
theorem dX10_laysOut_149 : decode cX10_laysOut 149 = .ok (.iload_n 2, 1) := by decide +kernel
theorem dX10_laysOut_150 : decode cX10_laysOut 150 = .ok (.iload_n 3, 1) := by decide +kernel
theorem dX10_laysOut_151 : decode cX10_laysOut 151 = .ok (.invokevirtual 306, 3) := by decide +kernel
theorem dX10_laysOut_154 : decode cX10_laysOut 154 = .ok (.ifCond .eq 91, 3) := by decide +kernel
theorem dX10_laysOut_157 : decode cX10_laysOut 157 = .ok (.aload_n 0, 1) := by decide +kernel
theorem dX10_laysOut_158 : decode cX10_laysOut 158 = .ok (.getfield 134, 3) := by decide +kernel
theorem dX10_laysOut_161 : decode cX10_laysOut 161 = .ok (.iload_n 2, 1) := by decide +kernel
theorem dX10_laysOut_162 : decode cX10_laysOut 162 = .ok (.iaload, 1) := by decide +kernel
theorem dX10_laysOut_163 : decode cX10_laysOut 163 = .ok (.istore 4, 2) := by decide +kernel
theorem dX10_laysOut_165 : decode cX10_laysOut 165 = .ok (.aload_n 0, 1) := by decide +kernel
theorem dX10_laysOut_166 : decode cX10_laysOut 166 = .ok (.getfield 137, 3) := by decide +kernel
theorem dX10_laysOut_169 : decode cX10_laysOut 169 = .ok (.bipush 100, 2) := by decide +kernel
theorem dX10_laysOut_171 : decode cX10_laysOut 171 = .ok (.iload_n 2, 1) := by decide +kernel
theorem dX10_laysOut_172 : decode cX10_laysOut 172 = .ok (.imul, 1) := by decide +kernel
theorem dX10_laysOut_173 : decode cX10_laysOut 173 = .ok (.iload_n 3, 1) := by decide +kernel
theorem dX10_laysOut_174 : decode cX10_laysOut 174 = .ok (.iadd, 1) := by decide +kernel
theorem dX10_laysOut_175 : decode cX10_laysOut 175 = .ok (.aload_n 0, 1) := by decide +kernel
theorem dX10_laysOut_176 : decode cX10_laysOut 176 = .ok (.getfield 100, 3) := by decide +kernel
theorem dX10_laysOut_179 : decode cX10_laysOut 179 = .ok (.iload 4, 2) := by decide +kernel
theorem dX10_laysOut_181 : decode cX10_laysOut 181 = .ok (.iaload, 1) := by decide +kernel
theorem dX10_laysOut_182 : decode cX10_laysOut 182 = .ok (.aload_n 0, 1) := by decide +kernel
theorem dX10_laysOut_183 : decode cX10_laysOut 183 = .ok (.getfield 137, 3) := by decide +kernel
theorem dX10_laysOut_186 : decode cX10_laysOut 186 = .ok (.bipush 100, 2) := by decide +kernel
theorem dX10_laysOut_188 : decode cX10_laysOut 188 = .ok (.iload_n 2, 1) := by decide +kernel
theorem dX10_laysOut_189 : decode cX10_laysOut 189 = .ok (.iconst 1, 1) := by decide +kernel
theorem dX10_laysOut_190 : decode cX10_laysOut 190 = .ok (.iadd, 1) := by decide +kernel
theorem dX10_laysOut_191 : decode cX10_laysOut 191 = .ok (.imul, 1) := by decide +kernel
theorem dX10_laysOut_192 : decode cX10_laysOut 192 = .ok (.iload_n 3, 1) := by decide +kernel
theorem dX10_laysOut_193 : decode cX10_laysOut 193 = .ok (.iadd, 1) := by decide +kernel
theorem dX10_laysOut_194 : decode cX10_laysOut 194 = .ok (.aload_n 0, 1) := by decide +kernel
theorem dX10_laysOut_195 : decode cX10_laysOut 195 = .ok (.getfield 97, 3) := by decide +kernel
theorem dX10_laysOut_198 : decode cX10_laysOut 198 = .ok (.iload 4, 2) := by decide +kernel
theorem dX10_laysOut_200 : decode cX10_laysOut 200 = .ok (.iaload, 1) := by decide +kernel
theorem dX10_laysOut_201 : decode cX10_laysOut 201 = .ok (.isub, 1) := by decide +kernel
theorem dX10_laysOut_202 : decode cX10_laysOut 202 = .ok (.iaload, 1) := by decide +kernel
theorem dX10_laysOut_203 : decode cX10_laysOut 203 = .ok (.iadd, 1) := by decide +kernel
theorem dX10_laysOut_204 : decode cX10_laysOut 204 = .ok (.iastore, 1) := by decide +kernel
theorem dX10_laysOut_205 : decode cX10_laysOut 205 = .ok (.aload_n 0, 1) := by decide +kernel
theorem dX10_laysOut_206 : decode cX10_laysOut 206 = .ok (.getfield 140, 3) := by decide +kernel
theorem dX10_laysOut_209 : decode cX10_laysOut 209 = .ok (.bipush 100, 2) := by decide +kernel
theorem dX10_laysOut_211 : decode cX10_laysOut 211 = .ok (.iload_n 2, 1) := by decide +kernel
theorem dX10_laysOut_212 : decode cX10_laysOut 212 = .ok (.imul, 1) := by decide +kernel
theorem dX10_laysOut_213 : decode cX10_laysOut 213 = .ok (.iload_n 3, 1) := by decide +kernel
theorem dX10_laysOut_214 : decode cX10_laysOut 214 = .ok (.iadd, 1) := by decide +kernel
theorem dX10_laysOut_215 : decode cX10_laysOut 215 = .ok (.aload_n 0, 1) := by decide +kernel
theorem dX10_laysOut_216 : decode cX10_laysOut 216 = .ok (.getfield 97, 3) := by decide +kernel
theorem dX10_laysOut_219 : decode cX10_laysOut 219 = .ok (.iload 4, 2) := by decide +kernel
theorem dX10_laysOut_221 : decode cX10_laysOut 221 = .ok (.iaload, 1) := by decide +kernel
theorem dX10_laysOut_222 : decode cX10_laysOut 222 = .ok (.aload_n 0, 1) := by decide +kernel
theorem dX10_laysOut_223 : decode cX10_laysOut 223 = .ok (.getfield 140, 3) := by decide +kernel
theorem dX10_laysOut_226 : decode cX10_laysOut 226 = .ok (.bipush 100, 2) := by decide +kernel
theorem dX10_laysOut_228 : decode cX10_laysOut 228 = .ok (.iload_n 2, 1) := by decide +kernel
theorem dX10_laysOut_229 : decode cX10_laysOut 229 = .ok (.iconst 1, 1) := by decide +kernel
theorem dX10_laysOut_230 : decode cX10_laysOut 230 = .ok (.iadd, 1) := by decide +kernel
theorem dX10_laysOut_231 : decode cX10_laysOut 231 = .ok (.imul, 1) := by decide +kernel
theorem dX10_laysOut_232 : decode cX10_laysOut 232 = .ok (.iload_n 3, 1) := by decide +kernel
theorem dX10_laysOut_233 : decode cX10_laysOut 233 = .ok (.iadd, 1) := by decide +kernel
theorem dX10_laysOut_234 : decode cX10_laysOut 234 = .ok (.aload_n 0, 1) := by decide +kernel
theorem dX10_laysOut_235 : decode cX10_laysOut 235 = .ok (.getfield 97, 3) := by decide +kernel
theorem dX10_laysOut_238 : decode cX10_laysOut 238 = .ok (.iload 4, 2) := by decide +kernel
theorem dX10_laysOut_240 : decode cX10_laysOut 240 = .ok (.iaload, 1) := by decide +kernel
theorem dX10_laysOut_241 : decode cX10_laysOut 241 = .ok (.isub, 1) := by decide +kernel
theorem dX10_laysOut_242 : decode cX10_laysOut 242 = .ok (.iaload, 1) := by decide +kernel
theorem dX10_laysOut_243 : decode cX10_laysOut 243 = .ok (.iadd, 1) := by decide +kernel
theorem dX10_laysOut_244 : decode cX10_laysOut 244 = .ok (.iastore, 1) := by decide +kernel
theorem dX10_laysOut_245 : decode cX10_laysOut 245 = .ok (.iinc 3 1, 3) := by decide +kernel
theorem dX10_laysOut_248 : decode cX10_laysOut 248 = .ok (.goto (-186), 3) := by decide +kernel
theorem dX10_laysOut_251 : decode cX10_laysOut 251 = .ok (.iinc 2 (-1), 3) := by decide +kernel
theorem dX10_laysOut_254 : decode cX10_laysOut 254 = .ok (.goto (-198), 3) := by decide +kernel
theorem dX10_laysOut_257 : decode cX10_laysOut 257 = .ok (.return_, 1) := by decide +kernel
theorem dX10_isWith_0 : decode cX10_isWith 0 = .ok (.aload_n 0, 1) := by decide +kernel
theorem dX10_isWith_1 : decode cX10_isWith 1 = .ok (.getfield 134, 3) := by decide +kernel
theorem dX10_isWith_4 : decode cX10_isWith 4 = .ok (.iload_n 1, 1) := by decide +kernel
theorem dX10_isWith_5 : decode cX10_isWith 5 = .ok (.iaload, 1) := by decide +kernel
theorem dX10_isWith_6 : decode cX10_isWith 6 = .ok (.istore_n 3, 1) := by decide +kernel
theorem dX10_isWith_7 : decode cX10_isWith 7 = .ok (.aload_n 0, 1) := by decide +kernel
theorem dX10_isWith_8 : decode cX10_isWith 8 = .ok (.getfield 97, 3) := by decide +kernel
theorem dX10_isWith_11 : decode cX10_isWith 11 = .ok (.iload_n 3, 1) := by decide +kernel
theorem dX10_isWith_12 : decode cX10_isWith 12 = .ok (.iaload, 1) := by decide +kernel
theorem dX10_isWith_13 : decode cX10_isWith 13 = .ok (.iload_n 2, 1) := by decide +kernel
theorem dX10_isWith_14 : decode cX10_isWith 14 = .ok (.if_icmp .le 5, 3) := by decide +kernel
theorem dX10_isWith_17 : decode cX10_isWith 17 = .ok (.iconst 0, 1) := by decide +kernel
theorem dX10_isWith_18 : decode cX10_isWith 18 = .ok (.ireturn, 1) := by decide +kernel
theorem dX10_isWith_19 : decode cX10_isWith 19 = .ok (.bipush 100, 2) := by decide +kernel
theorem dX10_isWith_21 : decode cX10_isWith 21 = .ok (.iload_n 1, 1) := by decide +kernel
theorem dX10_isWith_22 : decode cX10_isWith 22 = .ok (.iconst 1, 1) := by decide +kernel
theorem dX10_isWith_23 : decode cX10_isWith 23 = .ok (.iadd, 1) := by decide +kernel
theorem dX10_isWith_24 : decode cX10_isWith 24 = .ok (.imul, 1) := by decide +kernel
theorem dX10_isWith_25 : decode cX10_isWith 25 = .ok (.iload_n 2, 1) := by decide +kernel
theorem dX10_isWith_26 : decode cX10_isWith 26 = .ok (.iadd, 1) := by decide +kernel
theorem dX10_isWith_27 : decode cX10_isWith 27 = .ok (.aload_n 0, 1) := by decide +kernel
theorem dX10_isWith_28 : decode cX10_isWith 28 = .ok (.getfield 97, 3) := by decide +kernel
theorem dX10_isWith_31 : decode cX10_isWith 31 = .ok (.iload_n 3, 1) := by decide +kernel
theorem dX10_isWith_32 : decode cX10_isWith 32 = .ok (.iaload, 1) := by decide +kernel
theorem dX10_isWith_33 : decode cX10_isWith 33 = .ok (.isub, 1) := by decide +kernel
theorem dX10_isWith_34 : decode cX10_isWith 34 = .ok (.istore 4, 2) := by decide +kernel
theorem dX10_isWith_36 : decode cX10_isWith 36 = .ok (.bipush 100, 2) := by decide +kernel
theorem dX10_isWith_38 : decode cX10_isWith 38 = .ok (.iload_n 1, 1) := by decide +kernel
theorem dX10_isWith_39 : decode cX10_isWith 39 = .ok (.iconst 1, 1) := by decide +kernel
theorem dX10_isWith_40 : decode cX10_isWith 40 = .ok (.iadd, 1) := by decide +kernel
theorem dX10_isWith_41 : decode cX10_isWith 41 = .ok (.imul, 1) := by decide +kernel
theorem dX10_isWith_42 : decode cX10_isWith 42 = .ok (.iload_n 2, 1) := by decide +kernel
theorem dX10_isWith_43 : decode cX10_isWith 43 = .ok (.iadd, 1) := by decide +kernel
theorem dX10_isWith_44 : decode cX10_isWith 44 = .ok (.istore 5, 2) := by decide +kernel
theorem dX10_isWith_46 : decode cX10_isWith 46 = .ok (.aload_n 0, 1) := by decide +kernel
theorem dX10_isWith_47 : decode cX10_isWith 47 = .ok (.getfield 100, 3) := by decide +kernel
theorem dX10_isWith_50 : decode cX10_isWith 50 = .ok (.iload_n 3, 1) := by decide +kernel
theorem dX10_isWith_51 : decode cX10_isWith 51 = .ok (.iaload, 1) := by decide +kernel
theorem dX10_isWith_52 : decode cX10_isWith 52 = .ok (.aload_n 0, 1) := by decide +kernel
theorem dX10_isWith_53 : decode cX10_isWith 53 = .ok (.getfield 137, 3) := by decide +kernel
theorem dX10_isWith_56 : decode cX10_isWith 56 = .ok (.iload 4, 2) := by decide +kernel
theorem dX10_isWith_58 : decode cX10_isWith 58 = .ok (.iaload, 1) := by decide +kernel
theorem dX10_isWith_59 : decode cX10_isWith 59 = .ok (.iadd, 1) := by decide +kernel
theorem dX10_isWith_60 : decode cX10_isWith 60 = .ok (.istore 6, 2) := by decide +kernel
theorem dX10_isWith_62 : decode cX10_isWith 62 = .ok (.aload_n 0, 1) := by decide +kernel
theorem dX10_isWith_63 : decode cX10_isWith 63 = .ok (.getfield 97, 3) := by decide +kernel
theorem dX10_isWith_66 : decode cX10_isWith 66 = .ok (.iload_n 3, 1) := by decide +kernel
theorem dX10_isWith_67 : decode cX10_isWith 67 = .ok (.iaload, 1) := by decide +kernel
theorem dX10_isWith_68 : decode cX10_isWith 68 = .ok (.aload_n 0, 1) := by decide +kernel
theorem dX10_isWith_69 : decode cX10_isWith 69 = .ok (.getfield 140, 3) := by decide +kernel
theorem dX10_isWith_72 : decode cX10_isWith 72 = .ok (.iload 4, 2) := by decide +kernel
theorem dX10_isWith_74 : decode cX10_isWith 74 = .ok (.iaload, 1) := by decide +kernel
theorem dX10_isWith_75 : decode cX10_isWith 75 = .ok (.iadd, 1) := by decide +kernel
theorem dX10_isWith_76 : decode cX10_isWith 76 = .ok (.istore 7, 2) := by decide +kernel
theorem dX10_isWith_78 : decode cX10_isWith 78 = .ok (.iload 6, 2) := by decide +kernel
theorem dX10_isWith_80 : decode cX10_isWith 80 = .ok (.aload_n 0, 1) := by decide +kernel
theorem dX10_isWith_81 : decode cX10_isWith 81 = .ok (.getfield 137, 3) := by decide +kernel
theorem dX10_isWith_84 : decode cX10_isWith 84 = .ok (.iload 5, 2) := by decide +kernel
theorem dX10_isWith_86 : decode cX10_isWith 86 = .ok (.iaload, 1) := by decide +kernel
theorem dX10_isWith_87 : decode cX10_isWith 87 = .ok (.if_icmp .gt 27, 3) := by decide +kernel
theorem dX10_isWith_90 : decode cX10_isWith 90 = .ok (.iload 6, 2) := by decide +kernel
theorem dX10_isWith_92 : decode cX10_isWith 92 = .ok (.aload_n 0, 1) := by decide +kernel
theorem dX10_isWith_93 : decode cX10_isWith 93 = .ok (.getfield 137, 3) := by decide +kernel
theorem dX10_isWith_96 : decode cX10_isWith 96 = .ok (.iload 5, 2) := by decide +kernel
theorem dX10_isWith_98 : decode cX10_isWith 98 = .ok (.iaload, 1) := by decide +kernel
theorem dX10_isWith_99 : decode cX10_isWith 99 = .ok (.if_icmp .ne 19, 3) := by decide +kernel
theorem dX10_isWith_102 : decode cX10_isWith 102 = .ok (.iload 7, 2) := by decide +kernel
theorem dX10_isWith_104 : decode cX10_isWith 104 = .ok (.aload_n 0, 1) := by decide +kernel
theorem dX10_isWith_105 : decode cX10_isWith 105 = .ok (.getfield 140, 3) := by decide +kernel
theorem dX10_isWith_108 : decode cX10_isWith 108 = .ok (.iload 5, 2) := by decide +kernel
theorem dX10_isWith_110 : decode cX10_isWith 110 = .ok (.iaload, 1) := by decide +kernel
theorem dX10_isWith_111 : decode cX10_isWith 111 = .ok (.if_icmp .gt 7, 3) := by decide +kernel
theorem dX10_isWith_114 : decode cX10_isWith 114 = .ok (.iconst 1, 1) := by decide +kernel
theorem dX10_isWith_115 : decode cX10_isWith 115 = .ok (.goto 4, 3) := by decide +kernel
theorem dX10_isWith_118 : decode cX10_isWith 118 = .ok (.iconst 0, 1) := by decide +kernel
theorem dX10_isWith_119 : decode cX10_isWith 119 = .ok (.ireturn, 1) := by decide +kernel
theorem dX10_number_0 : decode cX10_number 0 = .ok (.aload_n 0, 1) := by decide +kernel
theorem dX10_number_1 : decode cX10_number 1 = .ok (.iconst 0, 1) := by decide +kernel
theorem dX10_number_2 : decode cX10_number 2 = .ok (.putfield 1, 3) := by decide +kernel
theorem dX10_number_5 : decode cX10_number 5 = .ok (.aload_n 0, 1) := by decide +kernel
theorem dX10_number_6 : decode cX10_number 6 = .ok (.iload_n 1, 1) := by decide +kernel
theorem dX10_number_7 : decode cX10_number 7 = .ok (.invokevirtual 253, 3) := by decide +kernel
theorem dX10_number_10 : decode cX10_number 10 = .ok (.ifCond .eq 13, 3) := by decide +kernel
theorem dX10_number_13 : decode cX10_number 13 = .ok (.iload_n 2, 1) := by decide +kernel
theorem dX10_number_14 : decode cX10_number 14 = .ok (.ifCond .lt 9, 3) := by decide +kernel
theorem dX10_number_17 : decode cX10_number 17 = .ok (.iload_n 2, 1) := by decide +kernel
theorem dX10_number_18 : decode cX10_number 18 = .ok (.bipush 99, 2) := by decide +kernel
theorem dX10_number_20 : decode cX10_number 20 = .ok (.if_icmp .le 5, 3) := by decide +kernel
theorem dX10_number_23 : decode cX10_number 23 = .ok (.iconst (-1), 1) := by decide +kernel
theorem dX10_number_24 : decode cX10_number 24 = .ok (.ireturn, 1) := by decide +kernel
theorem dX10_number_25 : decode cX10_number 25 = .ok (.aload_n 0, 1) := by decide +kernel
theorem dX10_number_26 : decode cX10_number 26 = .ok (.aload_n 0, 1) := by decide +kernel
theorem dX10_number_27 : decode cX10_number 27 = .ok (.getfield 88, 3) := by decide +kernel
theorem dX10_number_30 : decode cX10_number 30 = .ok (.iload_n 1, 1) := by decide +kernel
theorem dX10_number_31 : decode cX10_number 31 = .ok (.iaload, 1) := by decide +kernel
theorem dX10_number_32 : decode cX10_number 32 = .ok (.invokevirtual 309, 3) := by decide +kernel
theorem dX10_number_35 : decode cX10_number 35 = .ok (.iload_n 2, 1) := by decide +kernel
theorem dX10_number_36 : decode cX10_number 36 = .ok (.istore_n 3, 1) := by decide +kernel
theorem dX10_number_37 : decode cX10_number 37 = .ok (.iconst 0, 1) := by decide +kernel
theorem dX10_number_38 : decode cX10_number 38 = .ok (.istore 4, 2) := by decide +kernel
theorem dX10_number_40 : decode cX10_number 40 = .ok (.iconst 0, 1) := by decide +kernel
theorem dX10_number_41 : decode cX10_number 41 = .ok (.istore 5, 2) := by decide +kernel
theorem dX10_number_43 : decode cX10_number 43 = .ok (.iload 5, 2) := by decide +kernel
theorem dX10_number_45 : decode cX10_number 45 = .ok (.aload_n 0, 1) := by decide +kernel
theorem dX10_number_46 : decode cX10_number 46 = .ok (.getfield 303, 3) := by decide +kernel
theorem dX10_number_49 : decode cX10_number 49 = .ok (.if_icmp .ge 80, 3) := by decide +kernel
theorem dX10_number_52 : decode cX10_number 52 = .ok (.aload_n 0, 1) := by decide +kernel
theorem dX10_number_53 : decode cX10_number 53 = .ok (.iload 5, 2) := by decide +kernel
theorem dX10_number_55 : decode cX10_number 55 = .ok (.iload_n 3, 1) := by decide +kernel
theorem dX10_number_56 : decode cX10_number 56 = .ok (.invokevirtual 306, 3) := by decide +kernel
theorem dX10_number_59 : decode cX10_number 59 = .ok (.istore 6, 2) := by decide +kernel
theorem dX10_number_61 : decode cX10_number 61 = .ok (.iload 4, 2) := by decide +kernel
theorem dX10_number_63 : decode cX10_number 63 = .ok (.iload 6, 2) := by decide +kernel
theorem dX10_number_65 : decode cX10_number 65 = .ok (.ifCond .eq 7, 3) := by decide +kernel
theorem dX10_number_68 : decode cX10_number 68 = .ok (.iconst 1, 1) := by decide +kernel
theorem dX10_number_69 : decode cX10_number 69 = .ok (.goto 4, 3) := by decide +kernel
theorem dX10_number_72 : decode cX10_number 72 = .ok (.iconst 0, 1) := by decide +kernel
theorem dX10_number_73 : decode cX10_number 73 = .ok (.iadd, 1) := by decide +kernel
theorem dX10_number_74 : decode cX10_number 74 = .ok (.istore 4, 2) := by decide +kernel
theorem dX10_number_76 : decode cX10_number 76 = .ok (.iload_n 3, 1) := by decide +kernel
theorem dX10_number_77 : decode cX10_number 77 = .ok (.iload 6, 2) := by decide +kernel
theorem dX10_number_79 : decode cX10_number 79 = .ok (.ifCond .eq 18, 3) := by decide +kernel
theorem dX10_number_82 : decode cX10_number 82 = .ok (.aload_n 0, 1) := by decide +kernel
theorem dX10_number_83 : decode cX10_number 83 = .ok (.getfield 97, 3) := by decide +kernel
theorem dX10_number_86 : decode cX10_number 86 = .ok (.aload_n 0, 1) := by decide +kernel
theorem dX10_number_87 : decode cX10_number 87 = .ok (.getfield 134, 3) := by decide +kernel
theorem dX10_number_90 : decode cX10_number 90 = .ok (.iload 5, 2) := by decide +kernel
theorem dX10_number_92 : decode cX10_number 92 = .ok (.iaload, 1) := by decide +kernel
theorem dX10_number_93 : decode cX10_number 93 = .ok (.iaload, 1) := by decide +kernel
theorem dX10_number_94 : decode cX10_number 94 = .ok (.goto 4, 3) := by decide +kernel
theorem dX10_number_97 : decode cX10_number 97 = .ok (.iconst 0, 1) := by decide +kernel
theorem dX10_number_98 : decode cX10_number 98 = .ok (.isub, 1) := by decide +kernel
theorem dX10_number_99 : decode cX10_number 99 = .ok (.istore_n 3, 1) := by decide +kernel
theorem dX10_number_100 : decode cX10_number 100 = .ok (.aload_n 0, 1) := by decide +kernel
theorem dX10_number_101 : decode cX10_number 101 = .ok (.getfield 134, 3) := by decide +kernel
theorem dX10_number_104 : decode cX10_number 104 = .ok (.iload 5, 2) := by decide +kernel
theorem dX10_number_106 : decode cX10_number 106 = .ok (.iaload, 1) := by decide +kernel
theorem dX10_number_107 : decode cX10_number 107 = .ok (.iload_n 1, 1) := by decide +kernel
theorem dX10_number_108 : decode cX10_number 108 = .ok (.if_icmp .ne 15, 3) := by decide +kernel
theorem dX10_number_111 : decode cX10_number 111 = .ok (.iload 6, 2) := by decide +kernel
theorem dX10_number_113 : decode cX10_number 113 = .ok (.ifCond .eq 8, 3) := by decide +kernel
theorem dX10_number_116 : decode cX10_number 116 = .ok (.iload 4, 2) := by decide +kernel
theorem dX10_number_118 : decode cX10_number 118 = .ok (.goto 4, 3) := by decide +kernel
theorem dX10_number_121 : decode cX10_number 121 = .ok (.iconst 0, 1) := by decide +kernel
theorem dX10_number_122 : decode cX10_number 122 = .ok (.ireturn, 1) := by decide +kernel
theorem dX10_number_123 : decode cX10_number 123 = .ok (.iinc 5 1, 3) := by decide +kernel
theorem dX10_number_126 : decode cX10_number 126 = .ok (.goto (-83), 3) := by decide +kernel
theorem dX10_number_129 : decode cX10_number 129 = .ok (.iconst 0, 1) := by decide +kernel
theorem dX10_number_130 : decode cX10_number 130 = .ok (.ireturn, 1) := by decide +kernel
theorem dX10_edition_0 : decode cX10_edition 0 = .ok (.aload_n 0, 1) := by decide +kernel
theorem dX10_edition_1 : decode cX10_edition 1 = .ok (.iconst 0, 1) := by decide +kernel
theorem dX10_edition_2 : decode cX10_edition 2 = .ok (.putfield 1, 3) := by decide +kernel
theorem dX10_edition_5 : decode cX10_edition 5 = .ok (.aload_n 0, 1) := by decide +kernel
theorem dX10_edition_6 : decode cX10_edition 6 = .ok (.getfield 312, 3) := by decide +kernel
theorem dX10_edition_9 : decode cX10_edition 9 = .ok (.bipush 10, 2) := by decide +kernel
theorem dX10_edition_11 : decode cX10_edition 11 = .ok (.if_icmp .ne 5, 3) := by decide +kernel
theorem dX10_edition_14 : decode cX10_edition 14 = .ok (.iconst (-1), 1) := by decide +kernel
theorem dX10_edition_15 : decode cX10_edition 15 = .ok (.ireturn, 1) := by decide +kernel
theorem dX10_edition_16 : decode cX10_edition 16 = .ok (.iconst 0, 1) := by decide +kernel
theorem dX10_edition_17 : decode cX10_edition 17 = .ok (.istore_n 1, 1) := by decide +kernel
theorem dX10_edition_18 : decode cX10_edition 18 = .ok (.iload_n 1, 1) := by decide +kernel
theorem dX10_edition_19 : decode cX10_edition 19 = .ok (.bipush 60, 2) := by decide +kernel
theorem dX10_edition_21 : decode cX10_edition 21 = .ok (.if_icmp .ge 55, 3) := by decide +kernel
theorem dX10_edition_24 : decode cX10_edition 24 = .ok (.aload_n 0, 1) := by decide +kernel
theorem dX10_edition_25 : decode cX10_edition 25 = .ok (.getfield 143, 3) := by decide +kernel
theorem dX10_edition_28 : decode cX10_edition 28 = .ok (.bipush 60, 2) := by decide +kernel
theorem dX10_edition_30 : decode cX10_edition 30 = .ok (.aload_n 0, 1) := by decide +kernel
theorem dX10_edition_31 : decode cX10_edition 31 = .ok (.getfield 312, 3) := by decide +kernel
theorem dX10_edition_34 : decode cX10_edition 34 = .ok (.imul, 1) := by decide +kernel
theorem dX10_edition_35 : decode cX10_edition 35 = .ok (.iload_n 1, 1) := by decide +kernel
theorem dX10_edition_36 : decode cX10_edition 36 = .ok (.iadd, 1) := by decide +kernel
theorem dX10_edition_37 : decode cX10_edition 37 = .ok (.iload_n 1, 1) := by decide +kernel
theorem dX10_edition_38 : decode cX10_edition 38 = .ok (.aload_n 0, 1) := by decide +kernel
theorem dX10_edition_39 : decode cX10_edition 39 = .ok (.getfield 250, 3) := by decide +kernel
theorem dX10_edition_42 : decode cX10_edition 42 = .ok (.if_icmp .ge 11, 3) := by decide +kernel
theorem dX10_edition_45 : decode cX10_edition 45 = .ok (.aload_n 0, 1) := by decide +kernel
theorem dX10_edition_46 : decode cX10_edition 46 = .ok (.iload_n 1, 1) := by decide +kernel
theorem dX10_edition_47 : decode cX10_edition 47 = .ok (.invokevirtual 291, 3) := by decide +kernel
theorem dX10_edition_50 : decode cX10_edition 50 = .ok (.goto 4, 3) := by decide +kernel
theorem dX10_edition_53 : decode cX10_edition 53 = .ok (.iconst (-1), 1) := by decide +kernel
theorem dX10_edition_54 : decode cX10_edition 54 = .ok (.iastore, 1) := by decide +kernel
theorem dX10_edition_55 : decode cX10_edition 55 = .ok (.aload_n 0, 1) := by decide +kernel
theorem dX10_edition_56 : decode cX10_edition 56 = .ok (.getfield 146, 3) := by decide +kernel
theorem dX10_edition_59 : decode cX10_edition 59 = .ok (.bipush 60, 2) := by decide +kernel
theorem dX10_edition_61 : decode cX10_edition 61 = .ok (.aload_n 0, 1) := by decide +kernel
theorem dX10_edition_62 : decode cX10_edition 62 = .ok (.getfield 312, 3) := by decide +kernel
theorem dX10_edition_65 : decode cX10_edition 65 = .ok (.imul, 1) := by decide +kernel
theorem dX10_edition_66 : decode cX10_edition 66 = .ok (.iload_n 1, 1) := by decide +kernel
theorem dX10_edition_67 : decode cX10_edition 67 = .ok (.iadd, 1) := by decide +kernel
theorem dX10_edition_68 : decode cX10_edition 68 = .ok (.iconst 0, 1) := by decide +kernel
theorem dX10_edition_69 : decode cX10_edition 69 = .ok (.iastore, 1) := by decide +kernel
theorem dX10_edition_70 : decode cX10_edition 70 = .ok (.iinc 1 1, 3) := by decide +kernel
theorem dX10_edition_73 : decode cX10_edition 73 = .ok (.goto (-55), 3) := by decide +kernel
theorem dX10_edition_76 : decode cX10_edition 76 = .ok (.iconst 0, 1) := by decide +kernel
theorem dX10_edition_77 : decode cX10_edition 77 = .ok (.istore_n 1, 1) := by decide +kernel
theorem dX10_edition_78 : decode cX10_edition 78 = .ok (.iload_n 1, 1) := by decide +kernel
theorem dX10_edition_79 : decode cX10_edition 79 = .ok (.bipush 10, 2) := by decide +kernel
theorem dX10_edition_81 : decode cX10_edition 81 = .ok (.if_icmp .ge 28, 3) := by decide +kernel
theorem dX10_edition_84 : decode cX10_edition 84 = .ok (.aload_n 0, 1) := by decide +kernel
theorem dX10_edition_85 : decode cX10_edition 85 = .ok (.getfield 149, 3) := by decide +kernel
theorem dX10_edition_88 : decode cX10_edition 88 = .ok (.bipush 10, 2) := by decide +kernel
theorem dX10_edition_90 : decode cX10_edition 90 = .ok (.aload_n 0, 1) := by decide +kernel
theorem dX10_edition_91 : decode cX10_edition 91 = .ok (.getfield 312, 3) := by decide +kernel
theorem dX10_edition_94 : decode cX10_edition 94 = .ok (.imul, 1) := by decide +kernel
theorem dX10_edition_95 : decode cX10_edition 95 = .ok (.iload_n 1, 1) := by decide +kernel
theorem dX10_edition_96 : decode cX10_edition 96 = .ok (.iadd, 1) := by decide +kernel
theorem dX10_edition_97 : decode cX10_edition 97 = .ok (.aload_n 0, 1) := by decide +kernel
theorem dX10_edition_98 : decode cX10_edition 98 = .ok (.iload_n 1, 1) := by decide +kernel
theorem dX10_edition_99 : decode cX10_edition 99 = .ok (.invokevirtual 300, 3) := by decide +kernel
theorem dX10_edition_102 : decode cX10_edition 102 = .ok (.iastore, 1) := by decide +kernel
theorem dX10_edition_103 : decode cX10_edition 103 = .ok (.iinc 1 1, 3) := by decide +kernel
theorem dX10_edition_106 : decode cX10_edition 106 = .ok (.goto (-28), 3) := by decide +kernel
theorem dX10_edition_109 : decode cX10_edition 109 = .ok (.aload_n 0, 1) := by decide +kernel
theorem dX10_edition_110 : decode cX10_edition 110 = .ok (.dup, 1) := by decide +kernel
theorem dX10_edition_111 : decode cX10_edition 111 = .ok (.getfield 312, 3) := by decide +kernel
theorem dX10_edition_114 : decode cX10_edition 114 = .ok (.iconst 1, 1) := by decide +kernel
theorem dX10_edition_115 : decode cX10_edition 115 = .ok (.iadd, 1) := by decide +kernel
theorem dX10_edition_116 : decode cX10_edition 116 = .ok (.putfield 312, 3) := by decide +kernel
theorem dX10_edition_119 : decode cX10_edition 119 = .ok (.aload_n 0, 1) := by decide +kernel
theorem dX10_edition_120 : decode cX10_edition 120 = .ok (.getfield 312, 3) := by decide +kernel
theorem dX10_edition_123 : decode cX10_edition 123 = .ok (.iconst 1, 1) := by decide +kernel
theorem dX10_edition_124 : decode cX10_edition 124 = .ok (.isub, 1) := by decide +kernel
theorem dX10_edition_125 : decode cX10_edition 125 = .ok (.ireturn, 1) := by decide +kernel
theorem dX10_proves_0 : decode cX10_proves 0 = .ok (.iconst 0, 1) := by decide +kernel
theorem dX10_proves_1 : decode cX10_proves 1 = .ok (.istore_n 3, 1) := by decide +kernel
theorem dX10_proves_2 : decode cX10_proves 2 = .ok (.iload_n 3, 1) := by decide +kernel
theorem dX10_proves_3 : decode cX10_proves 3 = .ok (.aload_n 0, 1) := by decide +kernel
theorem dX10_proves_4 : decode cX10_proves 4 = .ok (.getfield 312, 3) := by decide +kernel
theorem dX10_proves_7 : decode cX10_proves 7 = .ok (.if_icmp .ge 70, 3) := by decide +kernel
theorem dX10_proves_10 : decode cX10_proves 10 = .ok (.bipush 60, 2) := by decide +kernel
theorem dX10_proves_12 : decode cX10_proves 12 = .ok (.iload_n 3, 1) := by decide +kernel
theorem dX10_proves_13 : decode cX10_proves 13 = .ok (.imul, 1) := by decide +kernel
theorem dX10_proves_14 : decode cX10_proves 14 = .ok (.iload_n 1, 1) := by decide +kernel
theorem dX10_proves_15 : decode cX10_proves 15 = .ok (.iadd, 1) := by decide +kernel
theorem dX10_proves_16 : decode cX10_proves 16 = .ok (.istore 4, 2) := by decide +kernel
theorem dX10_proves_18 : decode cX10_proves 18 = .ok (.aload_n 0, 1) := by decide +kernel
theorem dX10_proves_19 : decode cX10_proves 19 = .ok (.getfield 146, 3) := by decide +kernel
theorem dX10_proves_22 : decode cX10_proves 22 = .ok (.iload 4, 2) := by decide +kernel
theorem dX10_proves_24 : decode cX10_proves 24 = .ok (.aload_n 0, 1) := by decide +kernel
theorem dX10_proves_25 : decode cX10_proves 25 = .ok (.getfield 143, 3) := by decide +kernel
theorem dX10_proves_28 : decode cX10_proves 28 = .ok (.iload 4, 2) := by decide +kernel
theorem dX10_proves_30 : decode cX10_proves 30 = .ok (.iaload, 1) := by decide +kernel
theorem dX10_proves_31 : decode cX10_proves 31 = .ok (.ifCond .lt 13, 3) := by decide +kernel
theorem dX10_proves_34 : decode cX10_proves 34 = .ok (.aload_n 0, 1) := by decide +kernel
theorem dX10_proves_35 : decode cX10_proves 35 = .ok (.getfield 146, 3) := by decide +kernel
theorem dX10_proves_38 : decode cX10_proves 38 = .ok (.iload 4, 2) := by decide +kernel
theorem dX10_proves_40 : decode cX10_proves 40 = .ok (.iaload, 1) := by decide +kernel
theorem dX10_proves_41 : decode cX10_proves 41 = .ok (.ifCond .le 13, 3) := by decide +kernel
theorem dX10_proves_44 : decode cX10_proves 44 = .ok (.aload_n 0, 1) := by decide +kernel
theorem dX10_proves_45 : decode cX10_proves 45 = .ok (.getfield 146, 3) := by decide +kernel
theorem dX10_proves_48 : decode cX10_proves 48 = .ok (.iload 4, 2) := by decide +kernel
theorem dX10_proves_50 : decode cX10_proves 50 = .ok (.iaload, 1) := by decide +kernel
theorem dX10_proves_51 : decode cX10_proves 51 = .ok (.goto 19, 3) := by decide +kernel
theorem dX10_proves_54 : decode cX10_proves 54 = .ok (.aload_n 0, 1) := by decide +kernel
theorem dX10_proves_55 : decode cX10_proves 55 = .ok (.getfield 143, 3) := by decide +kernel
theorem dX10_proves_58 : decode cX10_proves 58 = .ok (.iload 4, 2) := by decide +kernel
theorem dX10_proves_60 : decode cX10_proves 60 = .ok (.iaload, 1) := by decide +kernel
theorem dX10_proves_61 : decode cX10_proves 61 = .ok (.iload_n 2, 1) := by decide +kernel
theorem dX10_proves_62 : decode cX10_proves 62 = .ok (.if_icmp .ne 7, 3) := by decide +kernel
theorem dX10_proves_65 : decode cX10_proves 65 = .ok (.iconst 1, 1) := by decide +kernel
theorem dX10_proves_66 : decode cX10_proves 66 = .ok (.goto 4, 3) := by decide +kernel
theorem dX10_proves_69 : decode cX10_proves 69 = .ok (.iconst 2, 1) := by decide +kernel
theorem dX10_proves_70 : decode cX10_proves 70 = .ok (.iastore, 1) := by decide +kernel
theorem dX10_proves_71 : decode cX10_proves 71 = .ok (.iinc 3 1, 3) := by decide +kernel
theorem dX10_proves_74 : decode cX10_proves 74 = .ok (.goto (-72), 3) := by decide +kernel
theorem dX10_proves_77 : decode cX10_proves 77 = .ok (.return_, 1) := by decide +kernel
theorem dX10_printed_0 : decode cX10_printed 0 = .ok (.aload_n 0, 1) := by decide +kernel
theorem dX10_printed_1 : decode cX10_printed 1 = .ok (.iconst 0, 1) := by decide +kernel
theorem dX10_printed_2 : decode cX10_printed 2 = .ok (.putfield 1, 3) := by decide +kernel
theorem dX10_printed_5 : decode cX10_printed 5 = .ok (.iload_n 1, 1) := by decide +kernel
theorem dX10_printed_6 : decode cX10_printed 6 = .ok (.ifCond .lt 39, 3) := by decide +kernel
theorem dX10_printed_9 : decode cX10_printed 9 = .ok (.iload_n 1, 1) := by decide +kernel
theorem dX10_printed_10 : decode cX10_printed 10 = .ok (.aload_n 0, 1) := by decide +kernel
theorem dX10_printed_11 : decode cX10_printed 11 = .ok (.getfield 312, 3) := by decide +kernel
theorem dX10_printed_14 : decode cX10_printed 14 = .ok (.if_icmp .ge 31, 3) := by decide +kernel
theorem dX10_printed_17 : decode cX10_printed 17 = .ok (.iload_n 2, 1) := by decide +kernel
theorem dX10_printed_18 : decode cX10_printed 18 = .ok (.ifCond .lt 27, 3) := by decide +kernel
theorem dX10_printed_21 : decode cX10_printed 21 = .ok (.iload_n 2, 1) := by decide +kernel
theorem dX10_printed_22 : decode cX10_printed 22 = .ok (.iconst 1, 1) := by decide +kernel
theorem dX10_printed_23 : decode cX10_printed 23 = .ok (.if_icmp .gt 22, 3) := by decide +kernel
theorem dX10_printed_26 : decode cX10_printed 26 = .ok (.iload_n 3, 1) := by decide +kernel
theorem dX10_printed_27 : decode cX10_printed 27 = .ok (.ifCond .lt 18, 3) := by decide +kernel
theorem dX10_printed_30 : decode cX10_printed 30 = .ok (.iload_n 3, 1) := by decide +kernel
theorem dX10_printed_31 : decode cX10_printed 31 = .ok (.iload_n 2, 1) := by decide +kernel
theorem dX10_printed_32 : decode cX10_printed 32 = .ok (.ifCond .ne 8, 3) := by decide +kernel
theorem dX10_printed_35 : decode cX10_printed 35 = .ok (.bipush 60, 2) := by decide +kernel
theorem dX10_printed_37 : decode cX10_printed 37 = .ok (.goto 5, 3) := by decide +kernel
theorem dX10_printed_40 : decode cX10_printed 40 = .ok (.bipush 10, 2) := by decide +kernel
theorem dX10_printed_42 : decode cX10_printed 42 = .ok (.if_icmp .lt 5, 3) := by decide +kernel
theorem dX10_printed_45 : decode cX10_printed 45 = .ok (.iconst (-1), 1) := by decide +kernel
theorem dX10_printed_46 : decode cX10_printed 46 = .ok (.ireturn, 1) := by decide +kernel
theorem dX10_printed_47 : decode cX10_printed 47 = .ok (.iload_n 2, 1) := by decide +kernel
theorem dX10_printed_48 : decode cX10_printed 48 = .ok (.ifCond .ne 17, 3) := by decide +kernel
theorem dX10_printed_51 : decode cX10_printed 51 = .ok (.aload_n 0, 1) := by decide +kernel
theorem dX10_printed_52 : decode cX10_printed 52 = .ok (.getfield 143, 3) := by decide +kernel
theorem dX10_printed_55 : decode cX10_printed 55 = .ok (.bipush 60, 2) := by decide +kernel
theorem dX10_printed_57 : decode cX10_printed 57 = .ok (.iload_n 1, 1) := by decide +kernel
theorem dX10_printed_58 : decode cX10_printed 58 = .ok (.imul, 1) := by decide +kernel
theorem dX10_printed_59 : decode cX10_printed 59 = .ok (.iload_n 3, 1) := by decide +kernel
theorem dX10_printed_60 : decode cX10_printed 60 = .ok (.iadd, 1) := by decide +kernel
theorem dX10_printed_61 : decode cX10_printed 61 = .ok (.iaload, 1) := by decide +kernel
theorem dX10_printed_62 : decode cX10_printed 62 = .ok (.goto 14, 3) := by decide +kernel
theorem dX10_printed_65 : decode cX10_printed 65 = .ok (.aload_n 0, 1) := by decide +kernel
theorem dX10_printed_66 : decode cX10_printed 66 = .ok (.getfield 149, 3) := by decide +kernel
theorem dX10_printed_69 : decode cX10_printed 69 = .ok (.bipush 10, 2) := by decide +kernel
theorem dX10_printed_71 : decode cX10_printed 71 = .ok (.iload_n 1, 1) := by decide +kernel
theorem dX10_printed_72 : decode cX10_printed 72 = .ok (.imul, 1) := by decide +kernel
theorem dX10_printed_73 : decode cX10_printed 73 = .ok (.iload_n 3, 1) := by decide +kernel
theorem dX10_printed_74 : decode cX10_printed 74 = .ok (.iadd, 1) := by decide +kernel
theorem dX10_printed_75 : decode cX10_printed 75 = .ok (.iaload, 1) := by decide +kernel
theorem dX10_printed_76 : decode cX10_printed 76 = .ok (.ireturn, 1) := by decide +kernel
theorem dX10_errors_0 : decode cX10_errors 0 = .ok (.aload_n 0, 1) := by decide +kernel
theorem dX10_errors_1 : decode cX10_errors 1 = .ok (.iconst 0, 1) := by decide +kernel
theorem dX10_errors_2 : decode cX10_errors 2 = .ok (.putfield 1, 3) := by decide +kernel
theorem dX10_errors_5 : decode cX10_errors 5 = .ok (.iload_n 1, 1) := by decide +kernel
theorem dX10_errors_6 : decode cX10_errors 6 = .ok (.ifCond .lt 21, 3) := by decide +kernel
theorem dX10_errors_9 : decode cX10_errors 9 = .ok (.iload_n 1, 1) := by decide +kernel
theorem dX10_errors_10 : decode cX10_errors 10 = .ok (.aload_n 0, 1) := by decide +kernel
theorem dX10_errors_11 : decode cX10_errors 11 = .ok (.getfield 312, 3) := by decide +kernel
theorem dX10_errors_14 : decode cX10_errors 14 = .ok (.if_icmp .ge 13, 3) := by decide +kernel
theorem dX10_errors_17 : decode cX10_errors 17 = .ok (.iload_n 2, 1) := by decide +kernel
theorem dX10_errors_18 : decode cX10_errors 18 = .ok (.iconst (-1), 1) := by decide +kernel
theorem dX10_errors_19 : decode cX10_errors 19 = .ok (.if_icmp .lt 8, 3) := by decide +kernel
theorem dX10_errors_22 : decode cX10_errors 22 = .ok (.iload_n 2, 1) := by decide +kernel
theorem dX10_errors_23 : decode cX10_errors 23 = .ok (.iconst 5, 1) := by decide +kernel
theorem dX10_errors_24 : decode cX10_errors 24 = .ok (.if_icmp .le 5, 3) := by decide +kernel
theorem dX10_errors_27 : decode cX10_errors 27 = .ok (.iconst (-1), 1) := by decide +kernel
theorem dX10_errors_28 : decode cX10_errors 28 = .ok (.ireturn, 1) := by decide +kernel
theorem dX10_errors_29 : decode cX10_errors 29 = .ok (.iconst 0, 1) := by decide +kernel
theorem dX10_errors_30 : decode cX10_errors 30 = .ok (.istore_n 3, 1) := by decide +kernel
theorem dX10_errors_31 : decode cX10_errors 31 = .ok (.iconst 0, 1) := by decide +kernel
theorem dX10_errors_32 : decode cX10_errors 32 = .ok (.istore 4, 2) := by decide +kernel
theorem dX10_errors_34 : decode cX10_errors 34 = .ok (.iload 4, 2) := by decide +kernel
theorem dX10_errors_36 : decode cX10_errors 36 = .ok (.bipush 60, 2) := by decide +kernel
theorem dX10_errors_38 : decode cX10_errors 38 = .ok (.if_icmp .ge 48, 3) := by decide +kernel
theorem dX10_errors_41 : decode cX10_errors 41 = .ok (.iload_n 3, 1) := by decide +kernel
theorem dX10_errors_42 : decode cX10_errors 42 = .ok (.aload_n 0, 1) := by decide +kernel
theorem dX10_errors_43 : decode cX10_errors 43 = .ok (.getfield 146, 3) := by decide +kernel
theorem dX10_errors_46 : decode cX10_errors 46 = .ok (.bipush 60, 2) := by decide +kernel
theorem dX10_errors_48 : decode cX10_errors 48 = .ok (.iload_n 1, 1) := by decide +kernel
theorem dX10_errors_49 : decode cX10_errors 49 = .ok (.imul, 1) := by decide +kernel
theorem dX10_errors_50 : decode cX10_errors 50 = .ok (.iload 4, 2) := by decide +kernel
theorem dX10_errors_52 : decode cX10_errors 52 = .ok (.iadd, 1) := by decide +kernel
theorem dX10_errors_53 : decode cX10_errors 53 = .ok (.iaload, 1) := by decide +kernel
theorem dX10_errors_54 : decode cX10_errors 54 = .ok (.iconst 2, 1) := by decide +kernel
theorem dX10_errors_55 : decode cX10_errors 55 = .ok (.if_icmp .ne 22, 3) := by decide +kernel
theorem dX10_errors_58 : decode cX10_errors 58 = .ok (.iload_n 2, 1) := by decide +kernel
theorem dX10_errors_59 : decode cX10_errors 59 = .ok (.ifCond .lt 14, 3) := by decide +kernel
theorem dX10_errors_62 : decode cX10_errors 62 = .ok (.aload_n 0, 1) := by decide +kernel
theorem dX10_errors_63 : decode cX10_errors 63 = .ok (.getfield 85, 3) := by decide +kernel
theorem dX10_errors_66 : decode cX10_errors 66 = .ok (.iload 4, 2) := by decide +kernel
theorem dX10_errors_68 : decode cX10_errors 68 = .ok (.iaload, 1) := by decide +kernel
theorem dX10_errors_69 : decode cX10_errors 69 = .ok (.iload_n 2, 1) := by decide +kernel
theorem dX10_errors_70 : decode cX10_errors 70 = .ok (.if_icmp .ne 7, 3) := by decide +kernel
theorem dX10_errors_73 : decode cX10_errors 73 = .ok (.iconst 1, 1) := by decide +kernel
theorem dX10_errors_74 : decode cX10_errors 74 = .ok (.goto 4, 3) := by decide +kernel
theorem dX10_errors_77 : decode cX10_errors 77 = .ok (.iconst 0, 1) := by decide +kernel
theorem dX10_errors_78 : decode cX10_errors 78 = .ok (.iadd, 1) := by decide +kernel
theorem dX10_errors_79 : decode cX10_errors 79 = .ok (.istore_n 3, 1) := by decide +kernel
theorem dX10_errors_80 : decode cX10_errors 80 = .ok (.iinc 4 1, 3) := by decide +kernel
theorem dX10_errors_83 : decode cX10_errors 83 = .ok (.goto (-49), 3) := by decide +kernel
theorem dX10_errors_86 : decode cX10_errors 86 = .ok (.iload_n 3, 1) := by decide +kernel
theorem dX10_errors_87 : decode cX10_errors 87 = .ok (.ireturn, 1) := by decide +kernel
theorem dX10_count_0 : decode cX10_count 0 = .ok (.aload_n 0, 1) := by decide +kernel
theorem dX10_count_1 : decode cX10_count 1 = .ok (.iconst 0, 1) := by decide +kernel
theorem dX10_count_2 : decode cX10_count 2 = .ok (.putfield 1, 3) := by decide +kernel
theorem dX10_count_5 : decode cX10_count 5 = .ok (.iconst 0, 1) := by decide +kernel
theorem dX10_count_6 : decode cX10_count 6 = .ok (.istore_n 2, 1) := by decide +kernel
theorem dX10_count_7 : decode cX10_count 7 = .ok (.iconst 0, 1) := by decide +kernel
theorem dX10_count_8 : decode cX10_count 8 = .ok (.istore_n 3, 1) := by decide +kernel
theorem dX10_count_9 : decode cX10_count 9 = .ok (.iload_n 3, 1) := by decide +kernel
theorem dX10_count_10 : decode cX10_count 10 = .ok (.aload_n 0, 1) := by decide +kernel
theorem dX10_count_11 : decode cX10_count 11 = .ok (.getfield 264, 3) := by decide +kernel
theorem dX10_count_14 : decode cX10_count 14 = .ok (.if_icmp .ge 26, 3) := by decide +kernel
theorem dX10_count_17 : decode cX10_count 17 = .ok (.iload_n 2, 1) := by decide +kernel
theorem dX10_count_18 : decode cX10_count 18 = .ok (.aload_n 0, 1) := by decide +kernel
theorem dX10_count_19 : decode cX10_count 19 = .ok (.getfield 124, 3) := by decide +kernel
theorem dX10_count_22 : decode cX10_count 22 = .ok (.iload_n 3, 1) := by decide +kernel
theorem dX10_count_23 : decode cX10_count 23 = .ok (.iaload, 1) := by decide +kernel
theorem dX10_count_24 : decode cX10_count 24 = .ok (.ifCond .ne 7, 3) := by decide +kernel
theorem dX10_count_27 : decode cX10_count 27 = .ok (.iconst 1, 1) := by decide +kernel
theorem dX10_count_28 : decode cX10_count 28 = .ok (.goto 4, 3) := by decide +kernel
theorem dX10_count_31 : decode cX10_count 31 = .ok (.iconst 0, 1) := by decide +kernel
theorem dX10_count_32 : decode cX10_count 32 = .ok (.iadd, 1) := by decide +kernel
theorem dX10_count_33 : decode cX10_count 33 = .ok (.istore_n 2, 1) := by decide +kernel
theorem dX10_count_34 : decode cX10_count 34 = .ok (.iinc 3 1, 3) := by decide +kernel
theorem dX10_count_37 : decode cX10_count 37 = .ok (.goto (-28), 3) := by decide +kernel
theorem dX10_count_40 : decode cX10_count 40 = .ok (.iload_n 1, 1) := by decide +kernel
theorem dX10_count_41 : decode cX10_count 41 = .ok (.ifCond .ne 10, 3) := by decide +kernel
theorem dX10_count_44 : decode cX10_count 44 = .ok (.aload_n 0, 1) := by decide +kernel
theorem dX10_count_45 : decode cX10_count 45 = .ok (.getfield 250, 3) := by decide +kernel
theorem dX10_count_48 : decode cX10_count 48 = .ok (.goto 79, 3) := by decide +kernel
theorem dX10_count_51 : decode cX10_count 51 = .ok (.iload_n 1, 1) := by decide +kernel
theorem dX10_count_52 : decode cX10_count 52 = .ok (.iconst 1, 1) := by decide +kernel
theorem dX10_count_53 : decode cX10_count 53 = .ok (.if_icmp .ne 10, 3) := by decide +kernel
theorem dX10_count_56 : decode cX10_count 56 = .ok (.aload_n 0, 1) := by decide +kernel
theorem dX10_count_57 : decode cX10_count 57 = .ok (.getfield 241, 3) := by decide +kernel
theorem dX10_count_60 : decode cX10_count 60 = .ok (.goto 67, 3) := by decide +kernel
theorem dX10_count_63 : decode cX10_count 63 = .ok (.iload_n 1, 1) := by decide +kernel
theorem dX10_count_64 : decode cX10_count 64 = .ok (.iconst 2, 1) := by decide +kernel
theorem dX10_count_65 : decode cX10_count 65 = .ok (.if_icmp .ne 10, 3) := by decide +kernel
theorem dX10_count_68 : decode cX10_count 68 = .ok (.aload_n 0, 1) := by decide +kernel
theorem dX10_count_69 : decode cX10_count 69 = .ok (.getfield 264, 3) := by decide +kernel
theorem dX10_count_72 : decode cX10_count 72 = .ok (.goto 55, 3) := by decide +kernel
theorem dX10_count_75 : decode cX10_count 75 = .ok (.iload_n 1, 1) := by decide +kernel
theorem dX10_count_76 : decode cX10_count 76 = .ok (.iconst 3, 1) := by decide +kernel
theorem dX10_count_77 : decode cX10_count 77 = .ok (.if_icmp .ne 7, 3) := by decide +kernel
theorem dX10_count_80 : decode cX10_count 80 = .ok (.iload_n 2, 1) := by decide +kernel
theorem dX10_count_81 : decode cX10_count 81 = .ok (.goto 46, 3) := by decide +kernel
theorem dX10_count_84 : decode cX10_count 84 = .ok (.iload_n 1, 1) := by decide +kernel
theorem dX10_count_85 : decode cX10_count 85 = .ok (.iconst 4, 1) := by decide +kernel
theorem dX10_count_86 : decode cX10_count 86 = .ok (.if_icmp .ne 10, 3) := by decide +kernel
theorem dX10_count_89 : decode cX10_count 89 = .ok (.aload_n 0, 1) := by decide +kernel
theorem dX10_count_90 : decode cX10_count 90 = .ok (.getfield 312, 3) := by decide +kernel
theorem dX10_count_93 : decode cX10_count 93 = .ok (.goto 34, 3) := by decide +kernel
theorem dX10_count_96 : decode cX10_count 96 = .ok (.iload_n 1, 1) := by decide +kernel
theorem dX10_count_97 : decode cX10_count 97 = .ok (.iconst 5, 1) := by decide +kernel
theorem dX10_count_98 : decode cX10_count 98 = .ok (.if_icmp .ne 15, 3) := by decide +kernel
theorem dX10_count_101 : decode cX10_count 101 = .ok (.aload_n 0, 1) := by decide +kernel
theorem dX10_count_102 : decode cX10_count 102 = .ok (.getfield 55, 3) := by decide +kernel
theorem dX10_count_105 : decode cX10_count 105 = .ok (.aload_n 0, 1) := by decide +kernel
theorem dX10_count_106 : decode cX10_count 106 = .ok (.getfield 203, 3) := by decide +kernel
theorem dX10_count_109 : decode cX10_count 109 = .ok (.iaload, 1) := by decide +kernel
theorem dX10_count_110 : decode cX10_count 110 = .ok (.goto 17, 3) := by decide +kernel
theorem dX10_count_113 : decode cX10_count 113 = .ok (.iload_n 1, 1) := by decide +kernel
theorem dX10_count_114 : decode cX10_count 114 = .ok (.bipush 6, 2) := by decide +kernel
theorem dX10_count_116 : decode cX10_count 116 = .ok (.if_icmp .ne 10, 3) := by decide +kernel
theorem dX10_count_119 : decode cX10_count 119 = .ok (.aload_n 0, 1) := by decide +kernel
theorem dX10_count_120 : decode cX10_count 120 = .ok (.getfield 11, 3) := by decide +kernel
theorem dX10_count_123 : decode cX10_count 123 = .ok (.goto 4, 3) := by decide +kernel
theorem dX10_count_126 : decode cX10_count 126 = .ok (.iconst (-1), 1) := by decide +kernel
theorem dX10_count_127 : decode cX10_count 127 = .ok (.ireturn, 1) := by decide +kernel
theorem dX10_look_0 : decode cX10_look 0 = .ok (.aload_n 0, 1) := by decide +kernel
theorem dX10_look_1 : decode cX10_look 1 = .ok (.aload_n 0, 1) := by decide +kernel
theorem dX10_look_2 : decode cX10_look 2 = .ok (.iload_n 1, 1) := by decide +kernel
theorem dX10_look_3 : decode cX10_look 3 = .ok (.invokevirtual 253, 3) := by decide +kernel
theorem dX10_look_6 : decode cX10_look 6 = .ok (.ifCond .eq 16, 3) := by decide +kernel
theorem dX10_look_9 : decode cX10_look 9 = .ok (.iload_n 2, 1) := by decide +kernel
theorem dX10_look_10 : decode cX10_look 10 = .ok (.ifCond .lt 12, 3) := by decide +kernel
theorem dX10_look_13 : decode cX10_look 13 = .ok (.iload_n 2, 1) := by decide +kernel
theorem dX10_look_14 : decode cX10_look 14 = .ok (.iconst 5, 1) := by decide +kernel
theorem dX10_look_15 : decode cX10_look 15 = .ok (.if_icmp .gt 7, 3) := by decide +kernel
theorem dX10_look_18 : decode cX10_look 18 = .ok (.iconst 0, 1) := by decide +kernel
theorem dX10_look_19 : decode cX10_look 19 = .ok (.goto 4, 3) := by decide +kernel
theorem dX10_look_22 : decode cX10_look 22 = .ok (.iconst 1, 1) := by decide +kernel
theorem dX10_look_23 : decode cX10_look 23 = .ok (.putfield 1, 3) := by decide +kernel
theorem dX10_look_26 : decode cX10_look 26 = .ok (.aload_n 0, 1) := by decide +kernel
theorem dX10_look_27 : decode cX10_look 27 = .ok (.getfield 1, 3) := by decide +kernel
theorem dX10_look_30 : decode cX10_look 30 = .ok (.ifCond .le 5, 3) := by decide +kernel
theorem dX10_look_33 : decode cX10_look 33 = .ok (.iconst 0, 1) := by decide +kernel
theorem dX10_look_34 : decode cX10_look 34 = .ok (.ireturn, 1) := by decide +kernel
theorem dX10_look_35 : decode cX10_look 35 = .ok (.iload_n 2, 1) := by decide +kernel
theorem dX10_look_36 : decode cX10_look 36 = .ok (.ifCond .ne 12, 3) := by decide +kernel
theorem dX10_look_39 : decode cX10_look 39 = .ok (.aload_n 0, 1) := by decide +kernel
theorem dX10_look_40 : decode cX10_look 40 = .ok (.getfield 85, 3) := by decide +kernel
theorem dX10_look_43 : decode cX10_look 43 = .ok (.iload_n 1, 1) := by decide +kernel
theorem dX10_look_44 : decode cX10_look 44 = .ok (.iaload, 1) := by decide +kernel
theorem dX10_look_45 : decode cX10_look 45 = .ok (.goto 65, 3) := by decide +kernel
theorem dX10_look_48 : decode cX10_look 48 = .ok (.iload_n 2, 1) := by decide +kernel
theorem dX10_look_49 : decode cX10_look 49 = .ok (.iconst 1, 1) := by decide +kernel
theorem dX10_look_50 : decode cX10_look 50 = .ok (.if_icmp .ne 12, 3) := by decide +kernel
theorem dX10_look_53 : decode cX10_look 53 = .ok (.aload_n 0, 1) := by decide +kernel
theorem dX10_look_54 : decode cX10_look 54 = .ok (.getfield 88, 3) := by decide +kernel
theorem dX10_look_57 : decode cX10_look 57 = .ok (.iload_n 1, 1) := by decide +kernel
theorem dX10_look_58 : decode cX10_look 58 = .ok (.iaload, 1) := by decide +kernel
theorem dX10_look_59 : decode cX10_look 59 = .ok (.goto 51, 3) := by decide +kernel
theorem dX10_look_62 : decode cX10_look 62 = .ok (.iload_n 2, 1) := by decide +kernel
theorem dX10_look_63 : decode cX10_look 63 = .ok (.iconst 2, 1) := by decide +kernel
theorem dX10_look_64 : decode cX10_look 64 = .ok (.if_icmp .ne 12, 3) := by decide +kernel
theorem dX10_look_67 : decode cX10_look 67 = .ok (.aload_n 0, 1) := by decide +kernel
theorem dX10_look_68 : decode cX10_look 68 = .ok (.getfield 91, 3) := by decide +kernel
theorem dX10_look_71 : decode cX10_look 71 = .ok (.iload_n 1, 1) := by decide +kernel
theorem dX10_look_72 : decode cX10_look 72 = .ok (.iaload, 1) := by decide +kernel
theorem dX10_look_73 : decode cX10_look 73 = .ok (.goto 37, 3) := by decide +kernel
theorem dX10_look_76 : decode cX10_look 76 = .ok (.iload_n 2, 1) := by decide +kernel
theorem dX10_look_77 : decode cX10_look 77 = .ok (.iconst 3, 1) := by decide +kernel
theorem dX10_look_78 : decode cX10_look 78 = .ok (.if_icmp .ne 12, 3) := by decide +kernel
theorem dX10_look_81 : decode cX10_look 81 = .ok (.aload_n 0, 1) := by decide +kernel
theorem dX10_look_82 : decode cX10_look 82 = .ok (.getfield 94, 3) := by decide +kernel
theorem dX10_look_85 : decode cX10_look 85 = .ok (.iload_n 1, 1) := by decide +kernel
theorem dX10_look_86 : decode cX10_look 86 = .ok (.iaload, 1) := by decide +kernel
theorem dX10_look_87 : decode cX10_look 87 = .ok (.goto 23, 3) := by decide +kernel
theorem dX10_look_90 : decode cX10_look 90 = .ok (.iload_n 2, 1) := by decide +kernel
theorem dX10_look_91 : decode cX10_look 91 = .ok (.iconst 4, 1) := by decide +kernel
theorem dX10_look_92 : decode cX10_look 92 = .ok (.if_icmp .ne 12, 3) := by decide +kernel
theorem dX10_look_95 : decode cX10_look 95 = .ok (.aload_n 0, 1) := by decide +kernel
theorem dX10_look_96 : decode cX10_look 96 = .ok (.getfield 97, 3) := by decide +kernel
theorem dX10_look_99 : decode cX10_look 99 = .ok (.iload_n 1, 1) := by decide +kernel
theorem dX10_look_100 : decode cX10_look 100 = .ok (.iaload, 1) := by decide +kernel
theorem dX10_look_101 : decode cX10_look 101 = .ok (.goto 9, 3) := by decide +kernel
theorem dX10_look_104 : decode cX10_look 104 = .ok (.aload_n 0, 1) := by decide +kernel
theorem dX10_look_105 : decode cX10_look 105 = .ok (.getfield 100, 3) := by decide +kernel
theorem dX10_look_108 : decode cX10_look 108 = .ok (.iload_n 1, 1) := by decide +kernel
theorem dX10_look_109 : decode cX10_look 109 = .ok (.iaload, 1) := by decide +kernel
theorem dX10_look_110 : decode cX10_look 110 = .ok (.ireturn, 1) := by decide +kernel
theorem dJ13_bitCount_95d88_0 : decode cJ13_bitCount_95d88 0 = .ok (.lload_n 0, 1) := by decide +kernel
theorem dJ13_bitCount_95d88_1 : decode cJ13_bitCount_95d88 1 = .ok (.lload_n 0, 1) := by decide +kernel
theorem dJ13_bitCount_95d88_2 : decode cJ13_bitCount_95d88 2 = .ok (.iconst 1, 1) := by decide +kernel
theorem dJ13_bitCount_95d88_3 : decode cJ13_bitCount_95d88 3 = .ok (.lushr, 1) := by decide +kernel
theorem dJ13_bitCount_95d88_4 : decode cJ13_bitCount_95d88 4 = .ok (.ldc2_w 314, 3) := by decide +kernel
theorem dJ13_bitCount_95d88_7 : decode cJ13_bitCount_95d88 7 = .ok (.land, 1) := by decide +kernel
theorem dJ13_bitCount_95d88_8 : decode cJ13_bitCount_95d88 8 = .ok (.lsub, 1) := by decide +kernel
theorem dJ13_bitCount_95d88_9 : decode cJ13_bitCount_95d88 9 = .ok (.lstore_n 0, 1) := by decide +kernel
theorem dJ13_bitCount_95d88_10 : decode cJ13_bitCount_95d88 10 = .ok (.lload_n 0, 1) := by decide +kernel
theorem dJ13_bitCount_95d88_11 : decode cJ13_bitCount_95d88 11 = .ok (.ldc2_w 316, 3) := by decide +kernel
theorem dJ13_bitCount_95d88_14 : decode cJ13_bitCount_95d88 14 = .ok (.land, 1) := by decide +kernel
theorem dJ13_bitCount_95d88_15 : decode cJ13_bitCount_95d88 15 = .ok (.lload_n 0, 1) := by decide +kernel
theorem dJ13_bitCount_95d88_16 : decode cJ13_bitCount_95d88 16 = .ok (.iconst 2, 1) := by decide +kernel
theorem dJ13_bitCount_95d88_17 : decode cJ13_bitCount_95d88 17 = .ok (.lushr, 1) := by decide +kernel
theorem dJ13_bitCount_95d88_18 : decode cJ13_bitCount_95d88 18 = .ok (.ldc2_w 316, 3) := by decide +kernel
theorem dJ13_bitCount_95d88_21 : decode cJ13_bitCount_95d88 21 = .ok (.land, 1) := by decide +kernel
theorem dJ13_bitCount_95d88_22 : decode cJ13_bitCount_95d88 22 = .ok (.ladd, 1) := by decide +kernel
theorem dJ13_bitCount_95d88_23 : decode cJ13_bitCount_95d88 23 = .ok (.lstore_n 0, 1) := by decide +kernel
theorem dJ13_bitCount_95d88_24 : decode cJ13_bitCount_95d88 24 = .ok (.lload_n 0, 1) := by decide +kernel
theorem dJ13_bitCount_95d88_25 : decode cJ13_bitCount_95d88 25 = .ok (.lload_n 0, 1) := by decide +kernel
theorem dJ13_bitCount_95d88_26 : decode cJ13_bitCount_95d88 26 = .ok (.iconst 4, 1) := by decide +kernel
theorem dJ13_bitCount_95d88_27 : decode cJ13_bitCount_95d88 27 = .ok (.lushr, 1) := by decide +kernel
theorem dJ13_bitCount_95d88_28 : decode cJ13_bitCount_95d88 28 = .ok (.ladd, 1) := by decide +kernel
theorem dJ13_bitCount_95d88_29 : decode cJ13_bitCount_95d88 29 = .ok (.ldc2_w 318, 3) := by decide +kernel
theorem dJ13_bitCount_95d88_32 : decode cJ13_bitCount_95d88 32 = .ok (.land, 1) := by decide +kernel
theorem dJ13_bitCount_95d88_33 : decode cJ13_bitCount_95d88 33 = .ok (.lstore_n 0, 1) := by decide +kernel
theorem dJ13_bitCount_95d88_34 : decode cJ13_bitCount_95d88 34 = .ok (.lload_n 0, 1) := by decide +kernel
theorem dJ13_bitCount_95d88_35 : decode cJ13_bitCount_95d88 35 = .ok (.lload_n 0, 1) := by decide +kernel
theorem dJ13_bitCount_95d88_36 : decode cJ13_bitCount_95d88 36 = .ok (.bipush 8, 2) := by decide +kernel
theorem dJ13_bitCount_95d88_38 : decode cJ13_bitCount_95d88 38 = .ok (.lushr, 1) := by decide +kernel
theorem dJ13_bitCount_95d88_39 : decode cJ13_bitCount_95d88 39 = .ok (.ladd, 1) := by decide +kernel
theorem dJ13_bitCount_95d88_40 : decode cJ13_bitCount_95d88 40 = .ok (.lstore_n 0, 1) := by decide +kernel
theorem dJ13_bitCount_95d88_41 : decode cJ13_bitCount_95d88 41 = .ok (.lload_n 0, 1) := by decide +kernel
theorem dJ13_bitCount_95d88_42 : decode cJ13_bitCount_95d88 42 = .ok (.lload_n 0, 1) := by decide +kernel
theorem dJ13_bitCount_95d88_43 : decode cJ13_bitCount_95d88 43 = .ok (.bipush 16, 2) := by decide +kernel
theorem dJ13_bitCount_95d88_45 : decode cJ13_bitCount_95d88 45 = .ok (.lushr, 1) := by decide +kernel
theorem dJ13_bitCount_95d88_46 : decode cJ13_bitCount_95d88 46 = .ok (.ladd, 1) := by decide +kernel
theorem dJ13_bitCount_95d88_47 : decode cJ13_bitCount_95d88 47 = .ok (.lstore_n 0, 1) := by decide +kernel
theorem dJ13_bitCount_95d88_48 : decode cJ13_bitCount_95d88 48 = .ok (.lload_n 0, 1) := by decide +kernel
theorem dJ13_bitCount_95d88_49 : decode cJ13_bitCount_95d88 49 = .ok (.lload_n 0, 1) := by decide +kernel
theorem dJ13_bitCount_95d88_50 : decode cJ13_bitCount_95d88 50 = .ok (.bipush 32, 2) := by decide +kernel
theorem dJ13_bitCount_95d88_52 : decode cJ13_bitCount_95d88 52 = .ok (.lushr, 1) := by decide +kernel
theorem dJ13_bitCount_95d88_53 : decode cJ13_bitCount_95d88 53 = .ok (.ladd, 1) := by decide +kernel
theorem dJ13_bitCount_95d88_54 : decode cJ13_bitCount_95d88 54 = .ok (.lstore_n 0, 1) := by decide +kernel
theorem dJ13_bitCount_95d88_55 : decode cJ13_bitCount_95d88 55 = .ok (.lload_n 0, 1) := by decide +kernel
theorem dJ13_bitCount_95d88_56 : decode cJ13_bitCount_95d88 56 = .ok (.l2i, 1) := by decide +kernel
theorem dJ13_bitCount_95d88_57 : decode cJ13_bitCount_95d88 57 = .ok (.bipush 127, 2) := by decide +kernel
theorem dJ13_bitCount_95d88_59 : decode cJ13_bitCount_95d88 59 = .ok (.iand, 1) := by decide +kernel
theorem dJ13_bitCount_95d88_60 : decode cJ13_bitCount_95d88 60 = .ok (.ireturn, 1) := by decide +kernel
theorem dJ9_max_7cf53_0 : decode cJ9_max_7cf53 0 = .ok (.iload_n 0, 1) := by decide +kernel
theorem dJ9_max_7cf53_1 : decode cJ9_max_7cf53 1 = .ok (.iload_n 1, 1) := by decide +kernel
theorem dJ9_max_7cf53_2 : decode cJ9_max_7cf53 2 = .ok (.if_icmp .lt 7, 3) := by decide +kernel
theorem dJ9_max_7cf53_5 : decode cJ9_max_7cf53 5 = .ok (.iload_n 0, 1) := by decide +kernel
theorem dJ9_max_7cf53_6 : decode cJ9_max_7cf53 6 = .ok (.goto 4, 3) := by decide +kernel
theorem dJ9_max_7cf53_9 : decode cJ9_max_7cf53 9 = .ok (.iload_n 1, 1) := by decide +kernel
theorem dJ9_max_7cf53_10 : decode cJ9_max_7cf53 10 = .ok (.ireturn, 1) := by decide +kernel
theorem dJ9_min_7cf53_0 : decode cJ9_min_7cf53 0 = .ok (.iload_n 0, 1) := by decide +kernel
theorem dJ9_min_7cf53_1 : decode cJ9_min_7cf53 1 = .ok (.iload_n 1, 1) := by decide +kernel
theorem dJ9_min_7cf53_2 : decode cJ9_min_7cf53 2 = .ok (.if_icmp .gt 7, 3) := by decide +kernel
theorem dJ9_min_7cf53_5 : decode cJ9_min_7cf53 5 = .ok (.iload_n 0, 1) := by decide +kernel
theorem dJ9_min_7cf53_6 : decode cJ9_min_7cf53 6 = .ok (.goto 4, 3) := by decide +kernel
theorem dJ9_min_7cf53_9 : decode cJ9_min_7cf53 9 = .ok (.iload_n 1, 1) := by decide +kernel
theorem dJ9_min_7cf53_10 : decode cJ9_min_7cf53 10 = .ok (.ireturn, 1) := by decide +kernel
theorem dJ0_length_8abf5_0 : decode cJ0_length_8abf5 0 = .ok (.aload_n 0, 1) := by decide +kernel
theorem dJ0_length_8abf5_1 : decode cJ0_length_8abf5 1 = .ok (.getfield 9, 3) := by decide +kernel
theorem dJ0_length_8abf5_4 : decode cJ0_length_8abf5 4 = .ok (.arraylength, 1) := by decide +kernel
theorem dJ0_length_8abf5_5 : decode cJ0_length_8abf5 5 = .ok (.aload_n 0, 1) := by decide +kernel
theorem dJ0_length_8abf5_6 : decode cJ0_length_8abf5 6 = .ok (.invokevirtual 335, 3) := by decide +kernel
theorem dJ0_length_8abf5_9 : decode cJ0_length_8abf5 9 = .ok (.ishr, 1) := by decide +kernel
theorem dJ0_length_8abf5_10 : decode cJ0_length_8abf5 10 = .ok (.ireturn, 1) := by decide +kernel
theorem dJ0_charAt_5068e_0 : decode cJ0_charAt_5068e 0 = .ok (.aload_n 0, 1) := by decide +kernel
theorem dJ0_charAt_5068e_1 : decode cJ0_charAt_5068e 1 = .ok (.invokevirtual 492, 3) := by decide +kernel
theorem dJ0_charAt_5068e_4 : decode cJ0_charAt_5068e 4 = .ok (.ifCond .eq 12, 3) := by decide +kernel
theorem dJ0_charAt_5068e_7 : decode cJ0_charAt_5068e 7 = .ok (.aload_n 0, 1) := by decide +kernel
theorem dJ0_charAt_5068e_8 : decode cJ0_charAt_5068e 8 = .ok (.getfield 9, 3) := by decide +kernel
theorem dJ0_charAt_5068e_11 : decode cJ0_charAt_5068e 11 = .ok (.iload_n 1, 1) := by decide +kernel
theorem dJ0_charAt_5068e_12 : decode cJ0_charAt_5068e 12 = .ok (.invokestatic 495, 3) := by decide +kernel
theorem dJ0_charAt_5068e_15 : decode cJ0_charAt_5068e 15 = .ok (.ireturn, 1) := by decide +kernel
theorem dJ0_charAt_5068e_16 : decode cJ0_charAt_5068e 16 = .ok (.aload_n 0, 1) := by decide +kernel
theorem dJ0_charAt_5068e_17 : decode cJ0_charAt_5068e 17 = .ok (.getfield 9, 3) := by decide +kernel
theorem dJ0_charAt_5068e_20 : decode cJ0_charAt_5068e 20 = .ok (.iload_n 1, 1) := by decide +kernel
theorem dJ0_charAt_5068e_21 : decode cJ0_charAt_5068e 21 = .ok (.invokestatic 498, 3) := by decide +kernel
theorem dJ0_charAt_5068e_24 : decode cJ0_charAt_5068e 24 = .ok (.ireturn, 1) := by decide +kernel
theorem dJ0_coder_7d493_0 : decode cJ0_coder_7d493 0 = .ok (.getstatic 38, 3) := by decide +kernel
theorem dJ0_coder_7d493_3 : decode cJ0_coder_7d493 3 = .ok (.ifCond .eq 10, 3) := by decide +kernel
theorem dJ0_coder_7d493_6 : decode cJ0_coder_7d493 6 = .ok (.aload_n 0, 1) := by decide +kernel
theorem dJ0_coder_7d493_7 : decode cJ0_coder_7d493 7 = .ok (.getfield 15, 3) := by decide +kernel
theorem dJ0_coder_7d493_10 : decode cJ0_coder_7d493 10 = .ok (.goto 4, 3) := by decide +kernel
theorem dJ0_coder_7d493_13 : decode cJ0_coder_7d493 13 = .ok (.iconst 1, 1) := by decide +kernel
theorem dJ0_coder_7d493_14 : decode cJ0_coder_7d493 14 = .ok (.ireturn, 1) := by decide +kernel
theorem dJ0_isLatin1_aae02_0 : decode cJ0_isLatin1_aae02 0 = .ok (.getstatic 38, 3) := by decide +kernel
theorem dJ0_isLatin1_aae02_3 : decode cJ0_isLatin1_aae02 3 = .ok (.ifCond .eq 14, 3) := by decide +kernel
theorem dJ0_isLatin1_aae02_6 : decode cJ0_isLatin1_aae02 6 = .ok (.aload_n 0, 1) := by decide +kernel
theorem dJ0_isLatin1_aae02_7 : decode cJ0_isLatin1_aae02 7 = .ok (.getfield 15, 3) := by decide +kernel
theorem dJ0_isLatin1_aae02_10 : decode cJ0_isLatin1_aae02 10 = .ok (.ifCond .ne 7, 3) := by decide +kernel
theorem dJ0_isLatin1_aae02_13 : decode cJ0_isLatin1_aae02 13 = .ok (.iconst 1, 1) := by decide +kernel
theorem dJ0_isLatin1_aae02_14 : decode cJ0_isLatin1_aae02 14 = .ok (.goto 4, 3) := by decide +kernel
theorem dJ0_isLatin1_aae02_17 : decode cJ0_isLatin1_aae02 17 = .ok (.iconst 0, 1) := by decide +kernel
theorem dJ0_isLatin1_aae02_18 : decode cJ0_isLatin1_aae02 18 = .ok (.ireturn, 1) := by decide +kernel
theorem dJ0_checkIndex_df160_0 : decode cJ0_checkIndex_df160 0 = .ok (.iload_n 0, 1) := by decide +kernel
theorem dJ0_checkIndex_df160_1 : decode cJ0_checkIndex_df160 1 = .ok (.iload_n 1, 1) := by decide +kernel
theorem dJ0_checkIndex_df160_2 : decode cJ0_checkIndex_df160 2 = .ok (.getstatic 1053, 3) := by decide +kernel
theorem dJ0_checkIndex_df160_5 : decode cJ0_checkIndex_df160 5 = .ok (.invokestatic 1059, 3) := by decide +kernel
theorem dJ0_checkIndex_df160_8 : decode cJ0_checkIndex_df160 8 = .ok (.pop, 1) := by decide +kernel
theorem dJ0_checkIndex_df160_9 : decode cJ0_checkIndex_df160 9 = .ok (.return_, 1) := by decide +kernel
theorem dJ1_charAt_3b067_0 : decode cJ1_charAt_3b067 0 = .ok (.iload_n 1, 1) := by decide +kernel
theorem dJ1_charAt_3b067_1 : decode cJ1_charAt_3b067 1 = .ok (.aload_n 0, 1) := by decide +kernel
theorem dJ1_charAt_3b067_2 : decode cJ1_charAt_3b067 2 = .ok (.arraylength, 1) := by decide +kernel
theorem dJ1_charAt_3b067_3 : decode cJ1_charAt_3b067 3 = .ok (.invokestatic 9, 3) := by decide +kernel
theorem dJ1_charAt_3b067_6 : decode cJ1_charAt_3b067 6 = .ok (.aload_n 0, 1) := by decide +kernel
theorem dJ1_charAt_3b067_7 : decode cJ1_charAt_3b067 7 = .ok (.iload_n 1, 1) := by decide +kernel
theorem dJ1_charAt_3b067_8 : decode cJ1_charAt_3b067 8 = .ok (.baload, 1) := by decide +kernel
theorem dJ1_charAt_3b067_9 : decode cJ1_charAt_3b067 9 = .ok (.sipush 255, 3) := by decide +kernel
theorem dJ1_charAt_3b067_12 : decode cJ1_charAt_3b067 12 = .ok (.iand, 1) := by decide +kernel
theorem dJ1_charAt_3b067_13 : decode cJ1_charAt_3b067 13 = .ok (.i2c, 1) := by decide +kernel
theorem dJ1_charAt_3b067_14 : decode cJ1_charAt_3b067 14 = .ok (.ireturn, 1) := by decide +kernel
theorem dJ2_getChar_3b067_0 : decode cJ2_getChar_3b067 0 = .ok (.getstatic 44, 3) := by decide +kernel
theorem dJ2_getChar_3b067_3 : decode cJ2_getChar_3b067 3 = .ok (.ifCond .ne 25, 3) := by decide +kernel
theorem dJ2_getChar_3b067_6 : decode cJ2_getChar_3b067 6 = .ok (.iload_n 1, 1) := by decide +kernel
theorem dJ2_getChar_3b067_7 : decode cJ2_getChar_3b067 7 = .ok (.ifCond .lt 11, 3) := by decide +kernel
theorem dJ2_getChar_3b067_10 : decode cJ2_getChar_3b067 10 = .ok (.iload_n 1, 1) := by decide +kernel
theorem dJ2_getChar_3b067_11 : decode cJ2_getChar_3b067 11 = .ok (.aload_n 0, 1) := by decide +kernel
theorem dJ2_getChar_3b067_12 : decode cJ2_getChar_3b067 12 = .ok (.invokestatic 48, 3) := by decide +kernel
theorem dJ2_getChar_3b067_15 : decode cJ2_getChar_3b067 15 = .ok (.if_icmp .lt 13, 3) := by decide +kernel
theorem dJ2_getChar_3b067_18 : decode cJ2_getChar_3b067 18 = .ok (.new 52, 3) := by decide +kernel
theorem dJ2_getChar_3b067_21 : decode cJ2_getChar_3b067 21 = .ok (.dup, 1) := by decide +kernel
theorem dJ2_getChar_3b067_22 : decode cJ2_getChar_3b067 22 = .ok (.ldc 54, 2) := by decide +kernel
theorem dJ2_getChar_3b067_24 : decode cJ2_getChar_3b067 24 = .ok (.invokespecial 56, 3) := by decide +kernel
theorem dJ2_getChar_3b067_27 : decode cJ2_getChar_3b067 27 = .ok (.athrow, 1) := by decide +kernel
theorem dJ2_getChar_3b067_28 : decode cJ2_getChar_3b067 28 = .ok (.iload_n 1, 1) := by decide +kernel
theorem dJ2_getChar_3b067_29 : decode cJ2_getChar_3b067 29 = .ok (.iconst 1, 1) := by decide +kernel
theorem dJ2_getChar_3b067_30 : decode cJ2_getChar_3b067 30 = .ok (.ishl, 1) := by decide +kernel
theorem dJ2_getChar_3b067_31 : decode cJ2_getChar_3b067 31 = .ok (.istore_n 1, 1) := by decide +kernel
theorem dJ2_getChar_3b067_32 : decode cJ2_getChar_3b067 32 = .ok (.aload_n 0, 1) := by decide +kernel
theorem dJ2_getChar_3b067_33 : decode cJ2_getChar_3b067 33 = .ok (.iload_n 1, 1) := by decide +kernel
theorem dJ2_getChar_3b067_34 : decode cJ2_getChar_3b067 34 = .ok (.iinc 1 1, 3) := by decide +kernel
theorem dJ2_getChar_3b067_37 : decode cJ2_getChar_3b067 37 = .ok (.baload, 1) := by decide +kernel
theorem dJ2_getChar_3b067_38 : decode cJ2_getChar_3b067 38 = .ok (.sipush 255, 3) := by decide +kernel
theorem dJ2_getChar_3b067_41 : decode cJ2_getChar_3b067 41 = .ok (.iand, 1) := by decide +kernel
theorem dJ2_getChar_3b067_42 : decode cJ2_getChar_3b067 42 = .ok (.getstatic 59, 3) := by decide +kernel
theorem dJ2_getChar_3b067_45 : decode cJ2_getChar_3b067 45 = .ok (.ishl, 1) := by decide +kernel
theorem dJ2_getChar_3b067_46 : decode cJ2_getChar_3b067 46 = .ok (.aload_n 0, 1) := by decide +kernel
theorem dJ2_getChar_3b067_47 : decode cJ2_getChar_3b067 47 = .ok (.iload_n 1, 1) := by decide +kernel
theorem dJ2_getChar_3b067_48 : decode cJ2_getChar_3b067 48 = .ok (.baload, 1) := by decide +kernel
theorem dJ2_getChar_3b067_49 : decode cJ2_getChar_3b067 49 = .ok (.sipush 255, 3) := by decide +kernel
theorem dJ2_getChar_3b067_52 : decode cJ2_getChar_3b067 52 = .ok (.iand, 1) := by decide +kernel
theorem dJ2_getChar_3b067_53 : decode cJ2_getChar_3b067 53 = .ok (.getstatic 63, 3) := by decide +kernel
theorem dJ2_getChar_3b067_56 : decode cJ2_getChar_3b067 56 = .ok (.ishl, 1) := by decide +kernel
theorem dJ2_getChar_3b067_57 : decode cJ2_getChar_3b067 57 = .ok (.ior, 1) := by decide +kernel
theorem dJ2_getChar_3b067_58 : decode cJ2_getChar_3b067 58 = .ok (.i2c, 1) := by decide +kernel
theorem dJ2_getChar_3b067_59 : decode cJ2_getChar_3b067 59 = .ok (.ireturn, 1) := by decide +kernel
theorem dJ2_length_9d52b_0 : decode cJ2_length_9d52b 0 = .ok (.aload_n 0, 1) := by decide +kernel
theorem dJ2_length_9d52b_1 : decode cJ2_length_9d52b 1 = .ok (.arraylength, 1) := by decide +kernel
theorem dJ2_length_9d52b_2 : decode cJ2_length_9d52b 2 = .ok (.iconst 1, 1) := by decide +kernel
theorem dJ2_length_9d52b_3 : decode cJ2_length_9d52b 3 = .ok (.ishr, 1) := by decide +kernel
theorem dJ2_length_9d52b_4 : decode cJ2_length_9d52b 4 = .ok (.ireturn, 1) := by decide +kernel
theorem dJ2_charAt_3b067_0 : decode cJ2_charAt_3b067 0 = .ok (.iload_n 1, 1) := by decide +kernel
theorem dJ2_charAt_3b067_1 : decode cJ2_charAt_3b067 1 = .ok (.aload_n 0, 1) := by decide +kernel
theorem dJ2_charAt_3b067_2 : decode cJ2_charAt_3b067 2 = .ok (.invokestatic 67, 3) := by decide +kernel
theorem dJ2_charAt_3b067_5 : decode cJ2_charAt_3b067 5 = .ok (.aload_n 0, 1) := by decide +kernel
theorem dJ2_charAt_3b067_6 : decode cJ2_charAt_3b067 6 = .ok (.iload_n 1, 1) := by decide +kernel
theorem dJ2_charAt_3b067_7 : decode cJ2_charAt_3b067 7 = .ok (.invokestatic 71, 3) := by decide +kernel
theorem dJ2_charAt_3b067_10 : decode cJ2_charAt_3b067 10 = .ok (.ireturn, 1) := by decide +kernel
theorem dJ2_checkIndex_2214a_0 : decode cJ2_checkIndex_2214a 0 = .ok (.iload_n 0, 1) := by decide +kernel
theorem dJ2_checkIndex_2214a_1 : decode cJ2_checkIndex_2214a 1 = .ok (.aload_n 1, 1) := by decide +kernel
theorem dJ2_checkIndex_2214a_2 : decode cJ2_checkIndex_2214a 2 = .ok (.invokestatic 48, 3) := by decide +kernel
theorem dJ2_checkIndex_2214a_5 : decode cJ2_checkIndex_2214a 5 = .ok (.invokestatic 414, 3) := by decide +kernel
theorem dJ2_checkIndex_2214a_8 : decode cJ2_checkIndex_2214a 8 = .ok (.return_, 1) := by decide +kernel
theorem dJ7_fill_d0a16_0 : decode cJ7_fill_d0a16 0 = .ok (.iconst 0, 1) := by decide +kernel
theorem dJ7_fill_d0a16_1 : decode cJ7_fill_d0a16 1 = .ok (.istore_n 3, 1) := by decide +kernel
theorem dJ7_fill_d0a16_2 : decode cJ7_fill_d0a16 2 = .ok (.aload_n 0, 1) := by decide +kernel
theorem dJ7_fill_d0a16_3 : decode cJ7_fill_d0a16 3 = .ok (.arraylength, 1) := by decide +kernel
theorem dJ7_fill_d0a16_4 : decode cJ7_fill_d0a16 4 = .ok (.istore 4, 2) := by decide +kernel
theorem dJ7_fill_d0a16_6 : decode cJ7_fill_d0a16 6 = .ok (.iload_n 3, 1) := by decide +kernel
theorem dJ7_fill_d0a16_7 : decode cJ7_fill_d0a16 7 = .ok (.iload 4, 2) := by decide +kernel
theorem dJ7_fill_d0a16_9 : decode cJ7_fill_d0a16 9 = .ok (.if_icmp .ge 13, 3) := by decide +kernel
theorem dJ7_fill_d0a16_12 : decode cJ7_fill_d0a16 12 = .ok (.aload_n 0, 1) := by decide +kernel
theorem dJ7_fill_d0a16_13 : decode cJ7_fill_d0a16 13 = .ok (.iload_n 3, 1) := by decide +kernel
theorem dJ7_fill_d0a16_14 : decode cJ7_fill_d0a16 14 = .ok (.lload_n 1, 1) := by decide +kernel
theorem dJ7_fill_d0a16_15 : decode cJ7_fill_d0a16 15 = .ok (.lastore, 1) := by decide +kernel
theorem dJ7_fill_d0a16_16 : decode cJ7_fill_d0a16 16 = .ok (.iinc 3 1, 3) := by decide +kernel
theorem dJ7_fill_d0a16_19 : decode cJ7_fill_d0a16 19 = .ok (.goto (-13), 3) := by decide +kernel
theorem dJ7_fill_d0a16_22 : decode cJ7_fill_d0a16 22 = .ok (.return_, 1) := by decide +kernel
theorem dJ7_fill_53178_0 : decode cJ7_fill_53178 0 = .ok (.iconst 0, 1) := by decide +kernel
theorem dJ7_fill_53178_1 : decode cJ7_fill_53178 1 = .ok (.istore_n 2, 1) := by decide +kernel
theorem dJ7_fill_53178_2 : decode cJ7_fill_53178 2 = .ok (.aload_n 0, 1) := by decide +kernel
theorem dJ7_fill_53178_3 : decode cJ7_fill_53178 3 = .ok (.arraylength, 1) := by decide +kernel
theorem dJ7_fill_53178_4 : decode cJ7_fill_53178 4 = .ok (.istore_n 3, 1) := by decide +kernel
theorem dJ7_fill_53178_5 : decode cJ7_fill_53178 5 = .ok (.iload_n 2, 1) := by decide +kernel
theorem dJ7_fill_53178_6 : decode cJ7_fill_53178 6 = .ok (.iload_n 3, 1) := by decide +kernel
theorem dJ7_fill_53178_7 : decode cJ7_fill_53178 7 = .ok (.if_icmp .ge 13, 3) := by decide +kernel
theorem dJ7_fill_53178_10 : decode cJ7_fill_53178 10 = .ok (.aload_n 0, 1) := by decide +kernel
theorem dJ7_fill_53178_11 : decode cJ7_fill_53178 11 = .ok (.iload_n 2, 1) := by decide +kernel
theorem dJ7_fill_53178_12 : decode cJ7_fill_53178 12 = .ok (.iload_n 1, 1) := by decide +kernel
theorem dJ7_fill_53178_13 : decode cJ7_fill_53178 13 = .ok (.iastore, 1) := by decide +kernel
theorem dJ7_fill_53178_14 : decode cJ7_fill_53178 14 = .ok (.iinc 2 1, 3) := by decide +kernel
theorem dJ7_fill_53178_17 : decode cJ7_fill_53178 17 = .ok (.goto (-12), 3) := by decide +kernel
theorem dJ7_fill_53178_20 : decode cJ7_fill_53178 20 = .ok (.return_, 1) := by decide +kernel
theorem dJ3_checkIndex_8e157_0 : decode cJ3_checkIndex_8e157 0 = .ok (.iload_n 0, 1) := by decide +kernel
theorem dJ3_checkIndex_8e157_1 : decode cJ3_checkIndex_8e157 1 = .ok (.ifCond .lt 8, 3) := by decide +kernel
theorem dJ3_checkIndex_8e157_4 : decode cJ3_checkIndex_8e157 4 = .ok (.iload_n 0, 1) := by decide +kernel
theorem dJ3_checkIndex_8e157_5 : decode cJ3_checkIndex_8e157 5 = .ok (.iload_n 1, 1) := by decide +kernel
theorem dJ3_checkIndex_8e157_6 : decode cJ3_checkIndex_8e157 6 = .ok (.if_icmp .lt 10, 3) := by decide +kernel
theorem dJ3_checkIndex_8e157_9 : decode cJ3_checkIndex_8e157 9 = .ok (.aload_n 2, 1) := by decide +kernel
theorem dJ3_checkIndex_8e157_10 : decode cJ3_checkIndex_8e157 10 = .ok (.iload_n 0, 1) := by decide +kernel
theorem dJ3_checkIndex_8e157_11 : decode cJ3_checkIndex_8e157 11 = .ok (.iload_n 1, 1) := by decide +kernel
theorem dJ3_checkIndex_8e157_12 : decode cJ3_checkIndex_8e157 12 = .ok (.invokestatic 95, 3) := by decide +kernel
theorem dJ3_checkIndex_8e157_15 : decode cJ3_checkIndex_8e157 15 = .ok (.athrow, 1) := by decide +kernel
theorem dJ3_checkIndex_8e157_16 : decode cJ3_checkIndex_8e157 16 = .ok (.iload_n 0, 1) := by decide +kernel
theorem dJ3_checkIndex_8e157_17 : decode cJ3_checkIndex_8e157 17 = .ok (.ireturn, 1) := by decide +kernel
theorem dL_shift_0 : decode cL_shift 0 = .ok (.aload_n 2, 1) := by decide +kernel
theorem dL_shift_1 : decode cL_shift 1 = .ok (.iconst 0, 1) := by decide +kernel
theorem dL_shift_2 : decode cL_shift 2 = .ok (.aload_n 0, 1) := by decide +kernel
theorem dL_shift_3 : decode cL_shift 3 = .ok (.iload_n 1, 1) := by decide +kernel
theorem dL_shift_4 : decode cL_shift 4 = .ok (.invokevirtual 7, 3) := by decide +kernel
theorem dL_shift_7 : decode cL_shift 7 = .ok (.i2l, 1) := by decide +kernel
theorem dL_shift_8 : decode cL_shift 8 = .ok (.lastore, 1) := by decide +kernel
theorem dL_shift_9 : decode cL_shift 9 = .ok (.goto 6, 3) := by decide +kernel
theorem dL_shift_12 : decode cL_shift 12 = .ok (.astore_n 3, 1) := by decide +kernel
theorem dL_shift_13 : decode cL_shift 13 = .ok (.iconst 1, 1) := by decide +kernel
theorem dL_shift_14 : decode cL_shift 14 = .ok (.ireturn, 1) := by decide +kernel
theorem dL_shift_15 : decode cL_shift 15 = .ok (.iconst 0, 1) := by decide +kernel
theorem dL_shift_16 : decode cL_shift 16 = .ok (.ireturn, 1) := by decide +kernel
theorem dL_look_0 : decode cL_look 0 = .ok (.aload_n 3, 1) := by decide +kernel
theorem dL_look_1 : decode cL_look 1 = .ok (.iconst 0, 1) := by decide +kernel
theorem dL_look_2 : decode cL_look 2 = .ok (.aload_n 0, 1) := by decide +kernel
theorem dL_look_3 : decode cL_look 3 = .ok (.iload_n 1, 1) := by decide +kernel
theorem dL_look_4 : decode cL_look 4 = .ok (.iload_n 2, 1) := by decide +kernel
theorem dL_look_5 : decode cL_look 5 = .ok (.invokevirtual 15, 3) := by decide +kernel
theorem dL_look_8 : decode cL_look 8 = .ok (.i2l, 1) := by decide +kernel
theorem dL_look_9 : decode cL_look 9 = .ok (.lastore, 1) := by decide +kernel
theorem dL_look_10 : decode cL_look 10 = .ok (.goto 7, 3) := by decide +kernel
theorem dL_look_13 : decode cL_look 13 = .ok (.astore 4, 2) := by decide +kernel
theorem dL_look_15 : decode cL_look 15 = .ok (.iconst 1, 1) := by decide +kernel
theorem dL_look_16 : decode cL_look 16 = .ok (.ireturn, 1) := by decide +kernel
theorem dL_look_17 : decode cL_look 17 = .ok (.iconst 0, 1) := by decide +kernel
theorem dL_look_18 : decode cL_look 18 = .ok (.ireturn, 1) := by decide +kernel
end
section
theorem dL_law_0 : decode cL_law 0 = .ok (.new 8, 3) := by decide +kernel
theorem dL_law_3 : decode cL_law 3 = .ok (.dup, 1) := by decide +kernel
theorem dL_law_4 : decode cL_law 4 = .ok (.invokespecial 19, 3) := by decide +kernel
theorem dL_law_7 : decode cL_law 7 = .ok (.astore_n 1, 1) := by decide +kernel
theorem dL_law_8 : decode cL_law 8 = .ok (.new 20, 3) := by decide +kernel
theorem dL_law_11 : decode cL_law 11 = .ok (.dup, 1) := by decide +kernel
theorem dL_law_12 : decode cL_law 12 = .ok (.invokespecial 22, 3) := by decide +kernel
theorem dL_law_15 : decode cL_law 15 = .ok (.astore_n 2, 1) := by decide +kernel
theorem dL_law_16 : decode cL_law 16 = .ok (.iconst 1, 1) := by decide +kernel
theorem dL_law_17 : decode cL_law 17 = .ok (.newarray .long, 2) := by decide +kernel
theorem dL_law_19 : decode cL_law 19 = .ok (.astore_n 3, 1) := by decide +kernel
theorem dL_law_20 : decode cL_law 20 = .ok (.iconst 0, 1) := by decide +kernel
theorem dL_law_21 : decode cL_law 21 = .ok (.istore 4, 2) := by decide +kernel
theorem dL_law_23 : decode cL_law 23 = .ok (.iload 4, 2) := by decide +kernel
theorem dL_law_25 : decode cL_law 25 = .ok (.aload_n 0, 1) := by decide +kernel
theorem dL_law_26 : decode cL_law 26 = .ok (.arraylength, 1) := by decide +kernel
theorem dL_law_27 : decode cL_law 27 = .ok (.bipush 7, 2) := by decide +kernel
theorem dL_law_29 : decode cL_law 29 = .ok (.isub, 1) := by decide +kernel
theorem dL_law_30 : decode cL_law 30 = .ok (.if_icmp .gt 1137, 3) := by decide +kernel
theorem dL_law_33 : decode cL_law 33 = .ok (.aload_n 0, 1) := by decide +kernel
theorem dL_law_34 : decode cL_law 34 = .ok (.iload 4, 2) := by decide +kernel
theorem dL_law_36 : decode cL_law 36 = .ok (.iaload, 1) := by decide +kernel
theorem dL_law_37 : decode cL_law 37 = .ok (.bipush 31, 2) := by decide +kernel
theorem dL_law_39 : decode cL_law 39 = .ok (.iand, 1) := by decide +kernel
theorem dL_law_40 : decode cL_law 40 = .ok (.tableswitch 1121 0 24 #[116, 141, 190, 239, 276, 301, 326, 363, 400, 449, 474, 499, 524, 549, 598, 654, 707, 854, 867, 892, 929, 942, 991, 1028, 1053], 116) := by decide +kernel
theorem dL_law_156 : decode cL_law 156 = .ok (.aload_n 1, 1) := by decide +kernel
theorem dL_law_157 : decode cL_law 157 = .ok (.aload_n 0, 1) := by decide +kernel
theorem dL_law_158 : decode cL_law 158 = .ok (.iload 4, 2) := by decide +kernel
theorem dL_law_160 : decode cL_law 160 = .ok (.iconst 1, 1) := by decide +kernel
theorem dL_law_161 : decode cL_law 161 = .ok (.iadd, 1) := by decide +kernel
theorem dL_law_162 : decode cL_law 162 = .ok (.iaload, 1) := by decide +kernel
theorem dL_law_163 : decode cL_law 163 = .ok (.invokevirtual 23, 3) := by decide +kernel
theorem dL_law_166 : decode cL_law 166 = .ok (.aload_n 2, 1) := by decide +kernel
theorem dL_law_167 : decode cL_law 167 = .ok (.aload_n 0, 1) := by decide +kernel
theorem dL_law_168 : decode cL_law 168 = .ok (.iload 4, 2) := by decide +kernel
theorem dL_law_170 : decode cL_law 170 = .ok (.iconst 1, 1) := by decide +kernel
theorem dL_law_171 : decode cL_law 171 = .ok (.iadd, 1) := by decide +kernel
theorem dL_law_172 : decode cL_law 172 = .ok (.iaload, 1) := by decide +kernel
theorem dL_law_173 : decode cL_law 173 = .ok (.invokevirtual 26, 3) := by decide +kernel
theorem dL_law_176 : decode cL_law 176 = .ok (.if_icmp .eq 985, 3) := by decide +kernel
theorem dL_law_179 : decode cL_law 179 = .ok (.iconst 0, 1) := by decide +kernel
theorem dL_law_180 : decode cL_law 180 = .ok (.ireturn, 1) := by decide +kernel
theorem dL_law_181 : decode cL_law 181 = .ok (.aload_n 1, 1) := by decide +kernel
theorem dL_law_182 : decode cL_law 182 = .ok (.aload_n 0, 1) := by decide +kernel
theorem dL_law_183 : decode cL_law 183 = .ok (.iload 4, 2) := by decide +kernel
theorem dL_law_185 : decode cL_law 185 = .ok (.iconst 1, 1) := by decide +kernel
theorem dL_law_186 : decode cL_law 186 = .ok (.iadd, 1) := by decide +kernel
theorem dL_law_187 : decode cL_law 187 = .ok (.iaload, 1) := by decide +kernel
theorem dL_law_188 : decode cL_law 188 = .ok (.aload_n 0, 1) := by decide +kernel
theorem dL_law_189 : decode cL_law 189 = .ok (.iload 4, 2) := by decide +kernel
theorem dL_law_191 : decode cL_law 191 = .ok (.iconst 2, 1) := by decide +kernel
theorem dL_law_192 : decode cL_law 192 = .ok (.iadd, 1) := by decide +kernel
theorem dL_law_193 : decode cL_law 193 = .ok (.iaload, 1) := by decide +kernel
theorem dL_law_194 : decode cL_law 194 = .ok (.aload_n 0, 1) := by decide +kernel
theorem dL_law_195 : decode cL_law 195 = .ok (.iload 4, 2) := by decide +kernel
theorem dL_law_197 : decode cL_law 197 = .ok (.iconst 3, 1) := by decide +kernel
theorem dL_law_198 : decode cL_law 198 = .ok (.iadd, 1) := by decide +kernel
theorem dL_law_199 : decode cL_law 199 = .ok (.iaload, 1) := by decide +kernel
theorem dL_law_200 : decode cL_law 200 = .ok (.invokevirtual 27, 3) := by decide +kernel
theorem dL_law_203 : decode cL_law 203 = .ok (.aload_n 2, 1) := by decide +kernel
theorem dL_law_204 : decode cL_law 204 = .ok (.aload_n 0, 1) := by decide +kernel
theorem dL_law_205 : decode cL_law 205 = .ok (.iload 4, 2) := by decide +kernel
theorem dL_law_207 : decode cL_law 207 = .ok (.iconst 1, 1) := by decide +kernel
theorem dL_law_208 : decode cL_law 208 = .ok (.iadd, 1) := by decide +kernel
theorem dL_law_209 : decode cL_law 209 = .ok (.iaload, 1) := by decide +kernel
theorem dL_law_210 : decode cL_law 210 = .ok (.aload_n 0, 1) := by decide +kernel
theorem dL_law_211 : decode cL_law 211 = .ok (.iload 4, 2) := by decide +kernel
theorem dL_law_213 : decode cL_law 213 = .ok (.iconst 2, 1) := by decide +kernel
theorem dL_law_214 : decode cL_law 214 = .ok (.iadd, 1) := by decide +kernel
theorem dL_law_215 : decode cL_law 215 = .ok (.iaload, 1) := by decide +kernel
theorem dL_law_216 : decode cL_law 216 = .ok (.aload_n 0, 1) := by decide +kernel
theorem dL_law_217 : decode cL_law 217 = .ok (.iload 4, 2) := by decide +kernel
theorem dL_law_219 : decode cL_law 219 = .ok (.iconst 3, 1) := by decide +kernel
theorem dL_law_220 : decode cL_law 220 = .ok (.iadd, 1) := by decide +kernel
theorem dL_law_221 : decode cL_law 221 = .ok (.iaload, 1) := by decide +kernel
theorem dL_law_222 : decode cL_law 222 = .ok (.invokevirtual 31, 3) := by decide +kernel
theorem dL_law_225 : decode cL_law 225 = .ok (.if_icmp .eq 936, 3) := by decide +kernel
theorem dL_law_228 : decode cL_law 228 = .ok (.iconst 0, 1) := by decide +kernel
theorem dL_law_229 : decode cL_law 229 = .ok (.ireturn, 1) := by decide +kernel
theorem dL_law_230 : decode cL_law 230 = .ok (.aload_n 1, 1) := by decide +kernel
theorem dL_law_231 : decode cL_law 231 = .ok (.aload_n 0, 1) := by decide +kernel
theorem dL_law_232 : decode cL_law 232 = .ok (.iload 4, 2) := by decide +kernel
theorem dL_law_234 : decode cL_law 234 = .ok (.iconst 1, 1) := by decide +kernel
theorem dL_law_235 : decode cL_law 235 = .ok (.iadd, 1) := by decide +kernel
theorem dL_law_236 : decode cL_law 236 = .ok (.iaload, 1) := by decide +kernel
theorem dL_law_237 : decode cL_law 237 = .ok (.aload_n 0, 1) := by decide +kernel
theorem dL_law_238 : decode cL_law 238 = .ok (.iload 4, 2) := by decide +kernel
theorem dL_law_240 : decode cL_law 240 = .ok (.iconst 2, 1) := by decide +kernel
theorem dL_law_241 : decode cL_law 241 = .ok (.iadd, 1) := by decide +kernel
theorem dL_law_242 : decode cL_law 242 = .ok (.iaload, 1) := by decide +kernel
theorem dL_law_243 : decode cL_law 243 = .ok (.aload_n 0, 1) := by decide +kernel
theorem dL_law_244 : decode cL_law 244 = .ok (.iload 4, 2) := by decide +kernel
theorem dL_law_246 : decode cL_law 246 = .ok (.iconst 3, 1) := by decide +kernel
theorem dL_law_247 : decode cL_law 247 = .ok (.iadd, 1) := by decide +kernel
theorem dL_law_248 : decode cL_law 248 = .ok (.iaload, 1) := by decide +kernel
theorem dL_law_249 : decode cL_law 249 = .ok (.invokevirtual 32, 3) := by decide +kernel
theorem dL_law_252 : decode cL_law 252 = .ok (.aload_n 2, 1) := by decide +kernel
theorem dL_law_253 : decode cL_law 253 = .ok (.aload_n 0, 1) := by decide +kernel
theorem dL_law_254 : decode cL_law 254 = .ok (.iload 4, 2) := by decide +kernel
theorem dL_law_256 : decode cL_law 256 = .ok (.iconst 1, 1) := by decide +kernel
theorem dL_law_257 : decode cL_law 257 = .ok (.iadd, 1) := by decide +kernel
theorem dL_law_258 : decode cL_law 258 = .ok (.iaload, 1) := by decide +kernel
theorem dL_law_259 : decode cL_law 259 = .ok (.aload_n 0, 1) := by decide +kernel
theorem dL_law_260 : decode cL_law 260 = .ok (.iload 4, 2) := by decide +kernel
theorem dL_law_262 : decode cL_law 262 = .ok (.iconst 2, 1) := by decide +kernel
theorem dL_law_263 : decode cL_law 263 = .ok (.iadd, 1) := by decide +kernel
theorem dL_law_264 : decode cL_law 264 = .ok (.iaload, 1) := by decide +kernel
theorem dL_law_265 : decode cL_law 265 = .ok (.aload_n 0, 1) := by decide +kernel
theorem dL_law_266 : decode cL_law 266 = .ok (.iload 4, 2) := by decide +kernel
theorem dL_law_268 : decode cL_law 268 = .ok (.iconst 3, 1) := by decide +kernel
theorem dL_law_269 : decode cL_law 269 = .ok (.iadd, 1) := by decide +kernel
theorem dL_law_270 : decode cL_law 270 = .ok (.iaload, 1) := by decide +kernel
theorem dL_law_271 : decode cL_law 271 = .ok (.invokevirtual 36, 3) := by decide +kernel
theorem dL_law_274 : decode cL_law 274 = .ok (.if_icmp .eq 887, 3) := by decide +kernel
theorem dL_law_277 : decode cL_law 277 = .ok (.iconst 0, 1) := by decide +kernel
theorem dL_law_278 : decode cL_law 278 = .ok (.ireturn, 1) := by decide +kernel
theorem dL_law_279 : decode cL_law 279 = .ok (.aload_n 1, 1) := by decide +kernel
theorem dL_law_280 : decode cL_law 280 = .ok (.aload_n 0, 1) := by decide +kernel
theorem dL_law_281 : decode cL_law 281 = .ok (.iload 4, 2) := by decide +kernel
theorem dL_law_283 : decode cL_law 283 = .ok (.iconst 1, 1) := by decide +kernel
theorem dL_law_284 : decode cL_law 284 = .ok (.iadd, 1) := by decide +kernel
theorem dL_law_285 : decode cL_law 285 = .ok (.iaload, 1) := by decide +kernel
theorem dL_law_286 : decode cL_law 286 = .ok (.aload_n 0, 1) := by decide +kernel
theorem dL_law_287 : decode cL_law 287 = .ok (.iload 4, 2) := by decide +kernel
theorem dL_law_289 : decode cL_law 289 = .ok (.iconst 2, 1) := by decide +kernel
theorem dL_law_290 : decode cL_law 290 = .ok (.iadd, 1) := by decide +kernel
theorem dL_law_291 : decode cL_law 291 = .ok (.iaload, 1) := by decide +kernel
theorem dL_law_292 : decode cL_law 292 = .ok (.invokevirtual 37, 3) := by decide +kernel
theorem dL_law_295 : decode cL_law 295 = .ok (.aload_n 2, 1) := by decide +kernel
theorem dL_law_296 : decode cL_law 296 = .ok (.aload_n 0, 1) := by decide +kernel
theorem dL_law_297 : decode cL_law 297 = .ok (.iload 4, 2) := by decide +kernel
theorem dL_law_299 : decode cL_law 299 = .ok (.iconst 1, 1) := by decide +kernel
theorem dL_law_300 : decode cL_law 300 = .ok (.iadd, 1) := by decide +kernel
theorem dL_law_301 : decode cL_law 301 = .ok (.iaload, 1) := by decide +kernel
theorem dL_law_302 : decode cL_law 302 = .ok (.aload_n 0, 1) := by decide +kernel
theorem dL_law_303 : decode cL_law 303 = .ok (.iload 4, 2) := by decide +kernel
theorem dL_law_305 : decode cL_law 305 = .ok (.iconst 2, 1) := by decide +kernel
theorem dL_law_306 : decode cL_law 306 = .ok (.iadd, 1) := by decide +kernel
theorem dL_law_307 : decode cL_law 307 = .ok (.iaload, 1) := by decide +kernel
theorem dL_law_308 : decode cL_law 308 = .ok (.invokevirtual 40, 3) := by decide +kernel
theorem dL_law_311 : decode cL_law 311 = .ok (.if_icmp .eq 850, 3) := by decide +kernel
theorem dL_law_314 : decode cL_law 314 = .ok (.iconst 0, 1) := by decide +kernel
theorem dL_law_315 : decode cL_law 315 = .ok (.ireturn, 1) := by decide +kernel
theorem dL_law_316 : decode cL_law 316 = .ok (.aload_n 1, 1) := by decide +kernel
theorem dL_law_317 : decode cL_law 317 = .ok (.aload_n 0, 1) := by decide +kernel
theorem dL_law_318 : decode cL_law 318 = .ok (.iload 4, 2) := by decide +kernel
theorem dL_law_320 : decode cL_law 320 = .ok (.iconst 1, 1) := by decide +kernel
theorem dL_law_321 : decode cL_law 321 = .ok (.iadd, 1) := by decide +kernel
theorem dL_law_322 : decode cL_law 322 = .ok (.iaload, 1) := by decide +kernel
theorem dL_law_323 : decode cL_law 323 = .ok (.invokevirtual 41, 3) := by decide +kernel
theorem dL_law_326 : decode cL_law 326 = .ok (.aload_n 2, 1) := by decide +kernel
theorem dL_law_327 : decode cL_law 327 = .ok (.aload_n 0, 1) := by decide +kernel
theorem dL_law_328 : decode cL_law 328 = .ok (.iload 4, 2) := by decide +kernel
theorem dL_law_330 : decode cL_law 330 = .ok (.iconst 1, 1) := by decide +kernel
theorem dL_law_331 : decode cL_law 331 = .ok (.iadd, 1) := by decide +kernel
theorem dL_law_332 : decode cL_law 332 = .ok (.iaload, 1) := by decide +kernel
theorem dL_law_333 : decode cL_law 333 = .ok (.invokevirtual 44, 3) := by decide +kernel
theorem dL_law_336 : decode cL_law 336 = .ok (.if_icmp .eq 825, 3) := by decide +kernel
theorem dL_law_339 : decode cL_law 339 = .ok (.iconst 0, 1) := by decide +kernel
theorem dL_law_340 : decode cL_law 340 = .ok (.ireturn, 1) := by decide +kernel
theorem dL_law_341 : decode cL_law 341 = .ok (.aload_n 1, 1) := by decide +kernel
theorem dL_law_342 : decode cL_law 342 = .ok (.aload_n 0, 1) := by decide +kernel
theorem dL_law_343 : decode cL_law 343 = .ok (.iload 4, 2) := by decide +kernel
theorem dL_law_345 : decode cL_law 345 = .ok (.iconst 1, 1) := by decide +kernel
theorem dL_law_346 : decode cL_law 346 = .ok (.iadd, 1) := by decide +kernel
theorem dL_law_347 : decode cL_law 347 = .ok (.iaload, 1) := by decide +kernel
theorem dL_law_348 : decode cL_law 348 = .ok (.invokevirtual 45, 3) := by decide +kernel
theorem dL_law_351 : decode cL_law 351 = .ok (.aload_n 2, 1) := by decide +kernel
theorem dL_law_352 : decode cL_law 352 = .ok (.aload_n 0, 1) := by decide +kernel
theorem dL_law_353 : decode cL_law 353 = .ok (.iload 4, 2) := by decide +kernel
theorem dL_law_355 : decode cL_law 355 = .ok (.iconst 1, 1) := by decide +kernel
theorem dL_law_356 : decode cL_law 356 = .ok (.iadd, 1) := by decide +kernel
theorem dL_law_357 : decode cL_law 357 = .ok (.iaload, 1) := by decide +kernel
theorem dL_law_358 : decode cL_law 358 = .ok (.invokevirtual 48, 3) := by decide +kernel
theorem dL_law_361 : decode cL_law 361 = .ok (.if_icmp .eq 800, 3) := by decide +kernel
theorem dL_law_364 : decode cL_law 364 = .ok (.iconst 0, 1) := by decide +kernel
theorem dL_law_365 : decode cL_law 365 = .ok (.ireturn, 1) := by decide +kernel
theorem dL_law_366 : decode cL_law 366 = .ok (.aload_n 1, 1) := by decide +kernel
theorem dL_law_367 : decode cL_law 367 = .ok (.aload_n 0, 1) := by decide +kernel
theorem dL_law_368 : decode cL_law 368 = .ok (.iload 4, 2) := by decide +kernel
theorem dL_law_370 : decode cL_law 370 = .ok (.iconst 1, 1) := by decide +kernel
theorem dL_law_371 : decode cL_law 371 = .ok (.iadd, 1) := by decide +kernel
theorem dL_law_372 : decode cL_law 372 = .ok (.iaload, 1) := by decide +kernel
theorem dL_law_373 : decode cL_law 373 = .ok (.aload_n 0, 1) := by decide +kernel
theorem dL_law_374 : decode cL_law 374 = .ok (.iload 4, 2) := by decide +kernel
theorem dL_law_376 : decode cL_law 376 = .ok (.iconst 2, 1) := by decide +kernel
theorem dL_law_377 : decode cL_law 377 = .ok (.iadd, 1) := by decide +kernel
theorem dL_law_378 : decode cL_law 378 = .ok (.iaload, 1) := by decide +kernel
theorem dL_law_379 : decode cL_law 379 = .ok (.invokevirtual 49, 3) := by decide +kernel
theorem dL_law_382 : decode cL_law 382 = .ok (.aload_n 2, 1) := by decide +kernel
theorem dL_law_383 : decode cL_law 383 = .ok (.aload_n 0, 1) := by decide +kernel
theorem dL_law_384 : decode cL_law 384 = .ok (.iload 4, 2) := by decide +kernel
theorem dL_law_386 : decode cL_law 386 = .ok (.iconst 1, 1) := by decide +kernel
theorem dL_law_387 : decode cL_law 387 = .ok (.iadd, 1) := by decide +kernel
theorem dL_law_388 : decode cL_law 388 = .ok (.iaload, 1) := by decide +kernel
theorem dL_law_389 : decode cL_law 389 = .ok (.aload_n 0, 1) := by decide +kernel
theorem dL_law_390 : decode cL_law 390 = .ok (.iload 4, 2) := by decide +kernel
theorem dL_law_392 : decode cL_law 392 = .ok (.iconst 2, 1) := by decide +kernel
theorem dL_law_393 : decode cL_law 393 = .ok (.iadd, 1) := by decide +kernel
theorem dL_law_394 : decode cL_law 394 = .ok (.iaload, 1) := by decide +kernel
theorem dL_law_395 : decode cL_law 395 = .ok (.invokevirtual 53, 3) := by decide +kernel
theorem dL_law_398 : decode cL_law 398 = .ok (.if_icmp .eq 763, 3) := by decide +kernel
theorem dL_law_401 : decode cL_law 401 = .ok (.iconst 0, 1) := by decide +kernel
theorem dL_law_402 : decode cL_law 402 = .ok (.ireturn, 1) := by decide +kernel
theorem dL_law_403 : decode cL_law 403 = .ok (.aload_n 1, 1) := by decide +kernel
theorem dL_law_404 : decode cL_law 404 = .ok (.aload_n 0, 1) := by decide +kernel
theorem dL_law_405 : decode cL_law 405 = .ok (.iload 4, 2) := by decide +kernel
theorem dL_law_407 : decode cL_law 407 = .ok (.iconst 1, 1) := by decide +kernel
theorem dL_law_408 : decode cL_law 408 = .ok (.iadd, 1) := by decide +kernel
theorem dL_law_409 : decode cL_law 409 = .ok (.iaload, 1) := by decide +kernel
theorem dL_law_410 : decode cL_law 410 = .ok (.aload_n 0, 1) := by decide +kernel
theorem dL_law_411 : decode cL_law 411 = .ok (.iload 4, 2) := by decide +kernel
theorem dL_law_413 : decode cL_law 413 = .ok (.iconst 2, 1) := by decide +kernel
theorem dL_law_414 : decode cL_law 414 = .ok (.iadd, 1) := by decide +kernel
theorem dL_law_415 : decode cL_law 415 = .ok (.iaload, 1) := by decide +kernel
theorem dL_law_416 : decode cL_law 416 = .ok (.invokevirtual 54, 3) := by decide +kernel
theorem dL_law_419 : decode cL_law 419 = .ok (.aload_n 2, 1) := by decide +kernel
theorem dL_law_420 : decode cL_law 420 = .ok (.aload_n 0, 1) := by decide +kernel
theorem dL_law_421 : decode cL_law 421 = .ok (.iload 4, 2) := by decide +kernel
theorem dL_law_423 : decode cL_law 423 = .ok (.iconst 1, 1) := by decide +kernel
theorem dL_law_424 : decode cL_law 424 = .ok (.iadd, 1) := by decide +kernel
theorem dL_law_425 : decode cL_law 425 = .ok (.iaload, 1) := by decide +kernel
theorem dL_law_426 : decode cL_law 426 = .ok (.aload_n 0, 1) := by decide +kernel
theorem dL_law_427 : decode cL_law 427 = .ok (.iload 4, 2) := by decide +kernel
theorem dL_law_429 : decode cL_law 429 = .ok (.iconst 2, 1) := by decide +kernel
theorem dL_law_430 : decode cL_law 430 = .ok (.iadd, 1) := by decide +kernel
theorem dL_law_431 : decode cL_law 431 = .ok (.iaload, 1) := by decide +kernel
theorem dL_law_432 : decode cL_law 432 = .ok (.invokevirtual 57, 3) := by decide +kernel
theorem dL_law_435 : decode cL_law 435 = .ok (.if_icmp .eq 726, 3) := by decide +kernel
theorem dL_law_438 : decode cL_law 438 = .ok (.iconst 0, 1) := by decide +kernel
theorem dL_law_439 : decode cL_law 439 = .ok (.ireturn, 1) := by decide +kernel
theorem dL_law_440 : decode cL_law 440 = .ok (.aload_n 1, 1) := by decide +kernel
theorem dL_law_441 : decode cL_law 441 = .ok (.aload_n 0, 1) := by decide +kernel
theorem dL_law_442 : decode cL_law 442 = .ok (.iload 4, 2) := by decide +kernel
theorem dL_law_444 : decode cL_law 444 = .ok (.iconst 1, 1) := by decide +kernel
theorem dL_law_445 : decode cL_law 445 = .ok (.iadd, 1) := by decide +kernel
theorem dL_law_446 : decode cL_law 446 = .ok (.iaload, 1) := by decide +kernel
theorem dL_law_447 : decode cL_law 447 = .ok (.aload_n 0, 1) := by decide +kernel
theorem dL_law_448 : decode cL_law 448 = .ok (.iload 4, 2) := by decide +kernel
theorem dL_law_450 : decode cL_law 450 = .ok (.iconst 2, 1) := by decide +kernel
theorem dL_law_451 : decode cL_law 451 = .ok (.iadd, 1) := by decide +kernel
theorem dL_law_452 : decode cL_law 452 = .ok (.iaload, 1) := by decide +kernel
theorem dL_law_453 : decode cL_law 453 = .ok (.aload_n 0, 1) := by decide +kernel
theorem dL_law_454 : decode cL_law 454 = .ok (.iload 4, 2) := by decide +kernel
theorem dL_law_456 : decode cL_law 456 = .ok (.iconst 3, 1) := by decide +kernel
theorem dL_law_457 : decode cL_law 457 = .ok (.iadd, 1) := by decide +kernel
theorem dL_law_458 : decode cL_law 458 = .ok (.iaload, 1) := by decide +kernel
theorem dL_law_459 : decode cL_law 459 = .ok (.invokevirtual 58, 3) := by decide +kernel
theorem dL_law_462 : decode cL_law 462 = .ok (.aload_n 2, 1) := by decide +kernel
theorem dL_law_463 : decode cL_law 463 = .ok (.aload_n 0, 1) := by decide +kernel
theorem dL_law_464 : decode cL_law 464 = .ok (.iload 4, 2) := by decide +kernel
theorem dL_law_466 : decode cL_law 466 = .ok (.iconst 1, 1) := by decide +kernel
theorem dL_law_467 : decode cL_law 467 = .ok (.iadd, 1) := by decide +kernel
theorem dL_law_468 : decode cL_law 468 = .ok (.iaload, 1) := by decide +kernel
theorem dL_law_469 : decode cL_law 469 = .ok (.aload_n 0, 1) := by decide +kernel
theorem dL_law_470 : decode cL_law 470 = .ok (.iload 4, 2) := by decide +kernel
theorem dL_law_472 : decode cL_law 472 = .ok (.iconst 2, 1) := by decide +kernel
theorem dL_law_473 : decode cL_law 473 = .ok (.iadd, 1) := by decide +kernel
theorem dL_law_474 : decode cL_law 474 = .ok (.iaload, 1) := by decide +kernel
theorem dL_law_475 : decode cL_law 475 = .ok (.aload_n 0, 1) := by decide +kernel
theorem dL_law_476 : decode cL_law 476 = .ok (.iload 4, 2) := by decide +kernel
theorem dL_law_478 : decode cL_law 478 = .ok (.iconst 3, 1) := by decide +kernel
theorem dL_law_479 : decode cL_law 479 = .ok (.iadd, 1) := by decide +kernel
theorem dL_law_480 : decode cL_law 480 = .ok (.iaload, 1) := by decide +kernel
theorem dL_law_481 : decode cL_law 481 = .ok (.invokevirtual 61, 3) := by decide +kernel
theorem dL_law_484 : decode cL_law 484 = .ok (.if_icmp .eq 677, 3) := by decide +kernel
theorem dL_law_487 : decode cL_law 487 = .ok (.iconst 0, 1) := by decide +kernel
theorem dL_law_488 : decode cL_law 488 = .ok (.ireturn, 1) := by decide +kernel
theorem dL_law_489 : decode cL_law 489 = .ok (.aload_n 1, 1) := by decide +kernel
theorem dL_law_490 : decode cL_law 490 = .ok (.aload_n 0, 1) := by decide +kernel
theorem dL_law_491 : decode cL_law 491 = .ok (.iload 4, 2) := by decide +kernel
theorem dL_law_493 : decode cL_law 493 = .ok (.iconst 1, 1) := by decide +kernel
theorem dL_law_494 : decode cL_law 494 = .ok (.iadd, 1) := by decide +kernel
theorem dL_law_495 : decode cL_law 495 = .ok (.iaload, 1) := by decide +kernel
theorem dL_law_496 : decode cL_law 496 = .ok (.invokevirtual 62, 3) := by decide +kernel
theorem dL_law_499 : decode cL_law 499 = .ok (.aload_n 2, 1) := by decide +kernel
theorem dL_law_500 : decode cL_law 500 = .ok (.aload_n 0, 1) := by decide +kernel
theorem dL_law_501 : decode cL_law 501 = .ok (.iload 4, 2) := by decide +kernel
theorem dL_law_503 : decode cL_law 503 = .ok (.iconst 1, 1) := by decide +kernel
theorem dL_law_504 : decode cL_law 504 = .ok (.iadd, 1) := by decide +kernel
theorem dL_law_505 : decode cL_law 505 = .ok (.iaload, 1) := by decide +kernel
theorem dL_law_506 : decode cL_law 506 = .ok (.invokevirtual 65, 3) := by decide +kernel
theorem dL_law_509 : decode cL_law 509 = .ok (.if_icmp .eq 652, 3) := by decide +kernel
theorem dL_law_512 : decode cL_law 512 = .ok (.iconst 0, 1) := by decide +kernel
theorem dL_law_513 : decode cL_law 513 = .ok (.ireturn, 1) := by decide +kernel
theorem dL_law_514 : decode cL_law 514 = .ok (.aload_n 1, 1) := by decide +kernel
theorem dL_law_515 : decode cL_law 515 = .ok (.aload_n 0, 1) := by decide +kernel
theorem dL_law_516 : decode cL_law 516 = .ok (.iload 4, 2) := by decide +kernel
theorem dL_law_518 : decode cL_law 518 = .ok (.iconst 1, 1) := by decide +kernel
theorem dL_law_519 : decode cL_law 519 = .ok (.iadd, 1) := by decide +kernel
theorem dL_law_520 : decode cL_law 520 = .ok (.iaload, 1) := by decide +kernel
theorem dL_law_521 : decode cL_law 521 = .ok (.invokevirtual 66, 3) := by decide +kernel
theorem dL_law_524 : decode cL_law 524 = .ok (.aload_n 2, 1) := by decide +kernel
theorem dL_law_525 : decode cL_law 525 = .ok (.aload_n 0, 1) := by decide +kernel
theorem dL_law_526 : decode cL_law 526 = .ok (.iload 4, 2) := by decide +kernel
theorem dL_law_528 : decode cL_law 528 = .ok (.iconst 1, 1) := by decide +kernel
theorem dL_law_529 : decode cL_law 529 = .ok (.iadd, 1) := by decide +kernel
theorem dL_law_530 : decode cL_law 530 = .ok (.iaload, 1) := by decide +kernel
theorem dL_law_531 : decode cL_law 531 = .ok (.invokevirtual 69, 3) := by decide +kernel
theorem dL_law_534 : decode cL_law 534 = .ok (.if_icmp .eq 627, 3) := by decide +kernel
theorem dL_law_537 : decode cL_law 537 = .ok (.iconst 0, 1) := by decide +kernel
theorem dL_law_538 : decode cL_law 538 = .ok (.ireturn, 1) := by decide +kernel
theorem dL_law_539 : decode cL_law 539 = .ok (.aload_n 1, 1) := by decide +kernel
theorem dL_law_540 : decode cL_law 540 = .ok (.aload_n 0, 1) := by decide +kernel
theorem dL_law_541 : decode cL_law 541 = .ok (.iload 4, 2) := by decide +kernel
theorem dL_law_543 : decode cL_law 543 = .ok (.iconst 1, 1) := by decide +kernel
theorem dL_law_544 : decode cL_law 544 = .ok (.iadd, 1) := by decide +kernel
theorem dL_law_545 : decode cL_law 545 = .ok (.iaload, 1) := by decide +kernel
theorem dL_law_546 : decode cL_law 546 = .ok (.invokevirtual 70, 3) := by decide +kernel
theorem dL_law_549 : decode cL_law 549 = .ok (.aload_n 2, 1) := by decide +kernel
theorem dL_law_550 : decode cL_law 550 = .ok (.aload_n 0, 1) := by decide +kernel
theorem dL_law_551 : decode cL_law 551 = .ok (.iload 4, 2) := by decide +kernel
theorem dL_law_553 : decode cL_law 553 = .ok (.iconst 1, 1) := by decide +kernel
theorem dL_law_554 : decode cL_law 554 = .ok (.iadd, 1) := by decide +kernel
theorem dL_law_555 : decode cL_law 555 = .ok (.iaload, 1) := by decide +kernel
theorem dL_law_556 : decode cL_law 556 = .ok (.invokevirtual 73, 3) := by decide +kernel
theorem dL_law_559 : decode cL_law 559 = .ok (.if_icmp .eq 602, 3) := by decide +kernel
theorem dL_law_562 : decode cL_law 562 = .ok (.iconst 0, 1) := by decide +kernel
theorem dL_law_563 : decode cL_law 563 = .ok (.ireturn, 1) := by decide +kernel
theorem dL_law_564 : decode cL_law 564 = .ok (.aload_n 1, 1) := by decide +kernel
theorem dL_law_565 : decode cL_law 565 = .ok (.aload_n 0, 1) := by decide +kernel
theorem dL_law_566 : decode cL_law 566 = .ok (.iload 4, 2) := by decide +kernel
theorem dL_law_568 : decode cL_law 568 = .ok (.iconst 1, 1) := by decide +kernel
theorem dL_law_569 : decode cL_law 569 = .ok (.iadd, 1) := by decide +kernel
theorem dL_law_570 : decode cL_law 570 = .ok (.iaload, 1) := by decide +kernel
theorem dL_law_571 : decode cL_law 571 = .ok (.invokevirtual 74, 3) := by decide +kernel
theorem dL_law_574 : decode cL_law 574 = .ok (.aload_n 2, 1) := by decide +kernel
theorem dL_law_575 : decode cL_law 575 = .ok (.aload_n 0, 1) := by decide +kernel
theorem dL_law_576 : decode cL_law 576 = .ok (.iload 4, 2) := by decide +kernel
theorem dL_law_578 : decode cL_law 578 = .ok (.iconst 1, 1) := by decide +kernel
theorem dL_law_579 : decode cL_law 579 = .ok (.iadd, 1) := by decide +kernel
theorem dL_law_580 : decode cL_law 580 = .ok (.iaload, 1) := by decide +kernel
theorem dL_law_581 : decode cL_law 581 = .ok (.invokevirtual 77, 3) := by decide +kernel
theorem dL_law_584 : decode cL_law 584 = .ok (.if_icmp .eq 577, 3) := by decide +kernel
theorem dL_law_587 : decode cL_law 587 = .ok (.iconst 0, 1) := by decide +kernel
theorem dL_law_588 : decode cL_law 588 = .ok (.ireturn, 1) := by decide +kernel
theorem dL_law_589 : decode cL_law 589 = .ok (.aload_n 1, 1) := by decide +kernel
theorem dL_law_590 : decode cL_law 590 = .ok (.aload_n 0, 1) := by decide +kernel
theorem dL_law_591 : decode cL_law 591 = .ok (.iload 4, 2) := by decide +kernel
theorem dL_law_593 : decode cL_law 593 = .ok (.iconst 1, 1) := by decide +kernel
theorem dL_law_594 : decode cL_law 594 = .ok (.iadd, 1) := by decide +kernel
theorem dL_law_595 : decode cL_law 595 = .ok (.iaload, 1) := by decide +kernel
theorem dL_law_596 : decode cL_law 596 = .ok (.aload_n 0, 1) := by decide +kernel
theorem dL_law_597 : decode cL_law 597 = .ok (.iload 4, 2) := by decide +kernel
theorem dL_law_599 : decode cL_law 599 = .ok (.iconst 2, 1) := by decide +kernel
theorem dL_law_600 : decode cL_law 600 = .ok (.iadd, 1) := by decide +kernel
theorem dL_law_601 : decode cL_law 601 = .ok (.iaload, 1) := by decide +kernel
theorem dL_law_602 : decode cL_law 602 = .ok (.aload_n 0, 1) := by decide +kernel
theorem dL_law_603 : decode cL_law 603 = .ok (.iload 4, 2) := by decide +kernel
theorem dL_law_605 : decode cL_law 605 = .ok (.iconst 3, 1) := by decide +kernel
theorem dL_law_606 : decode cL_law 606 = .ok (.iadd, 1) := by decide +kernel
theorem dL_law_607 : decode cL_law 607 = .ok (.iaload, 1) := by decide +kernel
theorem dL_law_608 : decode cL_law 608 = .ok (.invokevirtual 78, 3) := by decide +kernel
theorem dL_law_611 : decode cL_law 611 = .ok (.aload_n 2, 1) := by decide +kernel
theorem dL_law_612 : decode cL_law 612 = .ok (.aload_n 0, 1) := by decide +kernel
theorem dL_law_613 : decode cL_law 613 = .ok (.iload 4, 2) := by decide +kernel
theorem dL_law_615 : decode cL_law 615 = .ok (.iconst 1, 1) := by decide +kernel
theorem dL_law_616 : decode cL_law 616 = .ok (.iadd, 1) := by decide +kernel
theorem dL_law_617 : decode cL_law 617 = .ok (.iaload, 1) := by decide +kernel
theorem dL_law_618 : decode cL_law 618 = .ok (.aload_n 0, 1) := by decide +kernel
theorem dL_law_619 : decode cL_law 619 = .ok (.iload 4, 2) := by decide +kernel
theorem dL_law_621 : decode cL_law 621 = .ok (.iconst 2, 1) := by decide +kernel
theorem dL_law_622 : decode cL_law 622 = .ok (.iadd, 1) := by decide +kernel
theorem dL_law_623 : decode cL_law 623 = .ok (.iaload, 1) := by decide +kernel
theorem dL_law_624 : decode cL_law 624 = .ok (.aload_n 0, 1) := by decide +kernel
theorem dL_law_625 : decode cL_law 625 = .ok (.iload 4, 2) := by decide +kernel
theorem dL_law_627 : decode cL_law 627 = .ok (.iconst 3, 1) := by decide +kernel
theorem dL_law_628 : decode cL_law 628 = .ok (.iadd, 1) := by decide +kernel
theorem dL_law_629 : decode cL_law 629 = .ok (.iaload, 1) := by decide +kernel
theorem dL_law_630 : decode cL_law 630 = .ok (.invokevirtual 81, 3) := by decide +kernel
theorem dL_law_633 : decode cL_law 633 = .ok (.if_icmp .eq 528, 3) := by decide +kernel
theorem dL_law_636 : decode cL_law 636 = .ok (.iconst 0, 1) := by decide +kernel
theorem dL_law_637 : decode cL_law 637 = .ok (.ireturn, 1) := by decide +kernel
theorem dL_law_638 : decode cL_law 638 = .ok (.aload_n 1, 1) := by decide +kernel
theorem dL_law_639 : decode cL_law 639 = .ok (.aload_n 0, 1) := by decide +kernel
theorem dL_law_640 : decode cL_law 640 = .ok (.iload 4, 2) := by decide +kernel
theorem dL_law_642 : decode cL_law 642 = .ok (.iconst 1, 1) := by decide +kernel
theorem dL_law_643 : decode cL_law 643 = .ok (.iadd, 1) := by decide +kernel
theorem dL_law_644 : decode cL_law 644 = .ok (.iaload, 1) := by decide +kernel
theorem dL_law_645 : decode cL_law 645 = .ok (.aload_n 3, 1) := by decide +kernel
theorem dL_law_646 : decode cL_law 646 = .ok (.invokestatic 82, 3) := by decide +kernel
theorem dL_law_649 : decode cL_law 649 = .ok (.istore 5, 2) := by decide +kernel
theorem dL_law_651 : decode cL_law 651 = .ok (.aload_n 2, 1) := by decide +kernel
theorem dL_law_652 : decode cL_law 652 = .ok (.aload_n 0, 1) := by decide +kernel
theorem dL_law_653 : decode cL_law 653 = .ok (.iload 4, 2) := by decide +kernel
theorem dL_law_655 : decode cL_law 655 = .ok (.iconst 1, 1) := by decide +kernel
theorem dL_law_656 : decode cL_law 656 = .ok (.iadd, 1) := by decide +kernel
theorem dL_law_657 : decode cL_law 657 = .ok (.iaload, 1) := by decide +kernel
theorem dL_law_658 : decode cL_law 658 = .ok (.invokevirtual 87, 3) := by decide +kernel
theorem dL_law_661 : decode cL_law 661 = .ok (.istore 6, 2) := by decide +kernel
theorem dL_law_663 : decode cL_law 663 = .ok (.aload_n 2, 1) := by decide +kernel
theorem dL_law_664 : decode cL_law 664 = .ok (.invokevirtual 88, 3) := by decide +kernel
theorem dL_law_667 : decode cL_law 667 = .ok (.iload 5, 2) := by decide +kernel
theorem dL_law_669 : decode cL_law 669 = .ok (.if_icmp .eq 5, 3) := by decide +kernel
theorem dL_law_672 : decode cL_law 672 = .ok (.iconst 0, 1) := by decide +kernel
theorem dL_law_673 : decode cL_law 673 = .ok (.ireturn, 1) := by decide +kernel
theorem dL_law_674 : decode cL_law 674 = .ok (.iload 5, 2) := by decide +kernel
theorem dL_law_676 : decode cL_law 676 = .ok (.ifCond .ne 15, 3) := by decide +kernel
theorem dL_law_679 : decode cL_law 679 = .ok (.aload_n 3, 1) := by decide +kernel
theorem dL_law_680 : decode cL_law 680 = .ok (.iconst 0, 1) := by decide +kernel
theorem dL_law_681 : decode cL_law 681 = .ok (.laload, 1) := by decide +kernel
theorem dL_law_682 : decode cL_law 682 = .ok (.iload 6, 2) := by decide +kernel
theorem dL_law_684 : decode cL_law 684 = .ok (.i2l, 1) := by decide +kernel
theorem dL_law_685 : decode cL_law 685 = .ok (.lcmp, 1) := by decide +kernel
theorem dL_law_686 : decode cL_law 686 = .ok (.ifCond .eq 5, 3) := by decide +kernel
theorem dL_law_689 : decode cL_law 689 = .ok (.iconst 0, 1) := by decide +kernel
theorem dL_law_690 : decode cL_law 690 = .ok (.ireturn, 1) := by decide +kernel
theorem dL_law_691 : decode cL_law 691 = .ok (.goto 470, 3) := by decide +kernel
theorem dL_law_694 : decode cL_law 694 = .ok (.aload_n 1, 1) := by decide +kernel
theorem dL_law_695 : decode cL_law 695 = .ok (.aload_n 0, 1) := by decide +kernel
theorem dL_law_696 : decode cL_law 696 = .ok (.iload 4, 2) := by decide +kernel
theorem dL_law_698 : decode cL_law 698 = .ok (.iconst 1, 1) := by decide +kernel
theorem dL_law_699 : decode cL_law 699 = .ok (.iadd, 1) := by decide +kernel
theorem dL_law_700 : decode cL_law 700 = .ok (.iaload, 1) := by decide +kernel
theorem dL_law_701 : decode cL_law 701 = .ok (.aload_n 0, 1) := by decide +kernel
theorem dL_law_702 : decode cL_law 702 = .ok (.iload 4, 2) := by decide +kernel
theorem dL_law_704 : decode cL_law 704 = .ok (.iconst 2, 1) := by decide +kernel
theorem dL_law_705 : decode cL_law 705 = .ok (.iadd, 1) := by decide +kernel
theorem dL_law_706 : decode cL_law 706 = .ok (.iaload, 1) := by decide +kernel
theorem dL_law_707 : decode cL_law 707 = .ok (.ifCond .eq 7, 3) := by decide +kernel
theorem dL_law_710 : decode cL_law 710 = .ok (.iconst 1, 1) := by decide +kernel
theorem dL_law_711 : decode cL_law 711 = .ok (.goto 4, 3) := by decide +kernel
theorem dL_law_714 : decode cL_law 714 = .ok (.iconst 0, 1) := by decide +kernel
theorem dL_law_715 : decode cL_law 715 = .ok (.invokevirtual 92, 3) := by decide +kernel
theorem dL_law_718 : decode cL_law 718 = .ok (.aload_n 2, 1) := by decide +kernel
theorem dL_law_719 : decode cL_law 719 = .ok (.aload_n 0, 1) := by decide +kernel
theorem dL_law_720 : decode cL_law 720 = .ok (.iload 4, 2) := by decide +kernel
theorem dL_law_722 : decode cL_law 722 = .ok (.iconst 1, 1) := by decide +kernel
theorem dL_law_723 : decode cL_law 723 = .ok (.iadd, 1) := by decide +kernel
theorem dL_law_724 : decode cL_law 724 = .ok (.iaload, 1) := by decide +kernel
theorem dL_law_725 : decode cL_law 725 = .ok (.aload_n 0, 1) := by decide +kernel
theorem dL_law_726 : decode cL_law 726 = .ok (.iload 4, 2) := by decide +kernel
theorem dL_law_728 : decode cL_law 728 = .ok (.iconst 2, 1) := by decide +kernel
theorem dL_law_729 : decode cL_law 729 = .ok (.iadd, 1) := by decide +kernel
theorem dL_law_730 : decode cL_law 730 = .ok (.iaload, 1) := by decide +kernel
theorem dL_law_731 : decode cL_law 731 = .ok (.ifCond .eq 7, 3) := by decide +kernel
theorem dL_law_734 : decode cL_law 734 = .ok (.iconst 1, 1) := by decide +kernel
theorem dL_law_735 : decode cL_law 735 = .ok (.goto 4, 3) := by decide +kernel
theorem dL_law_738 : decode cL_law 738 = .ok (.iconst 0, 1) := by decide +kernel
theorem dL_law_739 : decode cL_law 739 = .ok (.invokevirtual 96, 3) := by decide +kernel
theorem dL_law_742 : decode cL_law 742 = .ok (.if_icmp .eq 419, 3) := by decide +kernel
theorem dL_law_745 : decode cL_law 745 = .ok (.iconst 0, 1) := by decide +kernel
theorem dL_law_746 : decode cL_law 746 = .ok (.ireturn, 1) := by decide +kernel
theorem dL_law_747 : decode cL_law 747 = .ok (.aload_n 1, 1) := by decide +kernel
theorem dL_law_748 : decode cL_law 748 = .ok (.aload_n 0, 1) := by decide +kernel
theorem dL_law_749 : decode cL_law 749 = .ok (.iload 4, 2) := by decide +kernel
theorem dL_law_751 : decode cL_law 751 = .ok (.iconst 1, 1) := by decide +kernel
theorem dL_law_752 : decode cL_law 752 = .ok (.iadd, 1) := by decide +kernel
theorem dL_law_753 : decode cL_law 753 = .ok (.iaload, 1) := by decide +kernel
theorem dL_law_754 : decode cL_law 754 = .ok (.i2l, 1) := by decide +kernel
theorem dL_law_755 : decode cL_law 755 = .ok (.bipush 32, 2) := by decide +kernel
theorem dL_law_757 : decode cL_law 757 = .ok (.lshl, 1) := by decide +kernel
theorem dL_law_758 : decode cL_law 758 = .ok (.aload_n 0, 1) := by decide +kernel
theorem dL_law_759 : decode cL_law 759 = .ok (.iload 4, 2) := by decide +kernel
theorem dL_law_761 : decode cL_law 761 = .ok (.iconst 2, 1) := by decide +kernel
theorem dL_law_762 : decode cL_law 762 = .ok (.iadd, 1) := by decide +kernel
theorem dL_law_763 : decode cL_law 763 = .ok (.iaload, 1) := by decide +kernel
theorem dL_law_764 : decode cL_law 764 = .ok (.i2l, 1) := by decide +kernel
theorem dL_law_765 : decode cL_law 765 = .ok (.ldc2_w 97, 3) := by decide +kernel
theorem dL_law_768 : decode cL_law 768 = .ok (.land, 1) := by decide +kernel
theorem dL_law_769 : decode cL_law 769 = .ok (.lor, 1) := by decide +kernel
theorem dL_law_770 : decode cL_law 770 = .ok (.aload_n 0, 1) := by decide +kernel
theorem dL_law_771 : decode cL_law 771 = .ok (.iload 4, 2) := by decide +kernel
theorem dL_law_773 : decode cL_law 773 = .ok (.iconst 3, 1) := by decide +kernel
theorem dL_law_774 : decode cL_law 774 = .ok (.iadd, 1) := by decide +kernel
theorem dL_law_775 : decode cL_law 775 = .ok (.iaload, 1) := by decide +kernel
theorem dL_law_776 : decode cL_law 776 = .ok (.i2l, 1) := by decide +kernel
theorem dL_law_777 : decode cL_law 777 = .ok (.bipush 32, 2) := by decide +kernel
theorem dL_law_779 : decode cL_law 779 = .ok (.lshl, 1) := by decide +kernel
theorem dL_law_780 : decode cL_law 780 = .ok (.aload_n 0, 1) := by decide +kernel
theorem dL_law_781 : decode cL_law 781 = .ok (.iload 4, 2) := by decide +kernel
theorem dL_law_783 : decode cL_law 783 = .ok (.iconst 4, 1) := by decide +kernel
theorem dL_law_784 : decode cL_law 784 = .ok (.iadd, 1) := by decide +kernel
theorem dL_law_785 : decode cL_law 785 = .ok (.iaload, 1) := by decide +kernel
theorem dL_law_786 : decode cL_law 786 = .ok (.i2l, 1) := by decide +kernel
theorem dL_law_787 : decode cL_law 787 = .ok (.ldc2_w 97, 3) := by decide +kernel
theorem dL_law_790 : decode cL_law 790 = .ok (.land, 1) := by decide +kernel
theorem dL_law_791 : decode cL_law 791 = .ok (.lor, 1) := by decide +kernel
theorem dL_law_792 : decode cL_law 792 = .ok (.aload_n 0, 1) := by decide +kernel
theorem dL_law_793 : decode cL_law 793 = .ok (.iload 4, 2) := by decide +kernel
theorem dL_law_795 : decode cL_law 795 = .ok (.iconst 5, 1) := by decide +kernel
theorem dL_law_796 : decode cL_law 796 = .ok (.iadd, 1) := by decide +kernel
theorem dL_law_797 : decode cL_law 797 = .ok (.iaload, 1) := by decide +kernel
theorem dL_law_798 : decode cL_law 798 = .ok (.i2l, 1) := by decide +kernel
theorem dL_law_799 : decode cL_law 799 = .ok (.bipush 32, 2) := by decide +kernel
theorem dL_law_801 : decode cL_law 801 = .ok (.lshl, 1) := by decide +kernel
theorem dL_law_802 : decode cL_law 802 = .ok (.aload_n 0, 1) := by decide +kernel
theorem dL_law_803 : decode cL_law 803 = .ok (.iload 4, 2) := by decide +kernel
theorem dL_law_805 : decode cL_law 805 = .ok (.bipush 6, 2) := by decide +kernel
theorem dL_law_807 : decode cL_law 807 = .ok (.iadd, 1) := by decide +kernel
theorem dL_law_808 : decode cL_law 808 = .ok (.iaload, 1) := by decide +kernel
theorem dL_law_809 : decode cL_law 809 = .ok (.i2l, 1) := by decide +kernel
theorem dL_law_810 : decode cL_law 810 = .ok (.ldc2_w 97, 3) := by decide +kernel
theorem dL_law_813 : decode cL_law 813 = .ok (.land, 1) := by decide +kernel
theorem dL_law_814 : decode cL_law 814 = .ok (.lor, 1) := by decide +kernel
theorem dL_law_815 : decode cL_law 815 = .ok (.invokevirtual 99, 3) := by decide +kernel
theorem dL_law_818 : decode cL_law 818 = .ok (.aload_n 2, 1) := by decide +kernel
theorem dL_law_819 : decode cL_law 819 = .ok (.aload_n 0, 1) := by decide +kernel
theorem dL_law_820 : decode cL_law 820 = .ok (.iload 4, 2) := by decide +kernel
theorem dL_law_822 : decode cL_law 822 = .ok (.iconst 1, 1) := by decide +kernel
theorem dL_law_823 : decode cL_law 823 = .ok (.iadd, 1) := by decide +kernel
theorem dL_law_824 : decode cL_law 824 = .ok (.iaload, 1) := by decide +kernel
theorem dL_law_825 : decode cL_law 825 = .ok (.i2l, 1) := by decide +kernel
theorem dL_law_826 : decode cL_law 826 = .ok (.bipush 32, 2) := by decide +kernel
theorem dL_law_828 : decode cL_law 828 = .ok (.lshl, 1) := by decide +kernel
theorem dL_law_829 : decode cL_law 829 = .ok (.aload_n 0, 1) := by decide +kernel
theorem dL_law_830 : decode cL_law 830 = .ok (.iload 4, 2) := by decide +kernel
theorem dL_law_832 : decode cL_law 832 = .ok (.iconst 2, 1) := by decide +kernel
theorem dL_law_833 : decode cL_law 833 = .ok (.iadd, 1) := by decide +kernel
theorem dL_law_834 : decode cL_law 834 = .ok (.iaload, 1) := by decide +kernel
theorem dL_law_835 : decode cL_law 835 = .ok (.i2l, 1) := by decide +kernel
theorem dL_law_836 : decode cL_law 836 = .ok (.ldc2_w 97, 3) := by decide +kernel
theorem dL_law_839 : decode cL_law 839 = .ok (.land, 1) := by decide +kernel
theorem dL_law_840 : decode cL_law 840 = .ok (.lor, 1) := by decide +kernel
theorem dL_law_841 : decode cL_law 841 = .ok (.aload_n 0, 1) := by decide +kernel
theorem dL_law_842 : decode cL_law 842 = .ok (.iload 4, 2) := by decide +kernel
theorem dL_law_844 : decode cL_law 844 = .ok (.iconst 3, 1) := by decide +kernel
theorem dL_law_845 : decode cL_law 845 = .ok (.iadd, 1) := by decide +kernel
theorem dL_law_846 : decode cL_law 846 = .ok (.iaload, 1) := by decide +kernel
theorem dL_law_847 : decode cL_law 847 = .ok (.i2l, 1) := by decide +kernel
theorem dL_law_848 : decode cL_law 848 = .ok (.bipush 32, 2) := by decide +kernel
theorem dL_law_850 : decode cL_law 850 = .ok (.lshl, 1) := by decide +kernel
theorem dL_law_851 : decode cL_law 851 = .ok (.aload_n 0, 1) := by decide +kernel
theorem dL_law_852 : decode cL_law 852 = .ok (.iload 4, 2) := by decide +kernel
theorem dL_law_854 : decode cL_law 854 = .ok (.iconst 4, 1) := by decide +kernel
theorem dL_law_855 : decode cL_law 855 = .ok (.iadd, 1) := by decide +kernel
theorem dL_law_856 : decode cL_law 856 = .ok (.iaload, 1) := by decide +kernel
theorem dL_law_857 : decode cL_law 857 = .ok (.i2l, 1) := by decide +kernel
theorem dL_law_858 : decode cL_law 858 = .ok (.ldc2_w 97, 3) := by decide +kernel
theorem dL_law_861 : decode cL_law 861 = .ok (.land, 1) := by decide +kernel
theorem dL_law_862 : decode cL_law 862 = .ok (.lor, 1) := by decide +kernel
theorem dL_law_863 : decode cL_law 863 = .ok (.aload_n 0, 1) := by decide +kernel
theorem dL_law_864 : decode cL_law 864 = .ok (.iload 4, 2) := by decide +kernel
theorem dL_law_866 : decode cL_law 866 = .ok (.iconst 5, 1) := by decide +kernel
theorem dL_law_867 : decode cL_law 867 = .ok (.iadd, 1) := by decide +kernel
theorem dL_law_868 : decode cL_law 868 = .ok (.iaload, 1) := by decide +kernel
theorem dL_law_869 : decode cL_law 869 = .ok (.i2l, 1) := by decide +kernel
theorem dL_law_870 : decode cL_law 870 = .ok (.bipush 32, 2) := by decide +kernel
theorem dL_law_872 : decode cL_law 872 = .ok (.lshl, 1) := by decide +kernel
theorem dL_law_873 : decode cL_law 873 = .ok (.aload_n 0, 1) := by decide +kernel
theorem dL_law_874 : decode cL_law 874 = .ok (.iload 4, 2) := by decide +kernel
theorem dL_law_876 : decode cL_law 876 = .ok (.bipush 6, 2) := by decide +kernel
theorem dL_law_878 : decode cL_law 878 = .ok (.iadd, 1) := by decide +kernel
theorem dL_law_879 : decode cL_law 879 = .ok (.iaload, 1) := by decide +kernel
theorem dL_law_880 : decode cL_law 880 = .ok (.i2l, 1) := by decide +kernel
theorem dL_law_881 : decode cL_law 881 = .ok (.ldc2_w 97, 3) := by decide +kernel
theorem dL_law_884 : decode cL_law 884 = .ok (.land, 1) := by decide +kernel
theorem dL_law_885 : decode cL_law 885 = .ok (.lor, 1) := by decide +kernel
theorem dL_law_886 : decode cL_law 886 = .ok (.invokevirtual 103, 3) := by decide +kernel
theorem dL_law_889 : decode cL_law 889 = .ok (.if_icmp .eq 272, 3) := by decide +kernel
theorem dL_law_892 : decode cL_law 892 = .ok (.iconst 0, 1) := by decide +kernel
theorem dL_law_893 : decode cL_law 893 = .ok (.ireturn, 1) := by decide +kernel
theorem dL_law_894 : decode cL_law 894 = .ok (.aload_n 1, 1) := by decide +kernel
theorem dL_law_895 : decode cL_law 895 = .ok (.invokevirtual 104, 3) := by decide +kernel
theorem dL_law_898 : decode cL_law 898 = .ok (.aload_n 2, 1) := by decide +kernel
theorem dL_law_899 : decode cL_law 899 = .ok (.invokevirtual 107, 3) := by decide +kernel
theorem dL_law_902 : decode cL_law 902 = .ok (.if_icmp .eq 259, 3) := by decide +kernel
theorem dL_law_905 : decode cL_law 905 = .ok (.iconst 0, 1) := by decide +kernel
theorem dL_law_906 : decode cL_law 906 = .ok (.ireturn, 1) := by decide +kernel
theorem dL_law_907 : decode cL_law 907 = .ok (.aload_n 1, 1) := by decide +kernel
theorem dL_law_908 : decode cL_law 908 = .ok (.aload_n 0, 1) := by decide +kernel
theorem dL_law_909 : decode cL_law 909 = .ok (.iload 4, 2) := by decide +kernel
theorem dL_law_911 : decode cL_law 911 = .ok (.iconst 1, 1) := by decide +kernel
theorem dL_law_912 : decode cL_law 912 = .ok (.iadd, 1) := by decide +kernel
theorem dL_law_913 : decode cL_law 913 = .ok (.iaload, 1) := by decide +kernel
theorem dL_law_914 : decode cL_law 914 = .ok (.invokevirtual 108, 3) := by decide +kernel
theorem dL_law_917 : decode cL_law 917 = .ok (.aload_n 2, 1) := by decide +kernel
theorem dL_law_918 : decode cL_law 918 = .ok (.aload_n 0, 1) := by decide +kernel
theorem dL_law_919 : decode cL_law 919 = .ok (.iload 4, 2) := by decide +kernel
theorem dL_law_921 : decode cL_law 921 = .ok (.iconst 1, 1) := by decide +kernel
theorem dL_law_922 : decode cL_law 922 = .ok (.iadd, 1) := by decide +kernel
theorem dL_law_923 : decode cL_law 923 = .ok (.iaload, 1) := by decide +kernel
theorem dL_law_924 : decode cL_law 924 = .ok (.invokevirtual 111, 3) := by decide +kernel
theorem dL_law_927 : decode cL_law 927 = .ok (.if_icmp .eq 234, 3) := by decide +kernel
theorem dL_law_930 : decode cL_law 930 = .ok (.iconst 0, 1) := by decide +kernel
theorem dL_law_931 : decode cL_law 931 = .ok (.ireturn, 1) := by decide +kernel
theorem dL_law_932 : decode cL_law 932 = .ok (.aload_n 1, 1) := by decide +kernel
theorem dL_law_933 : decode cL_law 933 = .ok (.aload_n 0, 1) := by decide +kernel
theorem dL_law_934 : decode cL_law 934 = .ok (.iload 4, 2) := by decide +kernel
theorem dL_law_936 : decode cL_law 936 = .ok (.iconst 1, 1) := by decide +kernel
theorem dL_law_937 : decode cL_law 937 = .ok (.iadd, 1) := by decide +kernel
theorem dL_law_938 : decode cL_law 938 = .ok (.iaload, 1) := by decide +kernel
theorem dL_law_939 : decode cL_law 939 = .ok (.aload_n 0, 1) := by decide +kernel
theorem dL_law_940 : decode cL_law 940 = .ok (.iload 4, 2) := by decide +kernel
theorem dL_law_942 : decode cL_law 942 = .ok (.iconst 2, 1) := by decide +kernel
theorem dL_law_943 : decode cL_law 943 = .ok (.iadd, 1) := by decide +kernel
theorem dL_law_944 : decode cL_law 944 = .ok (.iaload, 1) := by decide +kernel
theorem dL_law_945 : decode cL_law 945 = .ok (.invokevirtual 112, 3) := by decide +kernel
theorem dL_law_948 : decode cL_law 948 = .ok (.aload_n 2, 1) := by decide +kernel
theorem dL_law_949 : decode cL_law 949 = .ok (.aload_n 0, 1) := by decide +kernel
theorem dL_law_950 : decode cL_law 950 = .ok (.iload 4, 2) := by decide +kernel
theorem dL_law_952 : decode cL_law 952 = .ok (.iconst 1, 1) := by decide +kernel
theorem dL_law_953 : decode cL_law 953 = .ok (.iadd, 1) := by decide +kernel
theorem dL_law_954 : decode cL_law 954 = .ok (.iaload, 1) := by decide +kernel
theorem dL_law_955 : decode cL_law 955 = .ok (.aload_n 0, 1) := by decide +kernel
theorem dL_law_956 : decode cL_law 956 = .ok (.iload 4, 2) := by decide +kernel
theorem dL_law_958 : decode cL_law 958 = .ok (.iconst 2, 1) := by decide +kernel
theorem dL_law_959 : decode cL_law 959 = .ok (.iadd, 1) := by decide +kernel
theorem dL_law_960 : decode cL_law 960 = .ok (.iaload, 1) := by decide +kernel
theorem dL_law_961 : decode cL_law 961 = .ok (.invokevirtual 115, 3) := by decide +kernel
theorem dL_law_964 : decode cL_law 964 = .ok (.if_icmp .eq 197, 3) := by decide +kernel
theorem dL_law_967 : decode cL_law 967 = .ok (.iconst 0, 1) := by decide +kernel
theorem dL_law_968 : decode cL_law 968 = .ok (.ireturn, 1) := by decide +kernel
theorem dL_law_969 : decode cL_law 969 = .ok (.aload_n 1, 1) := by decide +kernel
theorem dL_law_970 : decode cL_law 970 = .ok (.invokevirtual 116, 3) := by decide +kernel
theorem dL_law_973 : decode cL_law 973 = .ok (.aload_n 2, 1) := by decide +kernel
theorem dL_law_974 : decode cL_law 974 = .ok (.invokevirtual 119, 3) := by decide +kernel
theorem dL_law_977 : decode cL_law 977 = .ok (.if_icmp .eq 184, 3) := by decide +kernel
theorem dL_law_980 : decode cL_law 980 = .ok (.iconst 0, 1) := by decide +kernel
theorem dL_law_981 : decode cL_law 981 = .ok (.ireturn, 1) := by decide +kernel
theorem dL_law_982 : decode cL_law 982 = .ok (.aload_n 1, 1) := by decide +kernel
theorem dL_law_983 : decode cL_law 983 = .ok (.aload_n 0, 1) := by decide +kernel
theorem dL_law_984 : decode cL_law 984 = .ok (.iload 4, 2) := by decide +kernel
theorem dL_law_986 : decode cL_law 986 = .ok (.iconst 1, 1) := by decide +kernel
theorem dL_law_987 : decode cL_law 987 = .ok (.iadd, 1) := by decide +kernel
theorem dL_law_988 : decode cL_law 988 = .ok (.iaload, 1) := by decide +kernel
theorem dL_law_989 : decode cL_law 989 = .ok (.aload_n 0, 1) := by decide +kernel
theorem dL_law_990 : decode cL_law 990 = .ok (.iload 4, 2) := by decide +kernel
theorem dL_law_992 : decode cL_law 992 = .ok (.iconst 2, 1) := by decide +kernel
theorem dL_law_993 : decode cL_law 993 = .ok (.iadd, 1) := by decide +kernel
theorem dL_law_994 : decode cL_law 994 = .ok (.iaload, 1) := by decide +kernel
theorem dL_law_995 : decode cL_law 995 = .ok (.aload_n 0, 1) := by decide +kernel
theorem dL_law_996 : decode cL_law 996 = .ok (.iload 4, 2) := by decide +kernel
theorem dL_law_998 : decode cL_law 998 = .ok (.iconst 3, 1) := by decide +kernel
theorem dL_law_999 : decode cL_law 999 = .ok (.iadd, 1) := by decide +kernel
theorem dL_law_1000 : decode cL_law 1000 = .ok (.iaload, 1) := by decide +kernel
theorem dL_law_1001 : decode cL_law 1001 = .ok (.invokevirtual 120, 3) := by decide +kernel
theorem dL_law_1004 : decode cL_law 1004 = .ok (.aload_n 2, 1) := by decide +kernel
theorem dL_law_1005 : decode cL_law 1005 = .ok (.aload_n 0, 1) := by decide +kernel
theorem dL_law_1006 : decode cL_law 1006 = .ok (.iload 4, 2) := by decide +kernel
theorem dL_law_1008 : decode cL_law 1008 = .ok (.iconst 1, 1) := by decide +kernel
theorem dL_law_1009 : decode cL_law 1009 = .ok (.iadd, 1) := by decide +kernel
theorem dL_law_1010 : decode cL_law 1010 = .ok (.iaload, 1) := by decide +kernel
theorem dL_law_1011 : decode cL_law 1011 = .ok (.aload_n 0, 1) := by decide +kernel
theorem dL_law_1012 : decode cL_law 1012 = .ok (.iload 4, 2) := by decide +kernel
theorem dL_law_1014 : decode cL_law 1014 = .ok (.iconst 2, 1) := by decide +kernel
theorem dL_law_1015 : decode cL_law 1015 = .ok (.iadd, 1) := by decide +kernel
theorem dL_law_1016 : decode cL_law 1016 = .ok (.iaload, 1) := by decide +kernel
theorem dL_law_1017 : decode cL_law 1017 = .ok (.aload_n 0, 1) := by decide +kernel
theorem dL_law_1018 : decode cL_law 1018 = .ok (.iload 4, 2) := by decide +kernel
theorem dL_law_1020 : decode cL_law 1020 = .ok (.iconst 3, 1) := by decide +kernel
theorem dL_law_1021 : decode cL_law 1021 = .ok (.iadd, 1) := by decide +kernel
theorem dL_law_1022 : decode cL_law 1022 = .ok (.iaload, 1) := by decide +kernel
theorem dL_law_1023 : decode cL_law 1023 = .ok (.invokevirtual 123, 3) := by decide +kernel
theorem dL_law_1026 : decode cL_law 1026 = .ok (.if_icmp .eq 135, 3) := by decide +kernel
theorem dL_law_1029 : decode cL_law 1029 = .ok (.iconst 0, 1) := by decide +kernel
theorem dL_law_1030 : decode cL_law 1030 = .ok (.ireturn, 1) := by decide +kernel
theorem dL_law_1031 : decode cL_law 1031 = .ok (.aload_n 1, 1) := by decide +kernel
theorem dL_law_1032 : decode cL_law 1032 = .ok (.aload_n 0, 1) := by decide +kernel
theorem dL_law_1033 : decode cL_law 1033 = .ok (.iload 4, 2) := by decide +kernel
theorem dL_law_1035 : decode cL_law 1035 = .ok (.iconst 1, 1) := by decide +kernel
theorem dL_law_1036 : decode cL_law 1036 = .ok (.iadd, 1) := by decide +kernel
theorem dL_law_1037 : decode cL_law 1037 = .ok (.iaload, 1) := by decide +kernel
theorem dL_law_1038 : decode cL_law 1038 = .ok (.aload_n 0, 1) := by decide +kernel
theorem dL_law_1039 : decode cL_law 1039 = .ok (.iload 4, 2) := by decide +kernel
theorem dL_law_1041 : decode cL_law 1041 = .ok (.iconst 2, 1) := by decide +kernel
theorem dL_law_1042 : decode cL_law 1042 = .ok (.iadd, 1) := by decide +kernel
theorem dL_law_1043 : decode cL_law 1043 = .ok (.iaload, 1) := by decide +kernel
theorem dL_law_1044 : decode cL_law 1044 = .ok (.invokevirtual 124, 3) := by decide +kernel
theorem dL_law_1047 : decode cL_law 1047 = .ok (.aload_n 2, 1) := by decide +kernel
theorem dL_law_1048 : decode cL_law 1048 = .ok (.aload_n 0, 1) := by decide +kernel
theorem dL_law_1049 : decode cL_law 1049 = .ok (.iload 4, 2) := by decide +kernel
theorem dL_law_1051 : decode cL_law 1051 = .ok (.iconst 1, 1) := by decide +kernel
theorem dL_law_1052 : decode cL_law 1052 = .ok (.iadd, 1) := by decide +kernel
theorem dL_law_1053 : decode cL_law 1053 = .ok (.iaload, 1) := by decide +kernel
theorem dL_law_1054 : decode cL_law 1054 = .ok (.aload_n 0, 1) := by decide +kernel
theorem dL_law_1055 : decode cL_law 1055 = .ok (.iload 4, 2) := by decide +kernel
theorem dL_law_1057 : decode cL_law 1057 = .ok (.iconst 2, 1) := by decide +kernel
theorem dL_law_1058 : decode cL_law 1058 = .ok (.iadd, 1) := by decide +kernel
theorem dL_law_1059 : decode cL_law 1059 = .ok (.iaload, 1) := by decide +kernel
theorem dL_law_1060 : decode cL_law 1060 = .ok (.invokevirtual 127, 3) := by decide +kernel
theorem dL_law_1063 : decode cL_law 1063 = .ok (.if_icmp .eq 98, 3) := by decide +kernel
theorem dL_law_1066 : decode cL_law 1066 = .ok (.iconst 0, 1) := by decide +kernel
theorem dL_law_1067 : decode cL_law 1067 = .ok (.ireturn, 1) := by decide +kernel
theorem dL_law_1068 : decode cL_law 1068 = .ok (.aload_n 1, 1) := by decide +kernel
theorem dL_law_1069 : decode cL_law 1069 = .ok (.aload_n 0, 1) := by decide +kernel
theorem dL_law_1070 : decode cL_law 1070 = .ok (.iload 4, 2) := by decide +kernel
theorem dL_law_1072 : decode cL_law 1072 = .ok (.iconst 1, 1) := by decide +kernel
theorem dL_law_1073 : decode cL_law 1073 = .ok (.iadd, 1) := by decide +kernel
theorem dL_law_1074 : decode cL_law 1074 = .ok (.iaload, 1) := by decide +kernel
theorem dL_law_1075 : decode cL_law 1075 = .ok (.invokevirtual 128, 3) := by decide +kernel
theorem dL_law_1078 : decode cL_law 1078 = .ok (.aload_n 2, 1) := by decide +kernel
theorem dL_law_1079 : decode cL_law 1079 = .ok (.aload_n 0, 1) := by decide +kernel
theorem dL_law_1080 : decode cL_law 1080 = .ok (.iload 4, 2) := by decide +kernel
theorem dL_law_1082 : decode cL_law 1082 = .ok (.iconst 1, 1) := by decide +kernel
theorem dL_law_1083 : decode cL_law 1083 = .ok (.iadd, 1) := by decide +kernel
theorem dL_law_1084 : decode cL_law 1084 = .ok (.iaload, 1) := by decide +kernel
theorem dL_law_1085 : decode cL_law 1085 = .ok (.invokevirtual 131, 3) := by decide +kernel
theorem dL_law_1088 : decode cL_law 1088 = .ok (.if_icmp .eq 73, 3) := by decide +kernel
theorem dL_law_1091 : decode cL_law 1091 = .ok (.iconst 0, 1) := by decide +kernel
theorem dL_law_1092 : decode cL_law 1092 = .ok (.ireturn, 1) := by decide +kernel
theorem dL_law_1093 : decode cL_law 1093 = .ok (.aload_n 1, 1) := by decide +kernel
theorem dL_law_1094 : decode cL_law 1094 = .ok (.aload_n 0, 1) := by decide +kernel
theorem dL_law_1095 : decode cL_law 1095 = .ok (.iload 4, 2) := by decide +kernel
theorem dL_law_1097 : decode cL_law 1097 = .ok (.iconst 1, 1) := by decide +kernel
theorem dL_law_1098 : decode cL_law 1098 = .ok (.iadd, 1) := by decide +kernel
theorem dL_law_1099 : decode cL_law 1099 = .ok (.iaload, 1) := by decide +kernel
theorem dL_law_1100 : decode cL_law 1100 = .ok (.aload_n 0, 1) := by decide +kernel
theorem dL_law_1101 : decode cL_law 1101 = .ok (.iload 4, 2) := by decide +kernel
theorem dL_law_1103 : decode cL_law 1103 = .ok (.iconst 2, 1) := by decide +kernel
theorem dL_law_1104 : decode cL_law 1104 = .ok (.iadd, 1) := by decide +kernel
theorem dL_law_1105 : decode cL_law 1105 = .ok (.iaload, 1) := by decide +kernel
theorem dL_law_1106 : decode cL_law 1106 = .ok (.aload_n 3, 1) := by decide +kernel
theorem dL_law_1107 : decode cL_law 1107 = .ok (.invokestatic 132, 3) := by decide +kernel
theorem dL_law_1110 : decode cL_law 1110 = .ok (.istore 5, 2) := by decide +kernel
theorem dL_law_1112 : decode cL_law 1112 = .ok (.aload_n 2, 1) := by decide +kernel
theorem dL_law_1113 : decode cL_law 1113 = .ok (.aload_n 0, 1) := by decide +kernel
theorem dL_law_1114 : decode cL_law 1114 = .ok (.iload 4, 2) := by decide +kernel
theorem dL_law_1116 : decode cL_law 1116 = .ok (.iconst 1, 1) := by decide +kernel
theorem dL_law_1117 : decode cL_law 1117 = .ok (.iadd, 1) := by decide +kernel
theorem dL_law_1118 : decode cL_law 1118 = .ok (.iaload, 1) := by decide +kernel
theorem dL_law_1119 : decode cL_law 1119 = .ok (.aload_n 0, 1) := by decide +kernel
theorem dL_law_1120 : decode cL_law 1120 = .ok (.iload 4, 2) := by decide +kernel
theorem dL_law_1122 : decode cL_law 1122 = .ok (.iconst 2, 1) := by decide +kernel
theorem dL_law_1123 : decode cL_law 1123 = .ok (.iadd, 1) := by decide +kernel
theorem dL_law_1124 : decode cL_law 1124 = .ok (.iaload, 1) := by decide +kernel
theorem dL_law_1125 : decode cL_law 1125 = .ok (.invokevirtual 135, 3) := by decide +kernel
theorem dL_law_1128 : decode cL_law 1128 = .ok (.istore 6, 2) := by decide +kernel
theorem dL_law_1130 : decode cL_law 1130 = .ok (.aload_n 2, 1) := by decide +kernel
theorem dL_law_1131 : decode cL_law 1131 = .ok (.invokevirtual 88, 3) := by decide +kernel
theorem dL_law_1134 : decode cL_law 1134 = .ok (.iload 5, 2) := by decide +kernel
theorem dL_law_1136 : decode cL_law 1136 = .ok (.if_icmp .eq 5, 3) := by decide +kernel
theorem dL_law_1139 : decode cL_law 1139 = .ok (.iconst 0, 1) := by decide +kernel
theorem dL_law_1140 : decode cL_law 1140 = .ok (.ireturn, 1) := by decide +kernel
theorem dL_law_1141 : decode cL_law 1141 = .ok (.iload 5, 2) := by decide +kernel
theorem dL_law_1143 : decode cL_law 1143 = .ok (.ifCond .ne 15, 3) := by decide +kernel
theorem dL_law_1146 : decode cL_law 1146 = .ok (.aload_n 3, 1) := by decide +kernel
theorem dL_law_1147 : decode cL_law 1147 = .ok (.iconst 0, 1) := by decide +kernel
theorem dL_law_1148 : decode cL_law 1148 = .ok (.laload, 1) := by decide +kernel
theorem dL_law_1149 : decode cL_law 1149 = .ok (.iload 6, 2) := by decide +kernel
theorem dL_law_1151 : decode cL_law 1151 = .ok (.i2l, 1) := by decide +kernel
theorem dL_law_1152 : decode cL_law 1152 = .ok (.lcmp, 1) := by decide +kernel
theorem dL_law_1153 : decode cL_law 1153 = .ok (.ifCond .eq 5, 3) := by decide +kernel
theorem dL_law_1156 : decode cL_law 1156 = .ok (.iconst 0, 1) := by decide +kernel
theorem dL_law_1157 : decode cL_law 1157 = .ok (.ireturn, 1) := by decide +kernel
theorem dL_law_1158 : decode cL_law 1158 = .ok (.goto 3, 3) := by decide +kernel
theorem dL_law_1161 : decode cL_law 1161 = .ok (.iinc 4 7, 3) := by decide +kernel
theorem dL_law_1164 : decode cL_law 1164 = .ok (.goto (-1141), 3) := by decide +kernel
theorem dL_law_1167 : decode cL_law 1167 = .ok (.iconst 1, 1) := by decide +kernel
theorem dL_law_1168 : decode cL_law 1168 = .ok (.ireturn, 1) := by decide +kernel
end
section
/-! THE X LAYER: one judgement 'xX' over the machine, with the cells of the whole system at known places behind the law's entry heap. -/
/-- launch, the law's entry state, the classes' numbers and slots, the array classes (0 int, 1 byte, 2 boolean, 3 long, 4 int rows) -/
abbrev xE : Type := Launch × State × va_G × (Nat → ClassId)
def xB (E : xE) : Nat := E.2.1.heap.size
def xTys (E : xE) : List (ClassId × FieldType) := [(E.2.2.2 0, .int), (E.2.2.2 1, .byte), (E.2.2.2 2, .boolean), (E.2.2.2 3, .long), (E.2.2.2 4, .array .int)]
/-- words that travel -/
def xTr (w : Cond) : Bool := goodWord w || (match w with | .fieldLinkNest _ _ _ _ _ _ => true | .methodLinkNest _ _ _ _ => true | _ => false)
def xGH (E : xE) : Prop := (∀ w ∈ lw_tbl, xTr w = true → w.before #[] E.2.1 = true) ∧ va_K E.2.2.1 vwCl (xTys E) E.2.1
/-- a word of the tables that travels -/
def xw (w : Cond) : Prop := w ∈ lw_tbl ∧ xTr w = true
theorem x_word {E : xE} (hG : xGH E) {U : State} (hW : E.2.1.WarmedH U.vm) {w : Cond} (hw : xw w) (a : Array Value) : w.before a U = true := by
  have h0 := hG.1 w hw.1 hw.2
  have ht := hw.2
  unfold xTr at ht
  rw [Bool.or_eq_true] at ht
  rcases ht with hg | hn
  · exact word_at hW (good_of_word hg) h0
  · cases w <;> first | (exact Bool.noConfusion hn) | (exact va_Nw.use rfl (va_Nw.warmF hW h0)) | (exact va_Nw.use rfl (va_Nw.warmM hW h0))
theorem x_K {E : xE} (hG : xGH E) {U : State} (hW : E.2.1.WarmedH U.vm) : va_K E.2.2.1 vwCl (xTys E) U := va_K.moved hW.alike hG.2
abbrev xS : Type := Bool × Nat × (Nat → va_E)
/-- the heap holds the cells: n of them behind the old heap, which is as it was -/
def xH (E : xE) (S : xS) (H : Heap) : Prop :=
  xB E + S.2.1 ≤ H.size ∧ (S.1 = true → H.size = xB E + S.2.1) ∧ (∀ a, a < S.2.1 → va_at E.2.2.1 vwCl (xB E + a, S.2.2 a) H) ∧ ∀ q, q < xB E → H[q]? = E.2.1.heap[q]?
/-- a method: its name, code, locals, what it returns -/
abbrev xM : Type := MethodName × ByteArray × Nat × Option FieldType
def xR (d mc ms : Nat) : Room := { frames := d + 1, cells := mc, slots := ms, locals := 64 * (d + 1) }
def xCx (E : xE) (M : xM) (p : Program) (s : State) (m : MethodId) (meth : Method) (c : Code) : Prop :=
  p.tables.exec = Jvm.exec ∧ c.code = M.2.1 ∧ c.maxLocals = M.2.2.1 ∧ s.vm.findClass M.1.cls = some m.cls ∧ meth.sig.returnType = M.2.2.2 ∧ meth.locks = false ∧ meth.name = M.1.name ∧ E.2.1.WarmedH s.vm ∧ xB E ≤ s.heap.size ∧ ∀ q, q < xB E → s.heap[q]? = E.2.1.heap[q]?
def xQc (E : xE) (Q : Option Value → xS → Prop) : Array Value → State → Outcome → State → Prop := fun _ _ o t => ∃ (v : Option Value) (S : xS), o = .returned v ∧ E.2.1.WarmedH t.vm ∧ xH E S t.heap ∧ Q v S
def xX (E : xE) (M : xM) (d mc ms rc rs : Nat) (Q : Option Value → xS → Prop) (pc : Nat) (lv : List (Nat × Value)) (st : List Value) (S : xS) : Prop :=
  xGH E → ∀ (p : Program) (e : Env) (s : State) (m : MethodId) (args : Array Value) (below : List Frame) (meth : Method) (c : Code) (H : Heap) (locs : List Loc) (cells slots : Nat) (ls : Array Slot),
    xCx E M p s m meth c → s.heap.size ≤ H.size → xH E S H → (∀ q ∈ locs, xB E ≤ q.base) → lv_has ls M.2.2.1 lv → cells + rc = mc → slots + rs = ms →
    W p E.1 e (xR d mc ms) s m args below meth c H locs cells slots (MQ below (xQc E Q) args s mc ms (fun q => xB E ≤ q)) (F0 m pc ls st)
def xPc (E : xE) (av : List Value) (S : xS) : Array Value → State → Prop := fun v U => v = av.toArray ∧ E.2.1.WarmedH U.vm ∧ xH E S U.heap
/-- a method's contract -/
def xC (E : xE) (M : xM) (d mc ms : Nat) (av : List Value) (S : xS) (Q : Option Value → xS → Prop) : Prop :=
  xGH E → Met E.1 M.1 [.code M.1 M.2.1 M.2.2.1 M.2.2.2] (xR d mc ms) (xPc E av S) (xQc E Q) mc ms (fun q => xB E ≤ q)
theorem x_blind {E : xE} {av : List Value} {S : xS} : FrameBlind (xPc E av S) := fun a U g mk h => ⟨h.1, h.2.1, h.2.2⟩
/-- a method's contract out of a walk of its body -/
theorem x_enter {E : xE} {M : xM} {d mc ms : Nat} {av : List Value} {S : xS} {Q : Option Value → xS → Prop} (hy : plainName M.1.cls = true) (hl : (lg_sl av).length ≤ M.2.2.1)
    (h : xX E M d mc ms mc ms Q 0 (lv_args 0 av) [] S) : xC E M d mc ms av S Q := by
  intro hG
  refine Met.ofW (cc := M.2.1) (maxL := M.2.2.1) (ret := M.2.2.2) hy rfl ?_
  intro p e s m args below meth c s₁ B hml hv
  obtain ⟨rfl, hW, hH⟩ := hv
  have hlv := lv_entry av (n := M.2.2.1) hl
  rw [lg_entry_eq]
  have hown : s.vm.findClass M.1.cls = some m.cls := findClass_of_methodNamed B.named
  have hin : meth.name = M.1.name := (name_of_methodNamed B.named B.method).1
  exact h hG p e s m _ below meth c s.heap [] 0 0 _ ⟨B.exec, B.bytes, hml, hown, B.returns, B.notSynchronized, hin, hW, Nat.le_trans (Nat.le_add_right _ _) hH.1, hH.2.2.2⟩ (Nat.le_refl _) hH (fun _ h => by cases h) hlv (Nat.zero_add _) (Nat.zero_add _)
def xget (lv : List (Nat × Value)) (i : Nat) : Option Value := (lv.find? (fun q => q.1 == i)).map (fun q => q.2)
theorem x_at {ls : Array Slot} {n : Nat} {lv : List (Nat × Value)} (h : lv_has ls n lv) {i : Nat} {v : Value} (hv : xget lv i = some v) : ls[i]? = some (.val v) := by
  unfold xget at hv
  obtain ⟨q, hq, rfl⟩ := Option.map_eq_some_iff.mp hv
  have h1 := List.mem_of_find?_eq_some hq
  have h2 := List.find?_some hq
  have h3 : q.1 = i := by simpa using h2
  rw [← h3]
  exact h.2.2 q h1
section XR
variable {E : xE} {M : xM} {d mc ms rc rs : Nat} {Q : Option Value → xS → Prop} {pc : Nat} {lv : List (Nat × Value)} {st : List Value} {S : xS}
theorem x_lift {pc' : Nat} {lv' : List (Nat × Value)} {st' : List Value}
    (h : ∀ {p : Program} {l : Launch} {e : Env} {R : Room} {s : State} {m : MethodId} {args : Array Value} {below : List Frame} {meth : Method} {c : Code} {H : Heap} {locs : List Loc} {cells slots : Nat} {Z : State → Prop} {ls : Array Slot}, p.tables.exec = Jvm.exec → c.code = M.2.1 → lv_has ls M.2.2.1 lv →
      (∀ ls' : Array Slot, lv_has ls' M.2.2.1 lv' → W p l e R s m args below meth c H locs cells slots Z (F0 m pc' ls' st')) → W p l e R s m args below meth c H locs cells slots Z (F0 m pc ls st))
    (kk : xX E M d mc ms rc rs Q pc' lv' st' S) : xX E M d mc ms rc rs Q pc lv st S := by
  intro hG p e s m args below meth c H locs cells slots ls hC hs hH hlo hlv hc1 hs1
  exact h hC.1 hC.2.1 hlv (fun ls' hl' => kk hG p e s m args below meth c H locs cells slots ls' hC hs hH hlo hl' hc1 hs1)
theorem x_lift2 {pc1 pc2 : Nat} {st' : List Value} {A B : Prop}
    (h : ∀ {p : Program} {l : Launch} {e : Env} {R : Room} {s : State} {m : MethodId} {args : Array Value} {below : List Frame} {meth : Method} {c : Code} {H : Heap} {locs : List Loc} {cells slots : Nat} {Z : State → Prop} {ls : Array Slot}, p.tables.exec = Jvm.exec → c.code = M.2.1 →
      (A → W p l e R s m args below meth c H locs cells slots Z (F0 m pc1 ls st')) → (B → W p l e R s m args below meth c H locs cells slots Z (F0 m pc2 ls st')) → W p l e R s m args below meth c H locs cells slots Z (F0 m pc ls st))
    (k1 : A → xX E M d mc ms rc rs Q pc1 lv st' S) (k2 : B → xX E M d mc ms rc rs Q pc2 lv st' S) : xX E M d mc ms rc rs Q pc lv st S := by
  intro hG p e s m args below meth c H locs cells slots ls hC hs hH hlo hlv hc1 hs1
  exact h hC.1 hC.2.1 (fun a => k1 a hG p e s m args below meth c H locs cells slots ls hC hs hH hlo hlv hc1 hs1) (fun b => k2 b hG p e s m args below meth c H locs cells slots ls hC hs hH hlo hlv hc1 hs1)
theorem x_iconst {n : Int} {v : Int32} (hd : decode M.2.1 pc = .ok (.iconst n, 1)) (hv : Int32.ofInt n = v) (kk : xX E M d mc ms rc rs Q (pc + 1) lv (.int v :: st) S) : xX E M d mc ms rc rs Q pc lv st S := x_lift (fun hx hb hl k => lv_iconst hx hb hd hv (k _ hl)) kk
theorem x_bipush {n : Int} {v : Int32} (hd : decode M.2.1 pc = .ok (.bipush n, 2)) (hv : (Int8.ofInt n).toInt32 = v) (kk : xX E M d mc ms rc rs Q (pc + 2) lv (.int v :: st) S) : xX E M d mc ms rc rs Q pc lv st S := x_lift (fun hx hb hl k => lv_bipush hx hb hd hv (k _ hl)) kk
theorem x_sipush {n : Int} {v : Int32} (hd : decode M.2.1 pc = .ok (.sipush n, 3)) (hv : (Int16.ofInt n).toInt32 = v) (kk : xX E M d mc ms rc rs Q (pc + 3) lv (.int v :: st) S) : xX E M d mc ms rc rs Q pc lv st S := x_lift (fun hx hb hl k => lv_sipush hx hb hd hv (k _ hl)) kk
theorem x_lconst {n : Fin 2} {v : Int64} (hd : decode M.2.1 pc = .ok (.lconst n, 1)) (hv : Int64.ofNat (n : Nat) = v) (kk : xX E M d mc ms rc rs Q (pc + 1) lv (.long v :: st) S) : xX E M d mc ms rc rs Q pc lv st S := x_lift (fun hx hb hl k => lv_lconst hx hb hd hv (k _ hl)) kk
theorem x_iload_n {k : Fin 4} {v : Int32} (hd : decode M.2.1 pc = .ok (.iload_n k, 1)) (hv : xget lv k = some (.int v)) (kk : xX E M d mc ms rc rs Q (pc + 1) lv (.int v :: st) S) : xX E M d mc ms rc rs Q pc lv st S := x_lift (fun hx hb hl k => lv_iload_n hx hb hd rfl (x_at hl hv) (k _ hl)) kk
theorem x_iload {i : Nat} {v : Int32} (hd : decode M.2.1 pc = .ok (.iload i, 2)) (hv : xget lv i = some (.int v)) (kk : xX E M d mc ms rc rs Q (pc + 2) lv (.int v :: st) S) : xX E M d mc ms rc rs Q pc lv st S := x_lift (fun hx hb hl k => lv_iload hx hb hd (x_at hl hv) (k _ hl)) kk
theorem x_lload_n {k : Fin 4} {v : Int64} (hd : decode M.2.1 pc = .ok (.lload_n k, 1)) (hv : xget lv k = some (.long v)) (kk : xX E M d mc ms rc rs Q (pc + 1) lv (.long v :: st) S) : xX E M d mc ms rc rs Q pc lv st S := x_lift (fun hx hb hl k => lv_lload_n hx hb hd rfl (x_at hl hv) (k _ hl)) kk
theorem x_lload {i : Nat} {v : Int64} (hd : decode M.2.1 pc = .ok (.lload i, 2)) (hv : xget lv i = some (.long v)) (kk : xX E M d mc ms rc rs Q (pc + 2) lv (.long v :: st) S) : xX E M d mc ms rc rs Q pc lv st S := x_lift (fun hx hb hl k => lv_lload hx hb hd (x_at hl hv) (k _ hl)) kk
theorem x_aload_n {k : Fin 4} {v : Nat} (hd : decode M.2.1 pc = .ok (.aload_n k, 1)) (hv : xget lv k = some (.ref v)) (kk : xX E M d mc ms rc rs Q (pc + 1) lv (.ref v :: st) S) : xX E M d mc ms rc rs Q pc lv st S := x_lift (fun hx hb hl k => lv_aload_n hx hb hd rfl (x_at hl hv) (k _ hl)) kk
theorem x_aload {i : Nat} {v : Nat} (hd : decode M.2.1 pc = .ok (.aload i, 2)) (hv : xget lv i = some (.ref v)) (kk : xX E M d mc ms rc rs Q (pc + 2) lv (.ref v :: st) S) : xX E M d mc ms rc rs Q pc lv st S := x_lift (fun hx hb hl k => lv_aload hx hb hd (x_at hl hv) (k _ hl)) kk
def xset (lv : List (Nat × Value)) (i : Nat) (v : Value) : List (Nat × Value) := (i, v) :: lv.filter (fun q => !(q.1 == i) && !(q.1 + 1 == i && q.2.category == 2))
def xset2 (lv : List (Nat × Value)) (i : Nat) (v : Value) : List (Nat × Value) := (i, v) :: lv.filter (fun q => !(q.1 == i) && (!(q.1 == i + 1) && !(q.1 + 1 == i && q.2.category == 2)))
theorem x_istore_n {k : Fin 4} {x : Int32} {lv' : List (Nat × Value)} (hd : decode M.2.1 pc = .ok (.istore_n k, 1)) (ks : List Nat) (hn : (k : Nat) < M.2.2.1) (hl : lv_pick (xset lv k (.int x)) ks = lv') (kk : xX E M d mc ms rc rs Q (pc + 1) lv' st S) : xX E M d mc ms rc rs Q pc lv (.int x :: st) S := x_lift (fun hx hb hlv k => lv_istore_n hx hb hd rfl hlv hn rfl (fun _ h' => k _ (lv_sub h' ks hl))) kk
theorem x_istore {i : Nat} {x : Int32} {lv' : List (Nat × Value)} (hd : decode M.2.1 pc = .ok (.istore i, 2)) (ks : List Nat) (hn : i < M.2.2.1) (hl : lv_pick (xset lv i (.int x)) ks = lv') (kk : xX E M d mc ms rc rs Q (pc + 2) lv' st S) : xX E M d mc ms rc rs Q pc lv (.int x :: st) S := x_lift (fun hx hb hlv k => lv_istore hx hb hd hlv hn rfl (fun _ h' => k _ (lv_sub h' ks hl))) kk
theorem x_lstore_n {k : Fin 4} {x : Int64} {lv' : List (Nat × Value)} (hd : decode M.2.1 pc = .ok (.lstore_n k, 1)) (ks : List Nat) (hn : (k : Nat) + 1 < M.2.2.1) (hl : lv_pick (xset2 lv k (.long x)) ks = lv') (kk : xX E M d mc ms rc rs Q (pc + 1) lv' st S) : xX E M d mc ms rc rs Q pc lv (.long x :: st) S := x_lift (fun hx hb hlv k => lv_lstore_n hx hb hd rfl hlv hn rfl (fun _ h' => k _ (lv_sub h' ks hl))) kk
theorem x_lstore {i : Nat} {x : Int64} {lv' : List (Nat × Value)} (hd : decode M.2.1 pc = .ok (.lstore i, 2)) (ks : List Nat) (hn : i + 1 < M.2.2.1) (hl : lv_pick (xset2 lv i (.long x)) ks = lv') (kk : xX E M d mc ms rc rs Q (pc + 2) lv' st S) : xX E M d mc ms rc rs Q pc lv (.long x :: st) S := x_lift (fun hx hb hlv k => lv_lstore hx hb hd hlv hn rfl (fun _ h' => k _ (lv_sub h' ks hl))) kk
theorem x_astore_n {k : Fin 4} {x : Nat} {lv' : List (Nat × Value)} (hd : decode M.2.1 pc = .ok (.astore_n k, 1)) (ks : List Nat) (hn : (k : Nat) < M.2.2.1) (hl : lv_pick (xset lv k (.ref x)) ks = lv') (kk : xX E M d mc ms rc rs Q (pc + 1) lv' st S) : xX E M d mc ms rc rs Q pc lv (.ref x :: st) S := x_lift (fun hx hb hlv k => lv_astore_n hx hb hd rfl hlv hn rfl (fun _ h' => k _ (lv_sub h' ks hl))) kk
theorem x_astore {i : Nat} {x : Nat} {lv' : List (Nat × Value)} (hd : decode M.2.1 pc = .ok (.astore i, 2)) (ks : List Nat) (hn : i < M.2.2.1) (hl : lv_pick (xset lv i (.ref x)) ks = lv') (kk : xX E M d mc ms rc rs Q (pc + 2) lv' st S) : xX E M d mc ms rc rs Q pc lv (.ref x :: st) S := x_lift (fun hx hb hlv k => lv_astore hx hb hd hlv hn rfl (fun _ h' => k _ (lv_sub h' ks hl))) kk
theorem x_lv {lv' : List (Nat × Value)} (ks : List Nat) (hl : lv_pick lv ks = lv') (kk : xX E M d mc ms rc rs Q pc lv' st S) : xX E M d mc ms rc rs Q pc lv st S := x_lift (fun _ _ hlv k => k _ (lv_sub hlv ks hl)) kk
theorem x_iinc {i : Nat} {n : Int} {x v : Int32} {lv' : List (Nat × Value)} (hd : decode M.2.1 pc = .ok (.iinc i n, 3)) (j : Nat) (ks : List Nat) (hj : lv[j]? = some (i, .int x)) (hv : x + Int32.ofInt n = v) (hn : i < M.2.2.1) (hl : lv_pick (xset lv i (.int v)) ks = lv') (kk : xX E M d mc ms rc rs Q (pc + 3) lv' st S) : xX E M d mc ms rc rs Q pc lv st S := x_lift (fun hx hb hlv k => lv_iinc hx hb hd hlv hj hv hn rfl (fun _ h' => k _ (lv_sub h' ks hl))) kk
theorem x_iadd {x y : Int32} (hd : decode M.2.1 pc = .ok (.iadd, 1)) (kk : xX E M d mc ms rc rs Q (pc + 1) lv (.int (x + y) :: st) S) : xX E M d mc ms rc rs Q pc lv (.int y :: .int x :: st) S := x_lift (fun hx hb hl k => lv_iadd hx hb hd (k _ hl)) kk
theorem x_isub {x y : Int32} (hd : decode M.2.1 pc = .ok (.isub, 1)) (kk : xX E M d mc ms rc rs Q (pc + 1) lv (.int (x - y) :: st) S) : xX E M d mc ms rc rs Q pc lv (.int y :: .int x :: st) S := x_lift (fun hx hb hl k => lv_isub hx hb hd (k _ hl)) kk
theorem x_imul {x y : Int32} (hd : decode M.2.1 pc = .ok (.imul, 1)) (kk : xX E M d mc ms rc rs Q (pc + 1) lv (.int (x * y) :: st) S) : xX E M d mc ms rc rs Q pc lv (.int y :: .int x :: st) S := x_lift (fun hx hb hl k => lv_imul hx hb hd (k _ hl)) kk
theorem x_iand {x y : Int32} (hd : decode M.2.1 pc = .ok (.iand, 1)) (kk : xX E M d mc ms rc rs Q (pc + 1) lv (.int (x &&& y) :: st) S) : xX E M d mc ms rc rs Q pc lv (.int y :: .int x :: st) S := x_lift (fun hx hb hl k => lv_iand hx hb hd (k _ hl)) kk
theorem x_ior {x y : Int32} (hd : decode M.2.1 pc = .ok (.ior, 1)) (kk : xX E M d mc ms rc rs Q (pc + 1) lv (.int (x ||| y) :: st) S) : xX E M d mc ms rc rs Q pc lv (.int y :: .int x :: st) S := x_lift (fun hx hb hl k => lv_ior hx hb hd (k _ hl)) kk
theorem x_idiv {x y : Int32} (hd : decode M.2.1 pc = .ok (.idiv, 1)) (hne : ¬ y = 0) (kk : xX E M d mc ms rc rs Q (pc + 1) lv (.int (x / y) :: st) S) : xX E M d mc ms rc rs Q pc lv (.int y :: .int x :: st) S := x_lift (fun hx hb hl k => lv_idiv hx hb hd hne (k _ hl)) kk
theorem x_ineg {x : Int32} (hd : decode M.2.1 pc = .ok (.ineg, 1)) (kk : xX E M d mc ms rc rs Q (pc + 1) lv (.int (-x) :: st) S) : xX E M d mc ms rc rs Q pc lv (.int x :: st) S := x_lift (fun hx hb hl k => lv_ineg hx hb hd (k _ hl)) kk
theorem x_ishl {x y : Int32} (hd : decode M.2.1 pc = .ok (.ishl, 1)) (kk : xX E M d mc ms rc rs Q (pc + 1) lv (.int (x <<< (y &&& 31)) :: st) S) : xX E M d mc ms rc rs Q pc lv (.int y :: .int x :: st) S := x_lift (fun hx hb hl k => lv_ishl hx hb hd (k _ hl)) kk
theorem x_ishr {x y : Int32} (hd : decode M.2.1 pc = .ok (.ishr, 1)) (kk : xX E M d mc ms rc rs Q (pc + 1) lv (.int (x >>> (y &&& 31)) :: st) S) : xX E M d mc ms rc rs Q pc lv (.int y :: .int x :: st) S := x_lift (fun hx hb hl k => lv_ishr hx hb hd (k _ hl)) kk
theorem x_ladd {x y : Int64} (hd : decode M.2.1 pc = .ok (.ladd, 1)) (kk : xX E M d mc ms rc rs Q (pc + 1) lv (.long (x + y) :: st) S) : xX E M d mc ms rc rs Q pc lv (.long y :: .long x :: st) S := x_lift (fun hx hb hl k => lv_ladd hx hb hd (k _ hl)) kk
theorem x_lsub {x y : Int64} (hd : decode M.2.1 pc = .ok (.lsub, 1)) (kk : xX E M d mc ms rc rs Q (pc + 1) lv (.long (x - y) :: st) S) : xX E M d mc ms rc rs Q pc lv (.long y :: .long x :: st) S := x_lift (fun hx hb hl k => lv_lsub hx hb hd (k _ hl)) kk
theorem x_lmul {x y : Int64} (hd : decode M.2.1 pc = .ok (.lmul, 1)) (kk : xX E M d mc ms rc rs Q (pc + 1) lv (.long (x * y) :: st) S) : xX E M d mc ms rc rs Q pc lv (.long y :: .long x :: st) S := x_lift (fun hx hb hl k => lv_lmul hx hb hd (k _ hl)) kk
theorem x_land {x y : Int64} (hd : decode M.2.1 pc = .ok (.land, 1)) (kk : xX E M d mc ms rc rs Q (pc + 1) lv (.long (x &&& y) :: st) S) : xX E M d mc ms rc rs Q pc lv (.long y :: .long x :: st) S := x_lift (fun hx hb hl k => lv_land hx hb hd (k _ hl)) kk
theorem x_lor {x y : Int64} (hd : decode M.2.1 pc = .ok (.lor, 1)) (kk : xX E M d mc ms rc rs Q (pc + 1) lv (.long (x ||| y) :: st) S) : xX E M d mc ms rc rs Q pc lv (.long y :: .long x :: st) S := x_lift (fun hx hb hl k => lv_lor hx hb hd (k _ hl)) kk
theorem x_ldiv {x y : Int64} (hd : decode M.2.1 pc = .ok (.ldiv, 1)) (hne : ¬ y = 0) (kk : xX E M d mc ms rc rs Q (pc + 1) lv (.long (x / y) :: st) S) : xX E M d mc ms rc rs Q pc lv (.long y :: .long x :: st) S := x_lift (fun hx hb hl k => lv_ldiv hx hb hd hne (k _ hl)) kk
theorem x_lshl {x : Int64} {y : Int32} (hd : decode M.2.1 pc = .ok (.lshl, 1)) (kk : xX E M d mc ms rc rs Q (pc + 1) lv (.long (x <<< (y.toInt64 &&& 63)) :: st) S) : xX E M d mc ms rc rs Q pc lv (.int y :: .long x :: st) S := x_lift (fun hx hb hl k => lv_lshl hx hb hd rfl (k _ hl)) kk
theorem x_lshr {x : Int64} {y : Int32} (hd : decode M.2.1 pc = .ok (.lshr, 1)) (kk : xX E M d mc ms rc rs Q (pc + 1) lv (.long (x >>> (y.toInt64 &&& 63)) :: st) S) : xX E M d mc ms rc rs Q pc lv (.int y :: .long x :: st) S := x_lift (fun hx hb hl k => lv_lshr hx hb hd rfl (k _ hl)) kk
def xushr (x : Int64) (y : Int32) : Int64 := (x.toUInt64 >>> (y.toInt64.toUInt64 &&& Int64.toUInt64 63)).toInt64
theorem x_lushr {x : Int64} {y : Int32} (hd : decode M.2.1 pc = .ok (.lushr, 1)) (kk : xX E M d mc ms rc rs Q (pc + 1) lv (.long (xushr x y) :: st) S) : xX E M d mc ms rc rs Q pc lv (.int y :: .long x :: st) S := x_lift (fun hx hb hl k => lv_lushr hx hb hd rfl (k _ hl)) kk
theorem x_lcmp {x y : Int64} (hd : decode M.2.1 pc = .ok (.lcmp, 1)) (kk : xX E M d mc ms rc rs Q (pc + 1) lv (.int (lg_cmp x y) :: st) S) : xX E M d mc ms rc rs Q pc lv (.long y :: .long x :: st) S := x_lift (fun hx hb hl k => W.lcmp hx hb hd (k _ hl)) kk
theorem x_i2l {x : Int32} (hd : decode M.2.1 pc = .ok (.i2l, 1)) (kk : xX E M d mc ms rc rs Q (pc + 1) lv (.long x.toInt64 :: st) S) : xX E M d mc ms rc rs Q pc lv (.int x :: st) S := x_lift (fun hx hb hl k => lv_i2l hx hb hd rfl (k _ hl)) kk
theorem x_l2i {x : Int64} (hd : decode M.2.1 pc = .ok (.l2i, 1)) (kk : xX E M d mc ms rc rs Q (pc + 1) lv (.int x.toInt32 :: st) S) : xX E M d mc ms rc rs Q pc lv (.long x :: st) S := x_lift (fun hx hb hl k => lv_l2i hx hb hd rfl (k _ hl)) kk
theorem x_i2b {x : Int32} (hd : decode M.2.1 pc = .ok (.i2b, 1)) (kk : xX E M d mc ms rc rs Q (pc + 1) lv (.int x.toInt8.toInt32 :: st) S) : xX E M d mc ms rc rs Q pc lv (.int x :: st) S := x_lift (fun hx hb hl k => lv_i2b hx hb hd rfl (k _ hl)) kk
theorem x_dup {v : Value} (hd : decode M.2.1 pc = .ok (.dup, 1)) (hv : v.category = 1) (kk : xX E M d mc ms rc rs Q (pc + 1) lv (v :: v :: st) S) : xX E M d mc ms rc rs Q pc lv (v :: st) S := x_lift (fun hx hb hl k => lv_dup hx hb hd hv (k _ hl)) kk
theorem x_dup2 {v w : Value} (hd : decode M.2.1 pc = .ok (.dup2, 1)) (hv : v.category = 1) (hw : w.category = 1) (kk : xX E M d mc ms rc rs Q (pc + 1) lv (v :: w :: v :: w :: st) S) : xX E M d mc ms rc rs Q pc lv (v :: w :: st) S := x_lift (fun hx hb hl k => lv_dup2_11 hx hb hd hv hw (k _ hl)) kk
theorem x_pop {v : Value} (hd : decode M.2.1 pc = .ok (.pop, 1)) (hv : v.category = 1) (kk : xX E M d mc ms rc rs Q (pc + 1) lv st S) : xX E M d mc ms rc rs Q pc lv (v :: st) S := x_lift (fun hx hb hl k => lv_pop hx hb hd hv (k _ hl)) kk
theorem x_goto {off : Int} (tgt : Nat) (hd : decode M.2.1 pc = .ok (.goto off, 3)) (ht : (pc : Int) + off = (tgt : Int)) (kk : xX E M d mc ms rc rs Q tgt lv st S) : xX E M d mc ms rc rs Q pc lv st S := x_lift (fun hx hb hl k => lv_goto hx hb hd ht (k _ hl)) kk
theorem x_if_eq {x : Int32} {off : Int} (tgt : Nat) (hd : decode M.2.1 pc = .ok (.ifCond .eq off, 3)) (ht : (pc : Int) + off = (tgt : Int)) (k1 : x = 0 → xX E M d mc ms rc rs Q tgt lv st S) (k2 : ¬ x = 0 → xX E M d mc ms rc rs Q (pc + 3) lv st S) : xX E M d mc ms rc rs Q pc lv (.int x :: st) S := x_lift2 (fun hx hb k1 k2 => lv_if_eq hx hb hd ht k1 k2) k1 k2
theorem x_if_ne {x : Int32} {off : Int} (tgt : Nat) (hd : decode M.2.1 pc = .ok (.ifCond .ne off, 3)) (ht : (pc : Int) + off = (tgt : Int)) (k1 : ¬ x = 0 → xX E M d mc ms rc rs Q tgt lv st S) (k2 : x = 0 → xX E M d mc ms rc rs Q (pc + 3) lv st S) : xX E M d mc ms rc rs Q pc lv (.int x :: st) S := x_lift2 (fun hx hb k1 k2 => lv_if_ne hx hb hd ht k1 k2) k1 k2
theorem x_if_lt {x : Int32} {off : Int} (tgt : Nat) (hd : decode M.2.1 pc = .ok (.ifCond .lt off, 3)) (ht : (pc : Int) + off = (tgt : Int)) (k1 : x < 0 → xX E M d mc ms rc rs Q tgt lv st S) (k2 : ¬ x < 0 → xX E M d mc ms rc rs Q (pc + 3) lv st S) : xX E M d mc ms rc rs Q pc lv (.int x :: st) S := x_lift2 (fun hx hb k1 k2 => lv_if_lt hx hb hd ht k1 k2) k1 k2
theorem x_if_ge {x : Int32} {off : Int} (tgt : Nat) (hd : decode M.2.1 pc = .ok (.ifCond .ge off, 3)) (ht : (pc : Int) + off = (tgt : Int)) (k1 : 0 ≤ x → xX E M d mc ms rc rs Q tgt lv st S) (k2 : ¬ 0 ≤ x → xX E M d mc ms rc rs Q (pc + 3) lv st S) : xX E M d mc ms rc rs Q pc lv (.int x :: st) S := x_lift2 (fun hx hb k1 k2 => lv_if_ge hx hb hd ht k1 k2) k1 k2
theorem x_if_gt {x : Int32} {off : Int} (tgt : Nat) (hd : decode M.2.1 pc = .ok (.ifCond .gt off, 3)) (ht : (pc : Int) + off = (tgt : Int)) (k1 : 0 < x → xX E M d mc ms rc rs Q tgt lv st S) (k2 : ¬ 0 < x → xX E M d mc ms rc rs Q (pc + 3) lv st S) : xX E M d mc ms rc rs Q pc lv (.int x :: st) S := x_lift2 (fun hx hb k1 k2 => lv_if_gt hx hb hd ht k1 k2) k1 k2
theorem x_if_le {x : Int32} {off : Int} (tgt : Nat) (hd : decode M.2.1 pc = .ok (.ifCond .le off, 3)) (ht : (pc : Int) + off = (tgt : Int)) (k1 : x ≤ 0 → xX E M d mc ms rc rs Q tgt lv st S) (k2 : ¬ x ≤ 0 → xX E M d mc ms rc rs Q (pc + 3) lv st S) : xX E M d mc ms rc rs Q pc lv (.int x :: st) S := x_lift2 (fun hx hb k1 k2 => lv_if_le hx hb hd ht k1 k2) k1 k2
theorem x_icmp_eq {x y : Int32} {off : Int} (tgt : Nat) (hd : decode M.2.1 pc = .ok (.if_icmp .eq off, 3)) (ht : (pc : Int) + off = (tgt : Int)) (k1 : x = y → xX E M d mc ms rc rs Q tgt lv st S) (k2 : ¬ x = y → xX E M d mc ms rc rs Q (pc + 3) lv st S) : xX E M d mc ms rc rs Q pc lv (.int y :: .int x :: st) S := x_lift2 (fun hx hb k1 k2 => lv_icmp_eq hx hb hd ht k1 k2) k1 k2
theorem x_icmp_ne {x y : Int32} {off : Int} (tgt : Nat) (hd : decode M.2.1 pc = .ok (.if_icmp .ne off, 3)) (ht : (pc : Int) + off = (tgt : Int)) (k1 : ¬ x = y → xX E M d mc ms rc rs Q tgt lv st S) (k2 : x = y → xX E M d mc ms rc rs Q (pc + 3) lv st S) : xX E M d mc ms rc rs Q pc lv (.int y :: .int x :: st) S := x_lift2 (fun hx hb k1 k2 => lv_icmp_ne hx hb hd ht k1 k2) k1 k2
theorem x_icmp_lt {x y : Int32} {off : Int} (tgt : Nat) (hd : decode M.2.1 pc = .ok (.if_icmp .lt off, 3)) (ht : (pc : Int) + off = (tgt : Int)) (k1 : x < y → xX E M d mc ms rc rs Q tgt lv st S) (k2 : ¬ x < y → xX E M d mc ms rc rs Q (pc + 3) lv st S) : xX E M d mc ms rc rs Q pc lv (.int y :: .int x :: st) S := x_lift2 (fun hx hb k1 k2 => lv_icmp_lt hx hb hd ht k1 k2) k1 k2
theorem x_icmp_ge {x y : Int32} {off : Int} (tgt : Nat) (hd : decode M.2.1 pc = .ok (.if_icmp .ge off, 3)) (ht : (pc : Int) + off = (tgt : Int)) (k1 : y ≤ x → xX E M d mc ms rc rs Q tgt lv st S) (k2 : ¬ y ≤ x → xX E M d mc ms rc rs Q (pc + 3) lv st S) : xX E M d mc ms rc rs Q pc lv (.int y :: .int x :: st) S := x_lift2 (fun hx hb k1 k2 => lv_icmp_ge hx hb hd ht k1 k2) k1 k2
theorem x_icmp_gt {x y : Int32} {off : Int} (tgt : Nat) (hd : decode M.2.1 pc = .ok (.if_icmp .gt off, 3)) (ht : (pc : Int) + off = (tgt : Int)) (k1 : y < x → xX E M d mc ms rc rs Q tgt lv st S) (k2 : ¬ y < x → xX E M d mc ms rc rs Q (pc + 3) lv st S) : xX E M d mc ms rc rs Q pc lv (.int y :: .int x :: st) S := x_lift2 (fun hx hb k1 k2 => lv_icmp_gt hx hb hd ht k1 k2) k1 k2
theorem x_icmp_le {x y : Int32} {off : Int} (tgt : Nat) (hd : decode M.2.1 pc = .ok (.if_icmp .le off, 3)) (ht : (pc : Int) + off = (tgt : Int)) (k1 : x ≤ y → xX E M d mc ms rc rs Q tgt lv st S) (k2 : ¬ x ≤ y → xX E M d mc ms rc rs Q (pc + 3) lv st S) : xX E M d mc ms rc rs Q pc lv (.int y :: .int x :: st) S := x_lift2 (fun hx hb k1 k2 => lv_icmp_le hx hb hd ht k1 k2) k1 k2
theorem x_tableIn {dflt lo hi : Int} {offs : Array Int} {len : Nat} {x : Int32} {off : Int} (tgt : Nat) (hd : decode M.2.1 pc = .ok (.tableswitch dflt lo hi offs, len)) (h1 : ¬ x.toInt < lo) (h2 : ¬ hi < x.toInt) (ho : offs[(x.toInt - lo).toNat]? = some off) (ht : (pc : Int) + off = (tgt : Int)) (kk : xX E M d mc ms rc rs Q tgt lv st S) : xX E M d mc ms rc rs Q pc lv (.int x :: st) S := x_lift (fun hx hb hl k => lv_tableIn hx hb hd h1 h2 ho ht (k _ hl)) kk
theorem x_tableOut {dflt lo hi : Int} {offs : Array Int} {len : Nat} {x : Int32} (tgt : Nat) (hd : decode M.2.1 pc = .ok (.tableswitch dflt lo hi offs, len)) (h : x.toInt < lo ∨ hi < x.toInt) (ht : (pc : Int) + dflt = (tgt : Int)) (kk : xX E M d mc ms rc rs Q tgt lv st S) : xX E M d mc ms rc rs Q pc lv (.int x :: st) S := x_lift (fun hx hb hl k => lv_tableOut hx hb hd h ht (k _ hl)) kk
theorem x_lookup {dflt : Int} {ps : Array (Int × Int)} {len : Nat} {x : Int32} {off : Int} (tgt : Nat) (hd : decode M.2.1 pc = .ok (.lookupswitch dflt ps, len)) (hp : (ps.toList.zip (ps.toList.drop 1)).all (fun (a, next) => a.1 < next.1) = true) (ho : Op.lookupswitch.offset ps.toList dflt x.toInt = off) (ht : (pc : Int) + off = (tgt : Int)) (kk : xX E M d mc ms rc rs Q tgt lv st S) : xX E M d mc ms rc rs Q pc lv (.int x :: st) S := x_lift (fun hx hb hl k => lv_lookup hx hb hd hp ho ht (k _ hl)) kk
end XR
end
section
/-! the X layer: fields, arrays, returns, calls -/
/-- a class of the tables: number, name, fields, their types -/
def xCl (ci : Nat) (C : String) (T : u_T) (N : Nat) (ty : Nat → FieldType) : Prop :=
  vwCl[ci]? = some (C, T, N) ∧ (∀ w ∈ u_ws C T N, xw w) ∧ (∀ k, k < N → parseFieldDescriptor (T k).2.2.1 = some (ty k)) ∧ ∀ a, a < N → ∀ b, b < N → a ≠ b → (T a).2.1 ≠ (T b).2.1
/-- a field's row of the pool: of the own class, or a nest mate's -/
def xFl (own : String) (idx : Nat) (T : u_T) (k : Nat) : Prop :=
  xw (.fieldLink own idx (T k).1 (T k).2.1 (T k).2.2.1) ∨ ∃ host, xw (.fieldLinkNest own idx (T k).1 (T k).2.1 (T k).2.2.1 host)
theorem x_one {D : va_G} {a : Nat} {e : va_E} {H : Heap} (h : va_at D vwCl (a, e) H) : va_P D vwCl [(a, e)] H := fun k q hq => by
  have hz : k < 1 := (List.getElem?_eq_some_iff.mp hq).1
  rw [show k = 0 by omega] at hq
  cases hq
  exact h
theorem x_cell {E : xE} {S : xS} {H : Heap} (hH : xH E S H) {a : Nat} {e : va_E} (ha : a < S.2.1) (hc : S.2.2 a = e) : va_at E.2.2.1 vwCl (xB E + a, e) H := by
  have h := hH.2.2.1 a ha
  rw [hc] at h
  exact h
theorem x_upd {E : xE} {S : xS} {H H' : Heap} (hH : xH E S H) {a : Nat} {e : va_E} (hz : H'.size = H.size) (ho : ∀ q, q ≠ xB E + a → H'[q]? = H[q]?) (he : va_at E.2.2.1 vwCl (xB E + a, e) H') : xH E (S.1, S.2.1, va_up S.2.2 a e) H' := by
  obtain ⟨h1, h2, h3, h4⟩ := hH
  refine ⟨by rw [hz]; exact h1, fun h => by rw [hz]; exact h2 h, fun b hb => ?_, fun q hq => by rw [ho q (by omega)]; exact h4 q hq⟩
  by_cases hba : b = a
  · subst hba
    show va_at E.2.2.1 vwCl (xB E + b, va_up S.2.2 b e b) H'
    rw [show va_up _ _ e b = e from if_pos rfl]
    exact he
  · show va_at E.2.2.1 vwCl (xB E + b, va_up S.2.2 a e b) H'
    rw [show va_up _ _ e b = _ from if_neg hba]
    exact (h3 b hb).kept (ho _ (by show xB E + b ≠ xB E + a; omega))
theorem x_push {E : xE} {n : Nat} {h : Nat → va_E} {H H' : Heap} (hH : xH E (true, n, h) H) {e : va_E} (hz : H'.size = xB E + n + 1) (ho : ∀ q, q < xB E + n → H'[q]? = H[q]?) (he : va_at E.2.2.1 vwCl (xB E + n, e) H') : xH E (true, n + 1, va_up h n e) H' := by
  obtain ⟨h1, h2, h3, h4⟩ := hH
  refine ⟨by rw [hz]; exact Nat.le_refl _, fun _ => hz, fun b hb => ?_, fun q hq => by rw [ho q (by omega)]; exact h4 q hq⟩
  have hb : b < n + 1 := hb
  by_cases hba : b = n
  · subst hba
    show va_at E.2.2.1 vwCl (xB E + b, va_up h b e b) H'
    rw [show va_up _ _ e b = e from if_pos rfl]
    exact he
  · show va_at E.2.2.1 vwCl (xB E + b, va_up h n e b) H'
    rw [show va_up _ _ e b = _ from if_neg hba]
    exact (h3 b (by show b < n; omega)).kept (ho _ (by show xB E + b < xB E + n; omega))
theorem x_locs {E : xE} {locs : List Loc} {a k : Nat} (h : ∀ q ∈ locs, xB E ≤ q.base) : ∀ q ∈ locs ++ [(⟨xB E + a, k⟩ : Loc)], xB E ≤ q.base := by
  intro q hq
  rcases List.mem_append.mp hq with h1 | h1
  · exact h q h1
  · rw [List.mem_singleton.mp h1]
    exact Nat.le_add_right _ _
section XHR
variable {E : xE} {M : xM} {d mc ms rc rs : Nat} {Q : Option Value → xS → Prop} {pc : Nat} {lv : List (Nat × Value)} {st : List Value} {S : xS}
/-- the same cells, told otherwise -/
theorem x_heq {x : Bool} {n : Nat} {h h' : Nat → va_E} (he : ∀ a, a < n → h a = h' a) (kk : xX E M d mc ms rc rs Q pc lv st (x, n, h')) : xX E M d mc ms rc rs Q pc lv st (x, n, h) := by
  intro hG p e s m args below meth c H locs cells slots ls hC hs hH hlo hlv hc1 hs1
  refine kk hG p e s m args below meth c H locs cells slots ls hC hs ⟨hH.1, hH.2.1, fun a ha => ?_, hH.2.2.2⟩ hlo hlv hc1 hs1
  show va_at _ _ (_, h' a) _
  rw [← he a ha]
  exact hH.2.2.1 a ha
theorem x_Q {Q' : Option Value → xS → Prop} (hQ : ∀ v S, Q' v S → Q v S) (kk : xX E M d mc ms rc rs Q' pc lv st S) : xX E M d mc ms rc rs Q pc lv st S := by
  intro hG p e s m args below meth c H locs cells slots ls hC hs hH hlo hlv hc1 hs1 T hT X
  obtain ⟨t, a1, o, b1, b2, ⟨v, S', c1, c2, c3, c4⟩, b4⟩ := kk hG p e s m args below meth c H locs cells slots ls hC hs hH hlo hlv hc1 hs1 T hT X
  exact ⟨t, a1, o, b1, b2, ⟨v, S', c1, c2, c3, hQ _ _ c4⟩, b4⟩
theorem x_get {idx ci k a N : Nat} {C : String} {T : u_T} {ty : Nat → FieldType} {fs : List Value} {v : Value} (hd : decode M.2.1 pc = .ok (.getfield idx, 3)) (hcl : xCl ci C T N ty) (hk : k < N) (hl : xFl M.1.cls idx T k) (ha : a < S.2.1) (hc : S.2.2 a = .inr (ci, fs)) (hv : fs[k]? = some v)
    (kk : xX E M d mc ms rc rs Q (pc + 3) lv (v :: st) S) : xX E M d mc ms rc rs Q pc lv (.ref (xB E + a) :: st) S := by
  intro hG p e s m args below meth c H locs cells slots ls hC hs hH hlo hlv hc1 hs1
  obtain ⟨q1, q2, q3, q4, q5, q6, q7, q8, q9, q10⟩ := id hC
  have hts : ∀ w ∈ u_ws C T N, w.before args s = true := fun w hw => x_word hG q8 (hcl.2.1 w hw) args
  have hP := x_one (x_cell hH ha hc)
  have k1 := kk hG p e s m args below meth c H locs cells slots ls hC hs hH hlo hlv hc1 hs1
  rcases hl with h4 | ⟨host, h4⟩
  · exact va_get q1 q2 hts (fun _ h => h) q4 (x_K hG q8) hP 0 rfl hcl.1 k hk (x_word hG q8 h4 args) (fun _ h => h) hv hd k1
  · exact va_getN q1 q2 hts (fun _ h => h) q4 (x_K hG q8) hP 0 rfl hcl.1 k hk (x_word hG q8 h4 args) (fun _ h => h) hv hd k1
theorem x_put {idx ci k a N : Nat} {C : String} {T : u_T} {ty : Nat → FieldType} {fs : List Value} {v : Value} (hd : decode M.2.1 pc = .ok (.putfield idx, 3)) (hcl : xCl ci C T N ty) (hk : k < N) (hl : xFl M.1.cls idx T k) (hfin : (T k).2.2.2 = false) (hn : narrow (ty k) v = v) (hfit : fits (ty k) v = true) (ha : a < S.2.1) (hc : S.2.2 a = .inr (ci, fs)) (hkl : k < fs.length)
    (kk : xX E M d mc ms rc rs Q (pc + 3) lv st (S.1, S.2.1, va_up S.2.2 a (.inr (ci, fs.set k v)))) : xX E M d mc ms rc rs Q pc lv (v :: .ref (xB E + a) :: st) S := by
  intro hG p e s m args below meth c H locs cells slots ls hC hs hH hlo hlv hc1 hs1
  obtain ⟨q1, q2, q3, q4, q5, q6, q7, q8, q9, q10⟩ := id hC
  obtain ⟨hci, hws, hty, hnm⟩ := hcl
  have hts : ∀ w ∈ u_ws C T N, w.before args s = true := fun w hw => x_word hG q8 (hws w hw) args
  have hK := x_K hG q8
  have hap := va_apart (own := M.1.cls) hts (fun _ h => h) ty hty hnm hK hci
  obtain ⟨r, h1, cell, z1, z2, z3, z4⟩ := x_cell hH ha hc
  have hr : r = (C, T, N) := Option.some.inj (h1.symm.trans hci)
  subst hr
  obtain ⟨hS, hfc, kC, hkC, hkind⟩ := hK.1 ci _ hci
  obtain ⟨cf, kf, fi, f, hi, hsl⟩ := hS k hk
  have hlay := hts _ (u_in_lay hk)
  unfold u_lay at hlay
  rw [if_neg (by rw [hfin]; decide)] at hlay
  have hst := (u_facts hfc hkC (u_lays hts (fun _ h => h) hk) hi).1
  have h6 := u_store hfc hkC hkind hlay hi (hty k hk) hn hfit
  have fin : ∀ H' : Heap, H'[xB E + a]? = some (cell.setSlot f.slot v) → H'.size = H.size → (∀ q, q ≠ xB E + a → H'[q]? = H[q]?) → W p E.1 e (xR d mc ms) s m args below meth c H' (locs ++ [⟨xB E + a, f.slot⟩]) cells slots (MQ below (xQc E Q) args s mc ms (fun q => xB E ≤ q)) (F0 m (pc + 3) ls st) := by
    intro H' e1 e2 e3
    rw [hsl] at e1
    refine kk hG p e s m args below meth c H' _ cells slots ls hC (by rw [e2]; exact hs) (x_upd hH e2 e3 ?_) (x_locs hlo) hlv hc1 hs1
    exact ⟨_, hci, t_OB.to (V := updV (vp_V fs) k v) ⟨_, e1, z2, z3, t_set z4 hap hk v⟩ (fun j _ => vp_updV_set hkl v j)⟩
  rcases hl with h4 | ⟨host, h4⟩
  · exact W.putK q1 q2 (f := f) ⟨q4, x_word hG q8 h4 args, ⟨_, _, _, hi⟩, hst⟩ (by rw [z2]; exact h6) z1 z3 (by rw [hsl]; exact k2_hasslot (z4 k hk)) rfl rfl hd fin
  · exact va_WputK q1 q2 (f := f) q4 (x_word hG q8 h4 args) hi hst (by rw [z2]; exact h6) z1 z3 (by rw [hsl]; exact k2_hasslot (z4 k hk)) rfl rfl hd fin
theorem x_putF {idx ci k a N : Nat} {C : String} {T : u_T} {ty : Nat → FieldType} {fs : List Value} {v : Value} (hd : decode M.2.1 pc = .ok (.putfield idx, 3)) (hcl : xCl ci C T N ty) (hk : k < N) (hl : xw (.fieldLink M.1.cls idx (T k).1 (T k).2.1 (T k).2.2.1)) (hfin : (T k).2.2.2 = true) (hnm0 : M.1.name = "<init>") (hdecl : (T k).1 = M.1.cls) (hn : narrow (ty k) v = v) (hfit : fits (ty k) v = true) (ha : a < S.2.1) (hc : S.2.2 a = .inr (ci, fs)) (hkl : k < fs.length)
    (kk : xX E M d mc ms rc rs Q (pc + 3) lv st (S.1, S.2.1, va_up S.2.2 a (.inr (ci, fs.set k v)))) : xX E M d mc ms rc rs Q pc lv (v :: .ref (xB E + a) :: st) S := by
  intro hG p e s m args below meth c H locs cells slots ls hC hs hH hlo hlv hc1 hs1
  obtain ⟨q1, q2, q3, q4, q5, q6, q7, q8, q9, q10⟩ := id hC
  obtain ⟨hci, hws, hty, hnm⟩ := hcl
  have hts : ∀ w ∈ u_ws C T N, w.before args s = true := fun w hw => x_word hG q8 (hws w hw) args
  have hK := x_K hG q8
  have hap := va_apart (own := M.1.cls) hts (fun _ h => h) ty hty hnm hK hci
  obtain ⟨r, h1, cell, z1, z2, z3, z4⟩ := x_cell hH ha hc
  have hr : r = (C, T, N) := Option.some.inj (h1.symm.trans hci)
  subst hr
  obtain ⟨hS, hfc, kC, hkC, hkind⟩ := hK.1 ci _ hci
  obtain ⟨cf, kf, fi, f, hi, hsl⟩ := hS k hk
  have hlay := hts _ (u_in_lay hk)
  unfold u_lay at hlay
  rw [if_pos hfin] at hlay
  have hst := (u_facts hfc hkC (u_lays hts (fun _ h => h) hk) hi).1
  have hcf : m.cls = cf := by
    obtain ⟨_, _, c', _, _, _, -, -, hf', -, -, -, hown2, -⟩ := Cond.laysFinal_spec hlay
    have e1 : c' = cf := by have := hi.symm.trans hf'; simp at this; exact this.1.symm
    rw [hdecl] at hown2
    rw [← e1]; exact Option.some.inj (q4.symm.trans hown2)
  have h6 := u_fits hfc hkC hkind (Or.inr hlay) hi (hty k hk) hn hfit
  refine W.putFinK q1 q2 q4 (x_word hG q8 hl args) hi hst hcf (by rw [q7]; exact hnm0) (by rw [z2]; exact h6) z1 z3 (by rw [hsl]; exact k2_hasslot (z4 k hk)) rfl rfl hd fun H' e1 e2 e3 => ?_
  rw [hsl] at e1
  refine kk hG p e s m args below meth c H' _ cells slots ls hC (by rw [e2]; exact hs) (x_upd hH e2 e3 ?_) (x_locs hlo) hlv hc1 hs1
  exact ⟨_, hci, t_OB.to (V := updV (vp_V fs) k v) ⟨_, e1, z2, z3, t_set z4 hap hk v⟩ (fun j _ => vp_updV_set hkl v j)⟩
theorem x_iald {a n : Nat} {f : Nat → Int32} {i : Int32} (hd : decode M.2.1 pc = .ok (.iaload, 1)) (ha : a < S.2.1) (hc : S.2.2 a = .inl (E.2.2.2 0, n, .inl f)) (hin : vp_in i n)
    (kk : xX E M d mc ms rc rs Q (pc + 1) lv (.int (f i.toNatClampNeg) :: st) S) : xX E M d mc ms rc rs Q pc lv (.int i :: .ref (xB E + a) :: st) S := by
  intro hG p e s m args below meth c H locs cells slots ls hC hs hH hlo hlv hc1 hs1
  exact va_iald hC.1 hC.2.1 (x_K hG hC.2.2.2.2.2.2.2.1) (x_one (x_cell hH ha hc)) 0 0 rfl rfl hin hd (kk hG p e s m args below meth c H locs cells slots ls hC hs hH hlo hlv hc1 hs1)
theorem x_bald {a n : Nat} {f : Nat → Int32} {i : Int32} (hd : decode M.2.1 pc = .ok (.baload, 1)) (ha : a < S.2.1) (hc : S.2.2 a = .inl (E.2.2.2 1, n, .inl f)) (hin : vp_in i n)
    (kk : xX E M d mc ms rc rs Q (pc + 1) lv (.int (f i.toNatClampNeg) :: st) S) : xX E M d mc ms rc rs Q pc lv (.int i :: .ref (xB E + a) :: st) S := by
  intro hG p e s m args below meth c H locs cells slots ls hC hs hH hlo hlv hc1 hs1
  exact va_bald hC.1 hC.2.1 (x_K hG hC.2.2.2.2.2.2.2.1) (x_one (x_cell hH ha hc)) 0 1 rfl rfl hin hd (kk hG p e s m args below meth c H locs cells slots ls hC hs hH hlo hlv hc1 hs1)
theorem x_zald {a n : Nat} {f : Nat → Int32} {i : Int32} (hd : decode M.2.1 pc = .ok (.baload, 1)) (ha : a < S.2.1) (hc : S.2.2 a = .inl (E.2.2.2 2, n, .inl f)) (hin : vp_in i n)
    (kk : xX E M d mc ms rc rs Q (pc + 1) lv (.int (f i.toNatClampNeg) :: st) S) : xX E M d mc ms rc rs Q pc lv (.int i :: .ref (xB E + a) :: st) S := by
  intro hG p e s m args below meth c H locs cells slots ls hC hs hH hlo hlv hc1 hs1
  exact va_zald hC.1 hC.2.1 (x_K hG hC.2.2.2.2.2.2.2.1) (x_one (x_cell hH ha hc)) 0 2 rfl rfl hin hd (kk hG p e s m args below meth c H locs cells slots ls hC hs hH hlo hlv hc1 hs1)
theorem x_lald {a n : Nat} {f : Nat → Int64} {i : Int32} (hd : decode M.2.1 pc = .ok (.laload, 1)) (ha : a < S.2.1) (hc : S.2.2 a = .inl (E.2.2.2 3, n, .inr (.inl f))) (hin : vp_in i n)
    (kk : xX E M d mc ms rc rs Q (pc + 1) lv (.long (f i.toNatClampNeg) :: st) S) : xX E M d mc ms rc rs Q pc lv (.int i :: .ref (xB E + a) :: st) S := by
  intro hG p e s m args below meth c H locs cells slots ls hC hs hH hlo hlv hc1 hs1
  exact va_lald hC.1 hC.2.1 (x_K hG hC.2.2.2.2.2.2.2.1) (x_one (x_cell hH ha hc)) 0 3 rfl rfl hin hd (kk hG p e s m args below meth c H locs cells slots ls hC hs hH hlo hlv hc1 hs1)
theorem x_aald {a n b : Nat} {f : Nat → Option Nat} {i : Int32} (hd : decode M.2.1 pc = .ok (.aaload, 1)) (ha : a < S.2.1) (hc : S.2.2 a = .inl (E.2.2.2 4, n, .inr (.inr (.inr (.inr f))))) (hin : vp_in i n) (hb : f i.toNatClampNeg = some b)
    (kk : xX E M d mc ms rc rs Q (pc + 1) lv (.ref b :: st) S) : xX E M d mc ms rc rs Q pc lv (.int i :: .ref (xB E + a) :: st) S := by
  intro hG p e s m args below meth c H locs cells slots ls hC hs hH hlo hlv hc1 hs1
  have hlt : i.toNatClampNeg < n := Nat.not_le.mp fun q => hin (Or.inr q)
  have hK := x_K hG hC.2.2.2.2.2.2.2.1
  exact W.aald (v := .ref b) (ty := .array .int) hC.1 hC.2.1 (x_cell hH ha hc) ((hK.2 4 _ rfl).1 n (fun j => va_rf (f j))) rfl (fun q => by cases q) (by show ¬ (i < 0 ∨ (arrV _ _ _).slots.size ≤ _); rw [arrV_size]; exact hin) (by show (arrV _ _ _).slots[_]? = _; rw [arrV_read _ _ hlt, hb]; rfl) rfl rfl hd (kk hG p e s m args below meth c H locs cells slots ls hC hs hH hlo hlv hc1 hs1)
theorem x_alen {a t : Nat} {z : vp_A} {ty : FieldType} {v : Int32} (hd : decode M.2.1 pc = .ok (.arraylength, 1)) (ha : a < S.2.1) (hc : S.2.2 a = .inl (E.2.2.2 t, z)) (ht : (xTys E)[t]? = some (E.2.2.2 t, ty)) (hv : Int32.ofNat z.1 = v)
    (kk : xX E M d mc ms rc rs Q (pc + 1) lv (.int v :: st) S) : xX E M d mc ms rc rs Q pc lv (.ref (xB E + a) :: st) S := by
  intro hG p e s m args below meth c H locs cells slots ls hC hs hH hlo hlv hc1 hs1
  exact va_alen hC.1 hC.2.1 (x_K hG hC.2.2.2.2.2.2.2.1) (x_one (x_cell hH ha hc)) 0 t rfl ht hv hd (kk hG p e s m args below meth c H locs cells slots ls hC hs hH hlo hlv hc1 hs1)
theorem x_iast {a n : Nat} {f : Nat → Int32} {i x : Int32} (hd : decode M.2.1 pc = .ok (.iastore, 1)) (ha : a < S.2.1) (hc : S.2.2 a = .inl (E.2.2.2 0, n, .inl f)) (hin : vp_in i n)
    (kk : xX E M d mc ms rc rs Q (pc + 1) lv st (S.1, S.2.1, va_up S.2.2 a (.inl (E.2.2.2 0, n, .inl (upd f i.toNatClampNeg x))))) : xX E M d mc ms rc rs Q pc lv (.int x :: .int i :: .ref (xB E + a) :: st) S := by
  intro hG p e s m args below meth c H locs cells slots ls hC hs hH hlo hlv hc1 hs1
  have hK := x_K hG hC.2.2.2.2.2.2.2.1
  refine W.iast hC.1 hC.2.1 (x_cell hH ha hc) ((hK.2 0 _ rfl).1 n (fun j => .int (f j))) (fun q => by cases q) (by show ¬ (i < 0 ∨ (arrV _ _ _).slots.size ≤ _); rw [arrV_size]; exact hin) rfl rfl hd fun H1 e1 z oq => ?_
  refine kk hG p e s m args below meth c H1 _ cells slots ls hC (by rw [z]; exact hs) (x_upd hH z oq ?_) (x_locs hlo) hlv hc1 hs1
  show H1[_]? = some (vp_cell _ _)
  rw [e1, vp_cell_i, vp_cell_i, arrV_store]
  congr 2
  funext q
  by_cases hq : q = i.toNatClampNeg
  · subst hq
    simp [updV, upd]
  · simp [updV, upd, hq]
theorem x_bast {a n : Nat} {f : Nat → Int32} {i x : Int32} (hd : decode M.2.1 pc = .ok (.bastore, 1)) (ha : a < S.2.1) (hc : S.2.2 a = .inl (E.2.2.2 1, n, .inl f)) (hin : vp_in i n)
    (kk : xX E M d mc ms rc rs Q (pc + 1) lv st (S.1, S.2.1, va_up S.2.2 a (.inl (E.2.2.2 1, n, .inl (upd f i.toNatClampNeg (vp_nar .byte x)))))) : xX E M d mc ms rc rs Q pc lv (.int x :: .int i :: .ref (xB E + a) :: st) S := by
  intro hG p e s m args below meth c H locs cells slots ls hC hs hH hlo hlv hc1 hs1
  have hK := x_K hG hC.2.2.2.2.2.2.2.1
  refine W.bast hC.1 hC.2.1 (x_cell hH ha hc) ((hK.2 1 _ rfl).1 n (fun j => .int (f j))) (fun q => by cases q) (by show ¬ (i < 0 ∨ (arrV _ _ _).slots.size ≤ _); rw [arrV_size]; exact hin) rfl rfl hd fun H1 e1 z oq => ?_
  refine kk hG p e s m args below meth c H1 _ cells slots ls hC (by rw [z]; exact hs) (x_upd hH z oq ?_) (x_locs hlo) hlv hc1 hs1
  show H1[_]? = some (vp_cell _ _)
  rw [e1, vp_cell_i, vp_cell_i, arrV_store]
  congr 2
  funext q
  by_cases hq : q = i.toNatClampNeg
  · subst hq
    simp [updV, upd, vp_nar]
    try rfl
  · simp [updV, upd, hq]
theorem x_zast {a n : Nat} {f : Nat → Int32} {i x : Int32} (hd : decode M.2.1 pc = .ok (.bastore, 1)) (ha : a < S.2.1) (hc : S.2.2 a = .inl (E.2.2.2 2, n, .inl f)) (hin : vp_in i n)
    (kk : xX E M d mc ms rc rs Q (pc + 1) lv st (S.1, S.2.1, va_up S.2.2 a (.inl (E.2.2.2 2, n, .inl (upd f i.toNatClampNeg (vp_nar .boolean x)))))) : xX E M d mc ms rc rs Q pc lv (.int x :: .int i :: .ref (xB E + a) :: st) S := by
  intro hG p e s m args below meth c H locs cells slots ls hC hs hH hlo hlv hc1 hs1
  have hK := x_K hG hC.2.2.2.2.2.2.2.1
  refine W.zast hC.1 hC.2.1 (x_cell hH ha hc) ((hK.2 2 _ rfl).1 n (fun j => .int (f j))) (fun q => by cases q) (by show ¬ (i < 0 ∨ (arrV _ _ _).slots.size ≤ _); rw [arrV_size]; exact hin) rfl rfl hd fun H1 e1 z oq => ?_
  refine kk hG p e s m args below meth c H1 _ cells slots ls hC (by rw [z]; exact hs) (x_upd hH z oq ?_) (x_locs hlo) hlv hc1 hs1
  show H1[_]? = some (vp_cell _ _)
  rw [e1, vp_cell_i, vp_cell_i, arrV_store]
  congr 2
  funext q
  by_cases hq : q = i.toNatClampNeg
  · subst hq
    simp [updV, upd, vp_nar]
    try rfl
  · simp [updV, upd, hq]
theorem x_last {a n : Nat} {f : Nat → Int64} {i : Int32} {x : Int64} (hd : decode M.2.1 pc = .ok (.lastore, 1)) (ha : a < S.2.1) (hc : S.2.2 a = .inl (E.2.2.2 3, n, .inr (.inl f))) (hin : vp_in i n)
    (kk : xX E M d mc ms rc rs Q (pc + 1) lv st (S.1, S.2.1, va_up S.2.2 a (.inl (E.2.2.2 3, n, .inr (.inl (vp_updL f i.toNatClampNeg x)))))) : xX E M d mc ms rc rs Q pc lv (.long x :: .int i :: .ref (xB E + a) :: st) S := by
  intro hG p e s m args below meth c H locs cells slots ls hC hs hH hlo hlv hc1 hs1
  have hK := x_K hG hC.2.2.2.2.2.2.2.1
  refine W.last hC.1 hC.2.1 (x_cell hH ha hc) ((hK.2 3 _ rfl).1 n (fun j => .long (f j))) (fun q => by cases q) (by show ¬ (i < 0 ∨ (arrV _ _ _).slots.size ≤ _); rw [arrV_size]; exact hin) rfl rfl hd fun H1 e1 z oq => ?_
  refine kk hG p e s m args below meth c H1 _ cells slots ls hC (by rw [z]; exact hs) (x_upd hH z oq ?_) (x_locs hlo) hlv hc1 hs1
  show H1[_]? = some (vp_cell _ _)
  rw [e1, vp_cell_l, vp_cell_l, arrV_store]
  congr 2
  funext q
  by_cases hq : q = i.toNatClampNeg
  · subst hq
    simp [updV, vp_updL]
  · simp [updV, vp_updL, hq]
theorem x_ldc {idx : Nat} {v : Int32} (hd : decode M.2.1 pc = .ok (.ldc idx, 2)) (hw : xw (.constant M.1.cls idx v)) (kk : xX E M d mc ms rc rs Q (pc + 2) lv (.int v :: st) S) : xX E M d mc ms rc rs Q pc lv st S := by
  intro hG p e s m args below meth c H locs cells slots ls hC hs hH hlo hlv hc1 hs1
  exact W.ldc hC.1 hC.2.1 hC.2.2.2.1 (x_word hG hC.2.2.2.2.2.2.2.1 hw args) (g := F0 m pc ls st) rfl hd (kk hG p e s m args below meth c H locs cells slots ls hC hs hH hlo hlv hc1 hs1)
theorem x_ldc2 {idx : Nat} {v : Int64} (hd : decode M.2.1 pc = .ok (.ldc2_w idx, 3)) (hw : xw (.constantLong M.1.cls idx v)) (kk : xX E M d mc ms rc rs Q (pc + 3) lv (.long v :: st) S) : xX E M d mc ms rc rs Q pc lv st S := by
  intro hG p e s m args below meth c H locs cells slots ls hC hs hH hlo hlv hc1 hs1
  exact W.ldc2 hC.1 hC.2.1 hC.2.2.2.1 (x_word hG hC.2.2.2.2.2.2.2.1 hw args) (g := F0 m pc ls st) rfl hd (kk hG p e s m args below meth c H locs cells slots ls hC hs hH hlo hlv hc1 hs1)
theorem x_done {E : xE} {Q : Option Value → xS → Prop} {v : Option Value} {S : xS} (hQ : Q v S) {s t : State} {H : Heap} {args : Array Value} (hH : xH E S H) (hW : E.2.1.WarmedH s.vm) (ht : t.heap = H) (hw : s.WarmedH t.vm) : xQc E Q args s (.returned v) t :=
  ⟨v, S, rfl, State.WarmedH.trans hW hw, by rw [ht]; exact hH, hQ⟩
theorem x_iret {v : Int32} (hd : decode M.2.1 pc = .ok (.ireturn, 1)) (hr : M.2.2.2 = some .int) (hQ : Q (some (.int v)) S) : xX E M d mc ms rc rs Q pc lv [.int v] S := by
  intro hG p e s m args below meth c H locs cells slots ls hC hs hH hlo hlv hc1 hs1
  obtain ⟨q1, q2, q3, q4, q5, q6, q7, q8, q9, q10⟩ := id hC
  refine W.widen (k := mc) (n := ms) (by omega) (by omega) ?_
  exact W.iret q1 q2 (by rw [q5]; exact hr) (fun t ht hw => x_done hQ hH q8 ht hw) hlo hd q6
theorem x_zret {v : Int32} {ty : FieldType} (hd : decode M.2.1 pc = .ok (.ireturn, 1)) (hr : M.2.2.2 = some ty) (hn : narrow ty (.int v) = .int v) (hQ : Q (some (.int v)) S) : xX E M d mc ms rc rs Q pc lv [.int v] S := by
  intro hG p e s m args below meth c H locs cells slots ls hC hs hH hlo hlv hc1 hs1
  obtain ⟨q1, q2, q3, q4, q5, q6, q7, q8, q9, q10⟩ := id hC
  refine W.widen (k := mc) (n := ms) (by omega) (by omega) ?_
  exact W.zret q1 q2 (by rw [q5]; exact hr) hn (fun t ht hw => x_done hQ hH q8 ht hw) hlo hd q6
theorem x_lret {v : Int64} (hd : decode M.2.1 pc = .ok (.lreturn, 1)) (hr : M.2.2.2 = some .long) (hQ : Q (some (.long v)) S) : xX E M d mc ms rc rs Q pc lv [.long v] S := by
  intro hG p e s m args below meth c H locs cells slots ls hC hs hH hlo hlv hc1 hs1
  obtain ⟨q1, q2, q3, q4, q5, q6, q7, q8, q9, q10⟩ := id hC
  refine W.widen (k := mc) (n := ms) (by omega) (by omega) ?_
  exact W.lret q1 q2 (by rw [q5]; exact hr) (fun t ht hw => x_done hQ hH q8 ht hw) hlo hd q6
theorem x_vret (hd : decode M.2.1 pc = .ok (.return_, 1)) (hr : M.2.2.2 = none) (hQ : Q none S) : xX E M d mc ms rc rs Q pc lv [] S := by
  intro hG p e s m args below meth c H locs cells slots ls hC hs hH hlo hlv hc1 hs1
  obtain ⟨q1, q2, q3, q4, q5, q6, q7, q8, q9, q10⟩ := id hC
  refine W.widen (k := mc) (n := ms) (by omega) (by omega) ?_
  exact W.vret q1 q2 (by rw [q5]; exact hr) (fun t ht hw => x_done hQ hH q8 ht hw) hlo hd q6
end XHR
end
section
/-! the X layer: calls, makings -/
/-- what a call's place needs of the tables -/
def xCw (own : String) (idx : Nat) (M' : xM) (n : Nat) : Prop :=
  (xw (.methodLink own idx M'.1) ∨ ∃ host, xw (.methodLinkNest own idx M'.1 host)) ∧ xw (.code M'.1 M'.2.1 M'.2.2.1 M'.2.2.2) ∧ xw (.initialized M'.1.cls) ∧
  (M'.1.cls ≠ "java/lang/invoke/MethodHandle" ∧ M'.1.cls ≠ "java/lang/invoke/VarHandle" ∧ (parseMethodDescriptor M'.1.desc).map (fun d => d.parameters.length) = some n) ∧ M'.2.2.1 ≤ 40
section XCR
variable {E : xE} {M : xM} {d mc ms rc rs : Nat} {Q : Option Value → xS → Prop} {pc : Nat} {lv : List (Nat × Value)} {st : List Value} {S : xS}
theorem x_run {M' : xM} {mc' ms' : Nat} {rest : List Value} {Q' : Option Value → xS → Prop} {a : Array Value} (hG : xGH E) {p : Program} {e : Env} {s : State} {m : MethodId} {args : Array Value} {below : List Frame} {meth : Method} {c : Code} {H : Heap} {locs : List Loc} {cells slots : Nat} {ls : Array Slot}
    (hr : va_Run p E.1 e (xR d mc ms) s m args below meth c H locs cells slots mc' ms' (F0 m pc ls st) rest (xQc E Q' a) (fun q => xB E ≤ q))
    (hC : xCx E M p s m meth c) (hlo : ∀ q ∈ locs, xB E ≤ q.base) (hlv : lv_has ls M.2.2.1 lv) (hc1 : cells + rc = mc) (hs1 : slots + rs = ms) (hmc : mc' ≤ rc) (hms : ms' ≤ rs)
    (kk : ∀ (v : Option Value) (S' : xS), Q' v S' → xX E M d mc ms (rc - mc') (rs - ms') Q (pc + 3) lv (v.toList ++ rest) S') :
    W p E.1 e (xR d mc ms) s m args below meth c H locs cells slots (MQ below (xQc E Q) args s mc ms (fun q => xB E ≤ q)) (F0 m pc ls st) := by
  intro T hT X
  obtain ⟨v, st₀, t, T', L, h0, X', hL, e1, e2, ⟨v', S', hv, hW, hH', hq⟩, stp⟩ := hr T hT X
  cases hv
  obtain ⟨t2, a1, b1⟩ := kk v S' hq hG p e s m args below meth c T'.heap (locs ++ L) (cells + mc') (slots + ms') ls hC X'.same.2.1 (by rw [e1]; exact hH')
    (fun q hq => by
      rcases List.mem_append.mp hq with h | h
      · exact hlo q h
      · exact hL q h) hlv (by omega) (by omega) T' rfl X'
  exact ⟨t2, stp t2 a1, b1⟩
theorem x_cb {own : String} {idx n : Nat} {M' : xM} {d' mc' ms' : Nat} (hG : xGH E) {s : State} (hW : E.2.1.WarmedH s.vm) (args : Array Value) (hw : xCw own idx M' n) (hdd : d' < d) :
    (xR d' mc' ms').cells = mc' ∧ (xR d' mc' ms').slots = ms' ∧ (xR d' mc' ms').frames + 1 ≤ (xR d mc ms).frames ∧ 8 + (M'.2.2.1 + 11) + (xR d' mc' ms').locals ≤ (xR d mc ms).locals ∧ (∀ w ∈ [Cond.code M'.1 M'.2.1 M'.2.2.1 M'.2.2.2], ∀ (a' : Array Value) (U : State), s.WarmedH U.vm → w.before a' U = true) ∧ Cond.code M'.1 M'.2.1 M'.2.2.1 M'.2.2.2 ∈ [Cond.code M'.1 M'.2.1 M'.2.2.1 M'.2.2.2] := by
  refine ⟨rfl, rfl, ?_, ?_, fun w hw' a' U hU => ?_, List.mem_singleton.mpr rfl⟩
  · show d' + 1 + 1 ≤ d + 1
    omega
  · have := hw.2.2.2.2
    show 8 + (M'.2.2.1 + 11) + 64 * (d' + 1) ≤ 64 * (d + 1)
    omega
  · rw [List.mem_singleton.mp hw']
    exact x_word hG (State.WarmedH.trans hW hU) hw.2.1 a'
theorem x_len {own : String} {idx n : Nat} {M' : xM} (hw : xCw own idx M' n) : ∀ sig, parseMethodDescriptor M'.1.desc = some sig → n = sig.parameters.length := by
  intro sig h
  have h2 := hw.2.2.2.1.2.2
  rw [h] at h2
  exact (Option.some.inj h2).symm
theorem x_pre {H : Heap} {s : State} {av : List Value} (hW : E.2.1.WarmedH s.vm) (hH : xH E S H) : ∀ U : State, U.heap = H → s.WarmedH U.vm → xPc E av S av.toArray U := fun U hU hw => ⟨rfl, State.WarmedH.trans hW hw, by rw [hU]; exact hH⟩
theorem x_callV {idx n b ci N : Nat} {C : String} {T : u_T} {fs : List Value} (M' : xM) {d' mc' ms' : Nat} (As : List Value) (rest : List Value) {Q' : Option Value → xS → Prop} (hd : decode M.2.1 pc = .ok (.invokevirtual idx, 3)) (hw : xCw M.1.cls idx M' n) (hi : xw (.instanceMethod M'.1)) (hsel : xw (.selects C M'.1 M'.1)) (hci : vwCl[ci]? = some (C, T, N)) (hb : b < S.2.1) (hcell : S.2.2 b = .inr (ci, fs))
    (hst : st = As.reverse ++ .ref (xB E + b) :: rest) (hn : As.length = n) (hcat : (rest.map fun v => v.category).sum ≤ 8) (hdd : d' < d) (hmc : mc' ≤ rc) (hms : ms' ≤ rs) (hC' : xC E M' d' mc' ms' (.ref (xB E + b) :: As) S Q')
    (kk : ∀ (v : Option Value) (S' : xS), Q' v S' → xX E M d mc ms (rc - mc') (rs - ms') Q (pc + 3) lv (v.toList ++ rest) S') : xX E M d mc ms rc rs Q pc lv st S := by
  intro hG p e s m args below meth c H locs cells slots ls hC hs hH hlo hlv hc1 hs1
  obtain ⟨q1, q2, q3, q4, q5, q6, q7, q8, q9, q10⟩ := id hC
  have hcb := x_cb (d := d) (mc := mc) (ms := ms) (d' := d') (mc' := mc') (ms' := ms') hG q8 args hw hdd
  have hcode := x_word hG q8 hw.2.1 args
  have hini := x_word hG q8 hw.2.2.1 args
  have hrecv := va_recv (a := xB E + b) (q0 := 0) (fs := fs) (x_K hG q8) (x_one (x_cell hH hb hcell)) hci rfl
  have hcap : cells + mc' ≤ (xR d mc ms).cells ∧ slots + ms' ≤ (xR d mc ms).slots := ⟨by show cells + mc' ≤ mc; omega, by show slots + ms' ≤ ms; omega⟩
  have hpre : PreV s H C (xB E + b) (xPc E (.ref (xB E + b) :: As) S) As := ⟨x_blind, hrecv, x_pre q8 hH⟩
  have hW8 : 2 * (F0 m pc ls st).monitorRoom + (rest.map fun v => v.category).sum ≤ 8 := by show 2 * 0 + _ ≤ 8; omega
  have hMH := hw.2.2.2.1
  rcases hw.1 with hl | ⟨host, hl⟩
  · exact x_run (M' := M') hG (va_runV (C := C) (b := xB E + b) (As := As) (rest := rest) (Ts := []) ⟨q1, q2, q3, q4, fun _ h => by cases h⟩ (hC' hG) ⟨⟨hcb.1, hcb.2.1, hcb.2.2.1, hcb.2.2.2.1, hcb.2.2.2.2.1, hcb.2.2.2.2.2, hcode, hini, ⟨hMH.1, hMH.2.1⟩, x_len hw, x_word hG q8 hl args⟩, x_word hG q8 hi args, x_word hG q8 hsel args⟩ hpre rfl hn hlv.1 hst hW8 hd hcap) hC hlo hlv hc1 hs1 hmc hms kk
  · exact x_run (M' := M') hG (va_runVN (C := C) (b := xB E + b) (As := As) (rest := rest) (Ts := []) ⟨q1, q2, q3, q4, fun _ h => by cases h⟩ (hC' hG) ⟨⟨hcb, hcode, hini, ⟨hMH.1, hMH.2.1⟩, x_len hw, x_word hG q8 hl args⟩, x_word hG q8 hi args, x_word hG q8 hsel args⟩ hpre rfl hn hlv.1 hst hW8 hd hcap) hC hlo hlv hc1 hs1 hmc hms kk
theorem x_callS {idx n : Nat} (M' : xM) {d' mc' ms' : Nat} (As : List Value) (rest : List Value) {Q' : Option Value → xS → Prop} (hd : decode M.2.1 pc = .ok (.invokestatic idx, 3)) (hw : xCw M.1.cls idx M' n) (hi : xw (.static M'.1))
    (hst : st = As.reverse ++ rest) (hn : As.length = n) (hcat : (rest.map fun v => v.category).sum ≤ 8) (hdd : d' < d) (hmc : mc' ≤ rc) (hms : ms' ≤ rs) (hC' : xC E M' d' mc' ms' As S Q')
    (kk : ∀ (v : Option Value) (S' : xS), Q' v S' → xX E M d mc ms (rc - mc') (rs - ms') Q (pc + 3) lv (v.toList ++ rest) S') : xX E M d mc ms rc rs Q pc lv st S := by
  intro hG p e s m args below meth c H locs cells slots ls hC hs hH hlo hlv hc1 hs1
  obtain ⟨q1, q2, q3, q4, q5, q6, q7, q8, q9, q10⟩ := id hC
  have hcb := x_cb (d := d) (mc := mc) (ms := ms) (d' := d') (mc' := mc') (ms' := ms') hG q8 args hw hdd
  have hcode := x_word hG q8 hw.2.1 args
  have hini := x_word hG q8 hw.2.2.1 args
  have hcap : cells + mc' ≤ (xR d mc ms).cells ∧ slots + ms' ≤ (xR d mc ms).slots := ⟨by show cells + mc' ≤ mc; omega, by show slots + ms' ≤ ms; omega⟩
  have hpre : PreS s H (xPc E As S) As := ⟨x_blind, x_pre q8 hH⟩
  have hW8 : 2 * (F0 m pc ls st).monitorRoom + (rest.map fun v => v.category).sum ≤ 8 := by show 2 * 0 + _ ≤ 8; omega
  have hMH := hw.2.2.2.1
  rcases hw.1 with hl | ⟨host, hl⟩
  · exact x_run (M' := M') hG (va_runS (As := As) (rest := rest) (Ts := []) ⟨q1, q2, q3, q4, fun _ h => by cases h⟩ (hC' hG) ⟨⟨hcb.1, hcb.2.1, hcb.2.2.1, hcb.2.2.2.1, hcb.2.2.2.2.1, hcb.2.2.2.2.2, hcode, hini, ⟨hMH.1, hMH.2.1⟩, x_len hw, x_word hG q8 hl args⟩, x_word hG q8 hi args⟩ hpre rfl hn hlv.1 hst hW8 hd hcap) hC hlo hlv hc1 hs1 hmc hms kk
  · exact x_run (M' := M') hG (va_runSN (As := As) (rest := rest) (Ts := []) ⟨q1, q2, q3, q4, fun _ h => by cases h⟩ (hC' hG) ⟨⟨hcb, hcode, hini, ⟨hMH.1, hMH.2.1⟩, x_len hw, x_word hG q8 hl args⟩, x_word hG q8 hi args, trivial⟩ hpre rfl hn hlv.1 hst hW8 hd hcap) hC hlo hlv hc1 hs1 hmc hms kk
theorem x_callI {idx n b : Nat} (M' : xM) {d' mc' ms' : Nat} (As : List Value) (rest : List Value) {Q' : Option Value → xS → Prop} (hd : decode M.2.1 pc = .ok (.invokespecial idx, 3)) (hw : xCw M.1.cls idx M' n) (hi : xw (.instanceMethod M'.1)) (hini0 : M'.1.name = "<init>") (hret : M'.2.2.2 = none)
    (hst : st = As.reverse ++ .ref (xB E + b) :: rest) (hn : As.length = n) (hcat : (rest.map fun v => v.category).sum ≤ 8) (hdd : d' < d) (hmc : mc' ≤ rc) (hms : ms' ≤ rs) (hC' : xC E M' d' mc' ms' (.ref (xB E + b) :: As) S Q')
    (kk : ∀ (v : Option Value) (S' : xS), Q' v S' → xX E M d mc ms (rc - mc') (rs - ms') Q (pc + 3) lv (v.toList ++ rest) S') : xX E M d mc ms rc rs Q pc lv st S := by
  intro hG p e s m args below meth c H locs cells slots ls hC hs hH hlo hlv hc1 hs1
  obtain ⟨q1, q2, q3, q4, q5, q6, q7, q8, q9, q10⟩ := id hC
  have hcb := x_cb (d := d) (mc := mc) (ms := ms) (d' := d') (mc' := mc') (ms' := ms') hG q8 args hw hdd
  have hcode := x_word hG q8 hw.2.1 args
  have hini := x_word hG q8 hw.2.2.1 args
  have hcap : cells + mc' ≤ (xR d mc ms).cells ∧ slots + ms' ≤ (xR d mc ms).slots := ⟨by show cells + mc' ≤ mc; omega, by show slots + ms' ≤ ms; omega⟩
  have hpre : PreS s H (xPc E (.ref (xB E + b) :: As) S) (.ref (xB E + b) :: As) := ⟨x_blind, x_pre q8 hH⟩
  have hW8 : 2 * (F0 m pc ls st).monitorRoom + (rest.map fun v => v.category).sum ≤ 8 := by show 2 * 0 + _ ≤ 8; omega
  have hMH := hw.2.2.2.1
  have hM := hC' hG
  obtain ⟨y, cc, nl, ret⟩ := M'
  dsimp only at hret hini0 hcb hcode hini hMH hM
  subst hret
  rcases hw.1 with hl | ⟨host, hl⟩
  · exact x_run (M' := (y, cc, nl, none)) hG (va_runI (b := xB E + b) (As := As) (rest := rest) (Ts := []) ⟨q1, q2, q3, q4, fun _ h => by cases h⟩ hM ⟨⟨hcb.1, hcb.2.1, hcb.2.2.1, hcb.2.2.2.1, hcb.2.2.2.2.1, hcb.2.2.2.2.2, hcode, hini, ⟨hMH.1, hMH.2.1⟩, x_len hw, x_word hG q8 hl args⟩, hini0, x_word hG q8 hi args⟩ hpre rfl hn hlv.1 hst hW8 hd hcap) hC hlo hlv hc1 hs1 hmc hms kk
  · exact x_run (M' := (y, cc, nl, none)) hG (va_runIN (b := xB E + b) (As := As) (rest := rest) (Ts := []) ⟨q1, q2, q3, q4, fun _ h => by cases h⟩ hM ⟨⟨hcb, hcode, hini, ⟨hMH.1, hMH.2.1⟩, x_len hw, x_word hG q8 hl args⟩, hini0, x_word hG q8 hi args⟩ hpre rfl hn hlv.1 hst hW8 hd hcap) hC hlo hlv hc1 hs1 hmc hms kk
theorem x_obj {idx b : Nat} {rest : List Value} (hd : decode M.2.1 pc = .ok (.invokespecial idx, 3)) (h1 : xw (.methodLink M.1.cls idx Lib.objectInit)) (h2 : xw (.instanceMethod Lib.objectInit)) (h3 : xw (.code Lib.objectInit ⟨#[0xb1]⟩ 1 none)) (hcat : (rest.map fun v => v.category).sum ≤ 8)
    (kk : xX E M d mc ms rc rs Q (pc + 3) lv rest S) : xX E M d mc ms rc rs Q pc lv (.ref b :: rest) S := by
  intro hG p e s m args below meth c H locs cells slots ls hC hs hH hlo hlv hc1 hs1
  obtain ⟨q1, q2, q3, q4, q5, q6, q7, q8, q9, q10⟩ := id hC
  exact W.objInit q1 q2 q4 (x_word hG q8 h1 args) (x_word hG q8 h2 args) (x_word hG q8 h3 args) (g := F0 m pc ls (.ref b :: rest)) rfl (by rw [q3]; exact hlv.1) rfl hd (by show 1 ≤ d + 1; omega) (by show 2 * 0 + _ + 12 ≤ 64 * (d + 1); omega) (kk hG p e s m args below meth c H locs cells slots ls hC hs hH hlo hlv hc1 hs1)
theorem x_new {idx ci N n : Nat} {C : String} {T : u_T} {ty : Nat → FieldType} {fs : List Value} {h : Nat → va_E} (hd : decode M.2.1 pc = .ok (.new idx, 3)) (hcl : xCl ci C T N ty) (h1 : xw (.classLink M.1.cls idx C)) (h2 : xw (.instantiable C N)) (h3 : xw (.initialized C)) (hfs : ∀ j, j < N → defaultValue (ty j) = vp_V fs j) (hrc : 1 ≤ rc) (hrs : N ≤ rs)
    (kk : xX E M d mc ms (rc - 1) (rs - N) Q (pc + 3) lv (.ref (xB E + n) :: st) (true, n + 1, va_up h n (.inr (ci, fs)))) : xX E M d mc ms rc rs Q pc lv st (true, n, h) := by
  intro hG p e s m args below meth c H locs cells slots ls hC hs hH hlo hlv hc1 hs1
  obtain ⟨q1, q2, q3, q4, q5, q6, q7, q8, q9, q10⟩ := id hC
  have hts : ∀ w ∈ u_ws C T N, w.before args s = true := fun w hw => x_word hG q8 (hcl.2.1 w hw) args
  have hKn := (x_K hG q8).1 ci _ hcl.1
  have hsz : H.size = xB E + n := hH.2.1 rfl
  refine W.newcK q1 q2 q4 (x_word hG q8 h1 args) (x_word hG q8 h2 args) (x_word hG q8 h3 args) (g := F0 m pc ls st) rfl hd (by show cells + 1 ≤ mc; omega) (by show slots + N ≤ ms; omega) hKn.2.1 hsz fun H1 kC hkC e1 z1 o1 => ?_
  refine kk hG p e s m args below meth c H1 locs (cells + 1) (slots + N) ls hC (by rw [z1]; omega) (x_push hH z1 o1 ?_) hlo hlv (by omega) (by omega)
  exact ⟨_, hcl.1, (u_born ty hts (fun _ h => h) hKn hkC e1 hcl.2.2.1).to hfs⟩
theorem x_newa {atype : ArrayType} {t n N : Nat} {z : vp_A} {k : Int32} {h : Nat → va_E} (hd : decode M.2.1 pc = .ok (.newarray atype, 2)) (hw : xw (.arrayClass (newarray.typeOf atype))) (ht : (xTys E)[t]? = some (E.2.2.2 t, newarray.typeOf atype)) (hz : ∀ cA : ClassId, vp_cell cA z = arrV cA N (fun _ => defaultValue (newarray.typeOf atype))) (hk : ¬ k < 0) (hN : k.toNatClampNeg = N) (hby : N * componentBytes (newarray.typeOf atype) ≤ 536870912) (hrc : 1 ≤ rc) (hrs : N ≤ rs)
    (kk : xX E M d mc ms (rc - 1) (rs - N) Q (pc + 2) lv (.ref (xB E + n) :: st) (true, n + 1, va_up h n (.inl (E.2.2.2 t, z)))) : xX E M d mc ms rc rs Q pc lv (.int k :: st) (true, n, h) := by
  intro hG p e s m args below meth c H locs cells slots ls hC hs hH hlo hlv hc1 hs1
  obtain ⟨q1, q2, q3, q4, q5, q6, q7, q8, q9, q10⟩ := id hC
  have hsz : H.size = xB E + n := hH.2.1 rfl
  have hRA := ((x_K hG q8).2 t _ ht).2
  refine va_newaK q1 q2 (x_word hG q8 hw args) (g := F0 m pc ls (.int k :: st)) rfl hd rfl hk hN hby (by show cells + 1 ≤ mc; omega) (by show slots + N ≤ ms; omega) hsz fun H1 cA e1 z1 o1 hAr hNm => ?_
  have hcA : cA = E.2.2.2 t := by
    have h9 : s.vm.findClass ("[" ++ (newarray.typeOf atype).toString) = some (E.2.2.2 t) := by cases atype <;> exact hRA
    exact Option.some.inj (hNm.symm.trans h9)
  refine kk hG p e s m args below meth c H1 locs (cells + 1) (slots + N) ls hC (by rw [z1]; omega) (x_push hH z1 o1 ?_) hlo hlv (by omega) (by omega)
  show H1[_]? = some (vp_cell _ _)
  rw [hz, ← hcA]
  exact e1
end XCR
end
section
def xnn : Nat := 3
def xshL : List (Nat × Nat × List Nat) := [(5, 2, [2, 3, 4, 5, 6, 7, 8, 9, 0, 0]), (0, 60, [])]
def xsh (a : Nat) : Nat × Nat × List Nat := xshL.getD a (9, 0, [])
end
section
/-! flat memory: the cells by a table of their shapes (xsh), the ints by place and number, the longs likewise -/
abbrev xI : Type := Nat → Nat → Int32
abbrev xL : Type := Nat → Nat → Int64
abbrev xMem : Type := xI × xL
def xmkF (E : xE) (I : xI) (a : Nat) : Nat → List Nat → List Value
  | _, [] => []
  | k, c :: t => (match c with | 0 => .int (I a k) | b + 1 => .ref (xB E + b)) :: xmkF E I a (k + 1) t
def xcell (E : xE) (m : xMem) (a : Nat) (q : Nat × Nat × List Nat) : va_E := match q.1 with
  | 0 => .inl (E.2.2.2 0, q.2.1, .inl (m.1 a))
  | 1 => .inl (E.2.2.2 1, q.2.1, .inl (m.1 a))
  | 2 => .inl (E.2.2.2 2, q.2.1, .inl (m.1 a))
  | 3 => .inl (E.2.2.2 3, q.2.1, .inr (.inl (m.2 a)))
  | 4 => .inl (E.2.2.2 4, q.2.1, .inr (.inr (.inr (.inr (fun i => if i < q.2.1 then some (xB E + (q.2.2.headD 0 + i)) else none)))))
  | _ => .inr (q.2.1, xmkF E m.1 a 0 q.2.2)
def xhp (E : xE) (m : xMem) : Nat → va_E := fun a => xcell E m a (xsh a)
def xf (E : xE) (m : xMem) : xS := (false, xnn, xhp E m)
def xst (I : xI) (a k : Nat) (v : Int32) : xI := fun b j => if b = a ∧ j = k then v else I b j
def xsl (L : xL) (a k : Nat) (v : Int64) : xL := fun b j => if b = a ∧ j = k then v else L b j
def xin (i : Int32) (n : Nat) : Bool := !(decide (i < 0)) && decide (i.toNatClampNeg < n)
theorem xin_vp {i : Int32} {n : Nat} (h : xin i n = true) : vp_in i n := by
  unfold xin at h
  simp only [Bool.and_eq_true, Bool.not_eq_true', decide_eq_false_iff_not, decide_eq_true_eq] at h
  exact fun q => q.elim h.1 (fun q => by omega)
theorem x_gd {α : Type} {b : Bool} {k : Option α} {out : α} (h : (if b = true then k else none) = some out) : b = true ∧ k = some out := by
  cases b with
  | true => exact ⟨rfl, by simpa using h⟩
  | false => simp at h
theorem x_gp {α : Type} {c : Prop} {_ : Decidable c} {k : Option α} {out : α} (h : (if c then none else k) = some out) : ¬ c ∧ k = some out := by
  by_cases hc : c
  · rw [if_pos hc] at h; cases h
  · rw [if_neg hc] at h; exact ⟨hc, h⟩
theorem xmkF_get {E : xE} {I : xI} {a : Nat} : ∀ (fl : List Nat) (j k : Nat), (xmkF E I a j fl)[k]? = (fl[k]?).map (fun c => match c with | 0 => Value.int (I a (j + k)) | b + 1 => Value.ref (xB E + b))
  | [], j, k => by simp [xmkF]
  | c :: t, j, 0 => by simp [xmkF]
  | c :: t, j, k + 1 => by
    simp only [xmkF, List.getElem?_cons_succ]
    rw [xmkF_get t (j + 1) k, show j + 1 + k = j + (k + 1) by omega]
theorem xmkF_len {E : xE} {I : xI} {a : Nat} : ∀ (fl : List Nat) (j : Nat), (xmkF E I a j fl).length = fl.length
  | [], j => rfl
  | c :: t, j => by simp [xmkF, xmkF_len t (j + 1)]
theorem xmkF_set {E : xE} {I : xI} {a k : Nat} {v : Int32} {fl : List Nat} (hk : fl[k]? = some 0) : (xmkF E I a 0 fl).set k (.int v) = xmkF E (xst I a k v) a 0 fl := by
  apply List.ext_getElem?
  intro i
  rw [xmkF_get, List.getElem?_set]
  by_cases hi : k = i
  · subst hi
    rw [if_pos rfl, hk, if_pos (by rw [xmkF_len]; exact (List.getElem?_eq_some_iff.mp hk).1)]
    simp [xst]
  · rw [if_neg hi, xmkF_get]
    cases hf : fl[i]? with
    | none => rfl
    | some c =>
      cases c with
      | zero => simp [xst, Ne.symm hi]
      | succ b => rfl
theorem xcell_ne {E : xE} {I : xI} {L : xL} {a k b : Nat} {v : Int32} (h : b ≠ a) (q : Nat × Nat × List Nat) : xcell E (xst I a k v, L) b q = xcell E (I, L) b q := by
  have e : ∀ j, xst I a k v b j = I b j := fun j => by simp [xst, h]
  have e1 : xst I a k v b = I b := funext e
  have e2 : ∀ (fl : List Nat) (i : Nat), xmkF E (xst I a k v) b i fl = xmkF E I b i fl := by
    intro fl
    induction fl with
    | nil => intro i; rfl
    | cons c t ih =>
      intro i
      simp only [xmkF, ih, e]
  unfold xcell
  simp only [e1, e2]
theorem xcell_neL {E : xE} {I : xI} {L : xL} {a k b : Nat} {v : Int64} (h : b ≠ a) (q : Nat × Nat × List Nat) : xcell E (I, xsl L a k v) b q = xcell E (I, L) b q := by
  have e1 : xsl L a k v b = L b := funext fun j => by simp [xsl, h]
  unfold xcell
  simp only [e1]
theorem xhp_up {E : xE} {m : xMem} {a k : Nat} {v : Int32} {e : va_E} (he : e = xcell E (xst m.1 a k v, m.2) a (xsh a)) : ∀ b, b < xnn → va_up (xhp E m) a e b = xhp E (xst m.1 a k v, m.2) b := by
  intro b _
  unfold va_up
  by_cases hb : b = a
  · subst hb
    rw [if_pos rfl, he]
    rfl
  · rw [if_neg hb]
    exact (xcell_ne hb _).symm
theorem xhp_upL {E : xE} {m : xMem} {a k : Nat} {v : Int64} {e : va_E} (he : e = xcell E (m.1, xsl m.2 a k v) a (xsh a)) : ∀ b, b < xnn → va_up (xhp E m) a e b = xhp E (m.1, xsl m.2 a k v) b := by
  intro b _
  unfold va_up
  by_cases hb : b = a
  · subst hb
    rw [if_pos rfl, he]
    rfl
  · rw [if_neg hb]
    exact (xcell_neL hb _).symm
section XFR
variable {E : xE} {M : xM} {d mc ms rc rs : Nat} {Q : Option Value → xS → Prop} {pc : Nat} {lv : List (Nat × Value)} {st : List Value} {m : xMem}
theorem f_getI {idx ci k a N : Nat} {C : String} {T : u_T} {ty : Nat → FieldType} {fl : List Nat} (hd : decode M.2.1 pc = .ok (.getfield idx, 3)) (hcl : xCl ci C T N ty) (hk : k < N) (hl : xFl M.1.cls idx T k) (ha : a < xnn) (hsh : xsh a = (5, ci, fl)) (hf : fl[k]? = some 0)
    (kk : xX E M d mc ms rc rs Q (pc + 3) lv (.int (m.1 a k) :: st) (xf E m)) : xX E M d mc ms rc rs Q pc lv (.ref (xB E + a) :: st) (xf E m) :=
  x_get (S := xf E m) (fs := xmkF E m.1 a 0 fl) hd hcl hk hl ha (by show xcell E m a (xsh a) = _; rw [hsh]; rfl) (by rw [xmkF_get, hf]; simp) kk
theorem f_getR {idx ci k a b N : Nat} {C : String} {T : u_T} {ty : Nat → FieldType} {fl : List Nat} (hd : decode M.2.1 pc = .ok (.getfield idx, 3)) (hcl : xCl ci C T N ty) (hk : k < N) (hl : xFl M.1.cls idx T k) (ha : a < xnn) (hsh : xsh a = (5, ci, fl)) (hf : fl[k]? = some (b + 1))
    (kk : xX E M d mc ms rc rs Q (pc + 3) lv (.ref (xB E + b) :: st) (xf E m)) : xX E M d mc ms rc rs Q pc lv (.ref (xB E + a) :: st) (xf E m) :=
  x_get (S := xf E m) (fs := xmkF E m.1 a 0 fl) hd hcl hk hl ha (by show xcell E m a (xsh a) = _; rw [hsh]; rfl) (by rw [xmkF_get, hf]; rfl) kk
theorem f_putI {idx ci k a N : Nat} {C : String} {T : u_T} {ty : Nat → FieldType} {fl : List Nat} {v : Int32} (hd : decode M.2.1 pc = .ok (.putfield idx, 3)) (hcl : xCl ci C T N ty) (hk : k < N) (hl : xFl M.1.cls idx T k) (hfin : (T k).2.2.2 = false) (hty : ty k = .int) (ha : a < xnn) (hsh : xsh a = (5, ci, fl)) (hf : fl[k]? = some 0)
    (kk : xX E M d mc ms rc rs Q (pc + 3) lv st (xf E (xst m.1 a k v, m.2))) : xX E M d mc ms rc rs Q pc lv (.int v :: .ref (xB E + a) :: st) (xf E m) :=
  x_put (S := xf E m) (fs := xmkF E m.1 a 0 fl) hd hcl hk hl hfin (by rw [hty]; exact vp_nar_int v) (by rw [hty]; rfl) ha (by show xcell E m a (xsh a) = _; rw [hsh]; rfl) (by rw [xmkF_len]; exact (List.getElem?_eq_some_iff.mp hf).1)
    (x_heq (xhp_up (k := k) (v := v) (by rw [hsh, xmkF_set hf]; rfl)) kk)
theorem f_iald {a n : Nat} {l : List Nat} {i : Int32} (hd : decode M.2.1 pc = .ok (.iaload, 1)) (ha : a < xnn) (hsh : xsh a = (0, n, l)) (hin : xin i n = true)
    (kk : xX E M d mc ms rc rs Q (pc + 1) lv (.int (m.1 a i.toNatClampNeg) :: st) (xf E m)) : xX E M d mc ms rc rs Q pc lv (.int i :: .ref (xB E + a) :: st) (xf E m) :=
  x_iald (S := xf E m) (f := m.1 a) hd ha (by show xcell E m a (xsh a) = _; rw [hsh]; rfl) (xin_vp hin) kk
theorem f_bald {a n : Nat} {l : List Nat} {i : Int32} (hd : decode M.2.1 pc = .ok (.baload, 1)) (ha : a < xnn) (hsh : xsh a = (1, n, l)) (hin : xin i n = true)
    (kk : xX E M d mc ms rc rs Q (pc + 1) lv (.int (m.1 a i.toNatClampNeg) :: st) (xf E m)) : xX E M d mc ms rc rs Q pc lv (.int i :: .ref (xB E + a) :: st) (xf E m) :=
  x_bald (S := xf E m) (f := m.1 a) hd ha (by show xcell E m a (xsh a) = _; rw [hsh]; rfl) (xin_vp hin) kk
theorem f_zald {a n : Nat} {l : List Nat} {i : Int32} (hd : decode M.2.1 pc = .ok (.baload, 1)) (ha : a < xnn) (hsh : xsh a = (2, n, l)) (hin : xin i n = true)
    (kk : xX E M d mc ms rc rs Q (pc + 1) lv (.int (m.1 a i.toNatClampNeg) :: st) (xf E m)) : xX E M d mc ms rc rs Q pc lv (.int i :: .ref (xB E + a) :: st) (xf E m) :=
  x_zald (S := xf E m) (f := m.1 a) hd ha (by show xcell E m a (xsh a) = _; rw [hsh]; rfl) (xin_vp hin) kk
theorem f_lald {a n : Nat} {l : List Nat} {i : Int32} (hd : decode M.2.1 pc = .ok (.laload, 1)) (ha : a < xnn) (hsh : xsh a = (3, n, l)) (hin : xin i n = true)
    (kk : xX E M d mc ms rc rs Q (pc + 1) lv (.long (m.2 a i.toNatClampNeg) :: st) (xf E m)) : xX E M d mc ms rc rs Q pc lv (.int i :: .ref (xB E + a) :: st) (xf E m) :=
  x_lald (S := xf E m) (f := m.2 a) hd ha (by show xcell E m a (xsh a) = _; rw [hsh]; rfl) (xin_vp hin) kk
theorem f_aald {a n r0 : Nat} {i : Int32} (hd : decode M.2.1 pc = .ok (.aaload, 1)) (ha : a < xnn) (hsh : xsh a = (4, n, [r0])) (hin : xin i n = true)
    (kk : xX E M d mc ms rc rs Q (pc + 1) lv (.ref (xB E + (r0 + i.toNatClampNeg)) :: st) (xf E m)) : xX E M d mc ms rc rs Q pc lv (.int i :: .ref (xB E + a) :: st) (xf E m) :=
  x_aald (S := xf E m) (f := fun i => if i < n then some (xB E + (r0 + i)) else none) hd ha (by show xcell E m a (xsh a) = _; rw [hsh]; rfl) (xin_vp hin) (if_pos (Nat.not_le.mp fun q => xin_vp hin (Or.inr q))) kk
theorem f_iast {a n : Nat} {l : List Nat} {i x : Int32} (hd : decode M.2.1 pc = .ok (.iastore, 1)) (ha : a < xnn) (hsh : xsh a = (0, n, l)) (hin : xin i n = true)
    (kk : xX E M d mc ms rc rs Q (pc + 1) lv st (xf E (xst m.1 a i.toNatClampNeg x, m.2))) : xX E M d mc ms rc rs Q pc lv (.int x :: .int i :: .ref (xB E + a) :: st) (xf E m) :=
  x_iast (S := xf E m) (f := m.1 a) hd ha (by show xcell E m a (xsh a) = _; rw [hsh]; rfl) (xin_vp hin) (x_heq (xhp_up (k := i.toNatClampNeg) (v := x) (by rw [hsh]; show _ = Sum.inl _; congr 3; refine congrArg Sum.inl (funext fun j => ?_); simp [xst, upd])) kk)
theorem f_bast {a n : Nat} {l : List Nat} {i x : Int32} (hd : decode M.2.1 pc = .ok (.bastore, 1)) (ha : a < xnn) (hsh : xsh a = (1, n, l)) (hin : xin i n = true)
    (kk : xX E M d mc ms rc rs Q (pc + 1) lv st (xf E (xst m.1 a i.toNatClampNeg (vp_nar .byte x), m.2))) : xX E M d mc ms rc rs Q pc lv (.int x :: .int i :: .ref (xB E + a) :: st) (xf E m) :=
  x_bast (S := xf E m) (f := m.1 a) hd ha (by show xcell E m a (xsh a) = _; rw [hsh]; rfl) (xin_vp hin) (x_heq (xhp_up (k := i.toNatClampNeg) (v := vp_nar .byte x) (by rw [hsh]; show _ = Sum.inl _; congr 3; refine congrArg Sum.inl (funext fun j => ?_); simp [xst, upd])) kk)
theorem f_zast {a n : Nat} {l : List Nat} {i x : Int32} (hd : decode M.2.1 pc = .ok (.bastore, 1)) (ha : a < xnn) (hsh : xsh a = (2, n, l)) (hin : xin i n = true)
    (kk : xX E M d mc ms rc rs Q (pc + 1) lv st (xf E (xst m.1 a i.toNatClampNeg (vp_nar .boolean x), m.2))) : xX E M d mc ms rc rs Q pc lv (.int x :: .int i :: .ref (xB E + a) :: st) (xf E m) :=
  x_zast (S := xf E m) (f := m.1 a) hd ha (by show xcell E m a (xsh a) = _; rw [hsh]; rfl) (xin_vp hin) (x_heq (xhp_up (k := i.toNatClampNeg) (v := vp_nar .boolean x) (by rw [hsh]; show _ = Sum.inl _; congr 3; refine congrArg Sum.inl (funext fun j => ?_); simp [xst, upd])) kk)
theorem f_last {a n : Nat} {l : List Nat} {i : Int32} {x : Int64} (hd : decode M.2.1 pc = .ok (.lastore, 1)) (ha : a < xnn) (hsh : xsh a = (3, n, l)) (hin : xin i n = true)
    (kk : xX E M d mc ms rc rs Q (pc + 1) lv st (xf E (m.1, xsl m.2 a i.toNatClampNeg x))) : xX E M d mc ms rc rs Q pc lv (.long x :: .int i :: .ref (xB E + a) :: st) (xf E m) :=
  x_last (S := xf E m) (f := m.2 a) hd ha (by show xcell E m a (xsh a) = _; rw [hsh]; rfl) (xin_vp hin) (x_heq (xhp_upL (k := i.toNatClampNeg) (v := x) (by rw [hsh]; show _ = Sum.inl _; congr 4; refine congrArg Sum.inl (funext fun j => ?_); simp [xsl, vp_updL])) kk)
theorem f_alen {a n t : Nat} {l : List Nat} {ty : FieldType} {v : Int32} (hd : decode M.2.1 pc = .ok (.arraylength, 1)) (ha : a < xnn) (hsh : xsh a = (t, n, l)) (ht : (xTys E)[t]? = some (E.2.2.2 t, ty)) (ht4 : t < 4) (hv : Int32.ofNat n = v)
    (kk : xX E M d mc ms rc rs Q (pc + 1) lv (.int v :: st) (xf E m)) : xX E M d mc ms rc rs Q pc lv (.ref (xB E + a) :: st) (xf E m) := by
  rcases (show t = 0 ∨ t = 1 ∨ t = 2 ∨ t = 3 by omega) with rfl | rfl | rfl | rfl
  · exact x_alen (S := xf E m) (z := (n, .inl (m.1 a))) hd ha (by show xcell E m a (xsh a) = _; rw [hsh]; rfl) ht hv kk
  · exact x_alen (S := xf E m) (z := (n, .inl (m.1 a))) hd ha (by show xcell E m a (xsh a) = _; rw [hsh]; rfl) ht hv kk
  · exact x_alen (S := xf E m) (z := (n, .inl (m.1 a))) hd ha (by show xcell E m a (xsh a) = _; rw [hsh]; rfl) ht hv kk
  · exact x_alen (S := xf E m) (z := (n, .inr (.inl (m.2 a)))) hd ha (by show xcell E m a (xsh a) = _; rw [hsh]; rfl) ht hv kk
/-- a method's contract over the flat memory: what it answers, the memory behind it -/
def xCi (E : xE) (M : xM) (d : Nat) (av : List Value) (m : xMem) (v : Int32) (m' : xMem) : Prop := xC E M d 0 0 av (xf E m) (fun r S => r = some (.int v) ∧ S = xf E m')
def xCl' (E : xE) (M : xM) (d : Nat) (av : List Value) (m : xMem) (v : Int64) (m' : xMem) : Prop := xC E M d 0 0 av (xf E m) (fun r S => r = some (.long v) ∧ S = xf E m')
def xCv (E : xE) (M : xM) (d : Nat) (av : List Value) (m : xMem) (m' : xMem) : Prop := xC E M d 0 0 av (xf E m) (fun r S => r = none ∧ S = xf E m')
variable {m' : xMem}
theorem f_cVi {idx n b ci N : Nat} {C : String} {T : u_T} {fl : List Nat} (M' : xM) {d' : Nat} (As : List Value) (rest : List Value) {v : Int32} (hd : decode M.2.1 pc = .ok (.invokevirtual idx, 3)) (hw : xCw M.1.cls idx M' n) (hi : xw (.instanceMethod M'.1) ∧ xw (.selects C M'.1 M'.1)) (hci : vwCl[ci]? = some (C, T, N)) (hb : b < xnn) (hsh : xsh b = (5, ci, fl))
    (hst : st = As.reverse ++ .ref (xB E + b) :: rest) (hn : As.length = n) (hcat : (rest.map fun v => v.category).sum ≤ 8) (hdd : d' < d) (hC' : xCi E M' d' (.ref (xB E + b) :: As) m v m')
    (kk : xX E M d mc ms rc rs Q (pc + 3) lv (.int v :: rest) (xf E m')) : xX E M d mc ms rc rs Q pc lv st (xf E m) :=
  x_callV (S := xf E m) M' As rest hd hw hi.1 hi.2 hci hb (by show xcell E m b (xsh b) = _; rw [hsh]; rfl) hst hn hcat hdd (Nat.zero_le _) (Nat.zero_le _) hC' (fun r S' hQ => by obtain ⟨rfl, rfl⟩ := hQ; exact kk)
theorem f_cVl {idx n b ci N : Nat} {C : String} {T : u_T} {fl : List Nat} (M' : xM) {d' : Nat} (As : List Value) (rest : List Value) {v : Int64} (hd : decode M.2.1 pc = .ok (.invokevirtual idx, 3)) (hw : xCw M.1.cls idx M' n) (hi : xw (.instanceMethod M'.1) ∧ xw (.selects C M'.1 M'.1)) (hci : vwCl[ci]? = some (C, T, N)) (hb : b < xnn) (hsh : xsh b = (5, ci, fl))
    (hst : st = As.reverse ++ .ref (xB E + b) :: rest) (hn : As.length = n) (hcat : (rest.map fun v => v.category).sum ≤ 8) (hdd : d' < d) (hC' : xCl' E M' d' (.ref (xB E + b) :: As) m v m')
    (kk : xX E M d mc ms rc rs Q (pc + 3) lv (.long v :: rest) (xf E m')) : xX E M d mc ms rc rs Q pc lv st (xf E m) :=
  x_callV (S := xf E m) M' As rest hd hw hi.1 hi.2 hci hb (by show xcell E m b (xsh b) = _; rw [hsh]; rfl) hst hn hcat hdd (Nat.zero_le _) (Nat.zero_le _) hC' (fun r S' hQ => by obtain ⟨rfl, rfl⟩ := hQ; exact kk)
theorem f_cVv {idx n b ci N : Nat} {C : String} {T : u_T} {fl : List Nat} (M' : xM) {d' : Nat} (As : List Value) (rest : List Value) (hd : decode M.2.1 pc = .ok (.invokevirtual idx, 3)) (hw : xCw M.1.cls idx M' n) (hi : xw (.instanceMethod M'.1) ∧ xw (.selects C M'.1 M'.1)) (hci : vwCl[ci]? = some (C, T, N)) (hb : b < xnn) (hsh : xsh b = (5, ci, fl))
    (hst : st = As.reverse ++ .ref (xB E + b) :: rest) (hn : As.length = n) (hcat : (rest.map fun v => v.category).sum ≤ 8) (hdd : d' < d) (hC' : xCv E M' d' (.ref (xB E + b) :: As) m m')
    (kk : xX E M d mc ms rc rs Q (pc + 3) lv rest (xf E m')) : xX E M d mc ms rc rs Q pc lv st (xf E m) :=
  x_callV (S := xf E m) M' As rest hd hw hi.1 hi.2 hci hb (by show xcell E m b (xsh b) = _; rw [hsh]; rfl) hst hn hcat hdd (Nat.zero_le _) (Nat.zero_le _) hC' (fun r S' hQ => by obtain ⟨rfl, rfl⟩ := hQ; exact kk)
theorem f_cSi {idx n : Nat} (M' : xM) {d' : Nat} (As : List Value) (rest : List Value) {v : Int32} (hd : decode M.2.1 pc = .ok (.invokestatic idx, 3)) (hw : xCw M.1.cls idx M' n) (hi : xw (.static M'.1))
    (hst : st = As.reverse ++ rest) (hn : As.length = n) (hcat : (rest.map fun v => v.category).sum ≤ 8) (hdd : d' < d) (hC' : xCi E M' d' As m v m')
    (kk : xX E M d mc ms rc rs Q (pc + 3) lv (.int v :: rest) (xf E m')) : xX E M d mc ms rc rs Q pc lv st (xf E m) :=
  x_callS (S := xf E m) M' As rest hd hw hi hst hn hcat hdd (Nat.zero_le _) (Nat.zero_le _) hC' (fun r S' hQ => by obtain ⟨rfl, rfl⟩ := hQ; exact kk)
theorem f_cSv {idx n : Nat} (M' : xM) {d' : Nat} (As : List Value) (rest : List Value) (hd : decode M.2.1 pc = .ok (.invokestatic idx, 3)) (hw : xCw M.1.cls idx M' n) (hi : xw (.static M'.1))
    (hst : st = As.reverse ++ rest) (hn : As.length = n) (hcat : (rest.map fun v => v.category).sum ≤ 8) (hdd : d' < d) (hC' : xCv E M' d' As m m')
    (kk : xX E M d mc ms rc rs Q (pc + 3) lv rest (xf E m')) : xX E M d mc ms rc rs Q pc lv st (xf E m) :=
  x_callS (S := xf E m) M' As rest hd hw hi hst hn hcat hdd (Nat.zero_le _) (Nat.zero_le _) hC' (fun r S' hQ => by obtain ⟨rfl, rfl⟩ := hQ; exact kk)
end XFR
end
