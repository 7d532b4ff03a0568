section
-- ===== PART A: goes FIRST, ahead of the names: the tables' words, and 'selects' of the private methods out of them =====
/-- a private method of a class that the tables say can be made, by its rows of tables_1 -/
def lw_okq (q : MethodName × Nat) : Prop := (q.1.cls ≠ "java/lang/invoke/MethodHandle" ∧ q.1.cls ≠ "java/lang/invoke/VarHandle") ∧ Cond.instantiable q.1.cls q.2 ∈ tables_1 ∧ Cond.privateMethod q.1 ∈ tables_1 ∧ Cond.instanceMethod q.1 ∈ tables_1
theorem lw_p0 : lw_okq (⟨"PromiseCourt$Tape", "append", "(I)V"⟩, 4) := ⟨⟨by decide +kernel, by decide +kernel⟩, List.mem_of_getElem? (i := 29) (by decide +kernel), List.mem_of_getElem? (i := 352) (by decide +kernel), List.mem_of_getElem? (i := 353) (by decide +kernel)⟩
theorem lw_p1 : lw_okq (⟨"PromiseCourt$Grammar", "parse", "(LPromiseCourt$Tape;)I"⟩, 7) := ⟨⟨by decide +kernel, by decide +kernel⟩, List.mem_of_getElem? (i := 51) (by decide +kernel), List.mem_of_getElem? (i := 370) (by decide +kernel), List.mem_of_getElem? (i := 371) (by decide +kernel)⟩
theorem lw_p2 : lw_okq (⟨"PromiseCourt$Tape", "rewind", "()V"⟩, 4) := ⟨⟨by decide +kernel, by decide +kernel⟩, List.mem_of_getElem? (i := 29) (by decide +kernel), List.mem_of_getElem? (i := 374) (by decide +kernel), List.mem_of_getElem? (i := 375) (by decide +kernel)⟩
theorem lw_p3 : lw_okq (⟨"PromiseCourt$Tape", "token", "()I"⟩, 4) := ⟨⟨by decide +kernel, by decide +kernel⟩, List.mem_of_getElem? (i := 29) (by decide +kernel), List.mem_of_getElem? (i := 378) (by decide +kernel), List.mem_of_getElem? (i := 379) (by decide +kernel)⟩
theorem lw_p4 : lw_okq (⟨"PromiseCourt$Tape", "word", "()I"⟩, 4) := ⟨⟨by decide +kernel, by decide +kernel⟩, List.mem_of_getElem? (i := 29) (by decide +kernel), List.mem_of_getElem? (i := 388) (by decide +kernel), List.mem_of_getElem? (i := 389) (by decide +kernel)⟩
theorem lw_p5 : lw_okq (⟨"PromiseCourt$Tape", "isWord", "(II)Z"⟩, 4) := ⟨⟨by decide +kernel, by decide +kernel⟩, List.mem_of_getElem? (i := 29) (by decide +kernel), List.mem_of_getElem? (i := 392) (by decide +kernel), List.mem_of_getElem? (i := 393) (by decide +kernel)⟩
theorem lw_p6 : lw_okq (⟨"PromiseCourt$Tape", "number", "()I"⟩, 4) := ⟨⟨by decide +kernel, by decide +kernel⟩, List.mem_of_getElem? (i := 29) (by decide +kernel), List.mem_of_getElem? (i := 440) (by decide +kernel), List.mem_of_getElem? (i := 441) (by decide +kernel)⟩
theorem lw_p7 : lw_okq (⟨"PromiseCourt$Tape", "sign", "(B)I"⟩, 4) := ⟨⟨by decide +kernel, by decide +kernel⟩, List.mem_of_getElem? (i := 29) (by decide +kernel), List.mem_of_getElem? (i := 444) (by decide +kernel), List.mem_of_getElem? (i := 445) (by decide +kernel)⟩
theorem lw_p8 : lw_okq (⟨"PromiseCourt$Tape", "relation", "(B)I"⟩, 4) := ⟨⟨by decide +kernel, by decide +kernel⟩, List.mem_of_getElem? (i := 29) (by decide +kernel), List.mem_of_getElem? (i := 448) (by decide +kernel), List.mem_of_getElem? (i := 449) (by decide +kernel)⟩
theorem lw_p9 : lw_okq (⟨"PromiseCourt$Grammar", "goesOn", "(I)Z"⟩, 7) := ⟨⟨by decide +kernel, by decide +kernel⟩, List.mem_of_getElem? (i := 51) (by decide +kernel), List.mem_of_getElem? (i := 452) (by decide +kernel), List.mem_of_getElem? (i := 453) (by decide +kernel)⟩
theorem lw_p10 : lw_okq (⟨"PromiseCourt$Grammar", "begins", "(I)Z"⟩, 7) := ⟨⟨by decide +kernel, by decide +kernel⟩, List.mem_of_getElem? (i := 51) (by decide +kernel), List.mem_of_getElem? (i := 456) (by decide +kernel), List.mem_of_getElem? (i := 457) (by decide +kernel)⟩
theorem lw_p11 : lw_okq (⟨"PromiseCourt$Grammar", "isUnit", "(I)Z"⟩, 7) := ⟨⟨by decide +kernel, by decide +kernel⟩, List.mem_of_getElem? (i := 51) (by decide +kernel), List.mem_of_getElem? (i := 463) (by decide +kernel), List.mem_of_getElem? (i := 464) (by decide +kernel)⟩
theorem lw_p12 : lw_okq (⟨"PromiseCourt$Grammar", "goesBehindUnit", "(I)Z"⟩, 7) := ⟨⟨by decide +kernel, by decide +kernel⟩, List.mem_of_getElem? (i := 51) (by decide +kernel), List.mem_of_getElem? (i := 470) (by decide +kernel), List.mem_of_getElem? (i := 471) (by decide +kernel)⟩
theorem lw_p13 : lw_okq (⟨"PromiseCourt$Grammar", "goesBehindE", "(I)Z"⟩, 7) := ⟨⟨by decide +kernel, by decide +kernel⟩, List.mem_of_getElem? (i := 51) (by decide +kernel), List.mem_of_getElem? (i := 474) (by decide +kernel), List.mem_of_getElem? (i := 475) (by decide +kernel)⟩
theorem lw_p14 : lw_okq (⟨"PromiseCourt$Grammar", "toLaw", "(II)LPromiseCourt$Law;"⟩, 7) := ⟨⟨by decide +kernel, by decide +kernel⟩, List.mem_of_getElem? (i := 51) (by decide +kernel), List.mem_of_getElem? (i := 478) (by decide +kernel), List.mem_of_getElem? (i := 479) (by decide +kernel)⟩
theorem lw_p15 : lw_okq (⟨"PromiseCourt$LawBook", "add", "(LPromiseCourt$Law;)V"⟩, 3) := ⟨⟨by decide +kernel, by decide +kernel⟩, List.mem_of_getElem? (i := 80) (by decide +kernel), List.mem_of_getElem? (i := 501) (by decide +kernel), List.mem_of_getElem? (i := 502) (by decide +kernel)⟩
def lw_privs_1 : List (MethodName × Nat) := [(⟨"PromiseCourt$Tape", "append", "(I)V"⟩, 4), (⟨"PromiseCourt$Grammar", "parse", "(LPromiseCourt$Tape;)I"⟩, 7), (⟨"PromiseCourt$Tape", "rewind", "()V"⟩, 4), (⟨"PromiseCourt$Tape", "token", "()I"⟩, 4), (⟨"PromiseCourt$Tape", "word", "()I"⟩, 4), (⟨"PromiseCourt$Tape", "isWord", "(II)Z"⟩, 4), (⟨"PromiseCourt$Tape", "number", "()I"⟩, 4), (⟨"PromiseCourt$Tape", "sign", "(B)I"⟩, 4), (⟨"PromiseCourt$Tape", "relation", "(B)I"⟩, 4), (⟨"PromiseCourt$Grammar", "goesOn", "(I)Z"⟩, 7), (⟨"PromiseCourt$Grammar", "begins", "(I)Z"⟩, 7), (⟨"PromiseCourt$Grammar", "isUnit", "(I)Z"⟩, 7), (⟨"PromiseCourt$Grammar", "goesBehindUnit", "(I)Z"⟩, 7), (⟨"PromiseCourt$Grammar", "goesBehindE", "(I)Z"⟩, 7), (⟨"PromiseCourt$Grammar", "toLaw", "(II)LPromiseCourt$Law;"⟩, 7), (⟨"PromiseCourt$LawBook", "add", "(LPromiseCourt$Law;)V"⟩, 3)]
theorem lw_r1 : ∀ q ∈ lw_privs_1, lw_okq q := List.forall_mem_cons.mpr ⟨lw_p0, List.forall_mem_cons.mpr ⟨lw_p1, List.forall_mem_cons.mpr ⟨lw_p2, List.forall_mem_cons.mpr ⟨lw_p3, List.forall_mem_cons.mpr ⟨lw_p4, List.forall_mem_cons.mpr ⟨lw_p5, List.forall_mem_cons.mpr ⟨lw_p6, List.forall_mem_cons.mpr ⟨lw_p7, List.forall_mem_cons.mpr ⟨lw_p8, List.forall_mem_cons.mpr ⟨lw_p9, List.forall_mem_cons.mpr ⟨lw_p10, List.forall_mem_cons.mpr ⟨lw_p11, List.forall_mem_cons.mpr ⟨lw_p12, List.forall_mem_cons.mpr ⟨lw_p13, List.forall_mem_cons.mpr ⟨lw_p14, List.forall_mem_cons.mpr ⟨lw_p15, fun _ h => absurd h List.not_mem_nil⟩⟩⟩⟩⟩⟩⟩⟩⟩⟩⟩⟩⟩⟩⟩⟩
theorem lw_p16 : lw_okq (⟨"PromiseCourt$Family", "canBear", "(II)Z"⟩, 6) := ⟨⟨by decide +kernel, by decide +kernel⟩, List.mem_of_getElem? (i := 120) (by decide +kernel), List.mem_of_getElem? (i := 513) (by decide +kernel), List.mem_of_getElem? (i := 514) (by decide +kernel)⟩
theorem lw_p17 : lw_okq (⟨"PromiseCourt$Family", "has", "(I)Z"⟩, 6) := ⟨⟨by decide +kernel, by decide +kernel⟩, List.mem_of_getElem? (i := 120) (by decide +kernel), List.mem_of_getElem? (i := 517) (by decide +kernel), List.mem_of_getElem? (i := 518) (by decide +kernel)⟩
theorem lw_p18 : lw_okq (⟨"PromiseCourt$Family", "add", "(III)I"⟩, 6) := ⟨⟨by decide +kernel, by decide +kernel⟩, List.mem_of_getElem? (i := 120) (by decide +kernel), List.mem_of_getElem? (i := 521) (by decide +kernel), List.mem_of_getElem? (i := 522) (by decide +kernel)⟩
theorem lw_p19 : lw_okq (⟨"PromiseCourt$Family", "stepsTo", "(II)I"⟩, 6) := ⟨⟨by decide +kernel, by decide +kernel⟩, List.mem_of_getElem? (i := 120) (by decide +kernel), List.mem_of_getElem? (i := 525) (by decide +kernel), List.mem_of_getElem? (i := 526) (by decide +kernel)⟩
theorem lw_p20 : lw_okq (⟨"PromiseCourt", "areTwoPersons", "(II)Z"⟩, 10) := ⟨⟨by decide +kernel, by decide +kernel⟩, List.mem_of_getElem? (i := 21) (by decide +kernel), List.mem_of_getElem? (i := 534) (by decide +kernel), List.mem_of_getElem? (i := 535) (by decide +kernel)⟩
theorem lw_p21 : lw_okq (⟨"PromiseCourt$Promises", "add", "(IIIIII)I"⟩, 7) := ⟨⟨by decide +kernel, by decide +kernel⟩, List.mem_of_getElem? (i := 147) (by decide +kernel), List.mem_of_getElem? (i := 542) (by decide +kernel), List.mem_of_getElem? (i := 543) (by decide +kernel)⟩
theorem lw_p22 : lw_okq (⟨"PromiseCourt", "isPromise", "(I)Z"⟩, 10) := ⟨⟨by decide +kernel, by decide +kernel⟩, List.mem_of_getElem? (i := 21) (by decide +kernel), List.mem_of_getElem? (i := 550) (by decide +kernel), List.mem_of_getElem? (i := 551) (by decide +kernel)⟩
theorem lw_p23 : lw_okq (⟨"PromiseCourt$Gifts", "add", "(III)I"⟩, 4) := ⟨⟨by decide +kernel, by decide +kernel⟩, List.mem_of_getElem? (i := 185) (by decide +kernel), List.mem_of_getElem? (i := 554) (by decide +kernel), List.mem_of_getElem? (i := 555) (by decide +kernel)⟩
theorem lw_p24 : lw_okq (⟨"PromiseCourt$Promises", "binds", "(II)Z"⟩, 7) := ⟨⟨by decide +kernel, by decide +kernel⟩, List.mem_of_getElem? (i := 147) (by decide +kernel), List.mem_of_getElem? (i := 562) (by decide +kernel), List.mem_of_getElem? (i := 563) (by decide +kernel)⟩
theorem lw_p25 : lw_okq (⟨"PromiseCourt$Facts", "add", "(IIII)I"⟩, 6) := ⟨⟨by decide +kernel, by decide +kernel⟩, List.mem_of_getElem? (i := 208) (by decide +kernel), List.mem_of_getElem? (i := 566) (by decide +kernel), List.mem_of_getElem? (i := 567) (by decide +kernel)⟩
theorem lw_p26 : lw_okq (⟨"PromiseCourt$Family", "degreeOf", "(II)I"⟩, 6) := ⟨⟨by decide +kernel, by decide +kernel⟩, List.mem_of_getElem? (i := 120) (by decide +kernel), List.mem_of_getElem? (i := 590) (by decide +kernel), List.mem_of_getElem? (i := 591) (by decide +kernel)⟩
theorem lw_p27 : lw_okq (⟨"PromiseCourt$Family", "gapsOf", "(I)I"⟩, 6) := ⟨⟨by decide +kernel, by decide +kernel⟩, List.mem_of_getElem? (i := 120) (by decide +kernel), List.mem_of_getElem? (i := 601) (by decide +kernel), List.mem_of_getElem? (i := 602) (by decide +kernel)⟩
theorem lw_p28 : lw_okq (⟨"PromiseCourt$Family", "parentOf", "(II)I"⟩, 6) := ⟨⟨by decide +kernel, by decide +kernel⟩, List.mem_of_getElem? (i := 120) (by decide +kernel), List.mem_of_getElem? (i := 605) (by decide +kernel), List.mem_of_getElem? (i := 606) (by decide +kernel)⟩
theorem lw_p29 : lw_okq (⟨"PromiseCourt$LawBook", "inForce", "(II)I"⟩, 3) := ⟨⟨by decide +kernel, by decide +kernel⟩, List.mem_of_getElem? (i := 80) (by decide +kernel), List.mem_of_getElem? (i := 613) (by decide +kernel), List.mem_of_getElem? (i := 614) (by decide +kernel)⟩
theorem lw_p30 : lw_okq (⟨"PromiseCourt", "isKnown", "(I)Z"⟩, 10) := ⟨⟨by decide +kernel, by decide +kernel⟩, List.mem_of_getElem? (i := 21) (by decide +kernel), List.mem_of_getElem? (i := 621) (by decide +kernel), List.mem_of_getElem? (i := 622) (by decide +kernel)⟩
theorem lw_p31 : lw_okq (⟨"PromiseCourt$Judge", "hear", "(I)V"⟩, 15) := ⟨⟨by decide +kernel, by decide +kernel⟩, List.mem_of_getElem? (i := 236) (by decide +kernel), List.mem_of_getElem? (i := 625) (by decide +kernel), List.mem_of_getElem? (i := 626) (by decide +kernel)⟩
def lw_privs_2 : List (MethodName × Nat) := [(⟨"PromiseCourt$Family", "canBear", "(II)Z"⟩, 6), (⟨"PromiseCourt$Family", "has", "(I)Z"⟩, 6), (⟨"PromiseCourt$Family", "add", "(III)I"⟩, 6), (⟨"PromiseCourt$Family", "stepsTo", "(II)I"⟩, 6), (⟨"PromiseCourt", "areTwoPersons", "(II)Z"⟩, 10), (⟨"PromiseCourt$Promises", "add", "(IIIIII)I"⟩, 7), (⟨"PromiseCourt", "isPromise", "(I)Z"⟩, 10), (⟨"PromiseCourt$Gifts", "add", "(III)I"⟩, 4), (⟨"PromiseCourt$Promises", "binds", "(II)Z"⟩, 7), (⟨"PromiseCourt$Facts", "add", "(IIII)I"⟩, 6), (⟨"PromiseCourt$Family", "degreeOf", "(II)I"⟩, 6), (⟨"PromiseCourt$Family", "gapsOf", "(I)I"⟩, 6), (⟨"PromiseCourt$Family", "parentOf", "(II)I"⟩, 6), (⟨"PromiseCourt$LawBook", "inForce", "(II)I"⟩, 3), (⟨"PromiseCourt", "isKnown", "(I)Z"⟩, 10), (⟨"PromiseCourt$Judge", "hear", "(I)V"⟩, 15)]
theorem lw_r2 : ∀ q ∈ lw_privs_2, lw_okq q := List.forall_mem_cons.mpr ⟨lw_p16, List.forall_mem_cons.mpr ⟨lw_p17, List.forall_mem_cons.mpr ⟨lw_p18, List.forall_mem_cons.mpr ⟨lw_p19, List.forall_mem_cons.mpr ⟨lw_p20, List.forall_mem_cons.mpr ⟨lw_p21, List.forall_mem_cons.mpr ⟨lw_p22, List.forall_mem_cons.mpr ⟨lw_p23, List.forall_mem_cons.mpr ⟨lw_p24, List.forall_mem_cons.mpr ⟨lw_p25, List.forall_mem_cons.mpr ⟨lw_p26, List.forall_mem_cons.mpr ⟨lw_p27, List.forall_mem_cons.mpr ⟨lw_p28, List.forall_mem_cons.mpr ⟨lw_p29, List.forall_mem_cons.mpr ⟨lw_p30, List.forall_mem_cons.mpr ⟨lw_p31, fun _ h => absurd h List.not_mem_nil⟩⟩⟩⟩⟩⟩⟩⟩⟩⟩⟩⟩⟩⟩⟩⟩
theorem lw_p32 : lw_okq (⟨"PromiseCourt$Facts", "recall", "(I)V"⟩, 6) := ⟨⟨by decide +kernel, by decide +kernel⟩, List.mem_of_getElem? (i := 208) (by decide +kernel), List.mem_of_getElem? (i := 629) (by decide +kernel), List.mem_of_getElem? (i := 630) (by decide +kernel)⟩
theorem lw_p33 : lw_okq (⟨"PromiseCourt$Judge", "prepare", "(I)V"⟩, 15) := ⟨⟨by decide +kernel, by decide +kernel⟩, List.mem_of_getElem? (i := 236) (by decide +kernel), List.mem_of_getElem? (i := 635) (by decide +kernel), List.mem_of_getElem? (i := 636) (by decide +kernel)⟩
theorem lw_p34 : lw_okq (⟨"PromiseCourt$Judge", "findEffect", "(I)V"⟩, 15) := ⟨⟨by decide +kernel, by decide +kernel⟩, List.mem_of_getElem? (i := 236) (by decide +kernel), List.mem_of_getElem? (i := 639) (by decide +kernel), List.mem_of_getElem? (i := 640) (by decide +kernel)⟩
theorem lw_p35 : lw_okq (⟨"PromiseCourt$Facts", "deciding", "(I)I"⟩, 6) := ⟨⟨by decide +kernel, by decide +kernel⟩, List.mem_of_getElem? (i := 208) (by decide +kernel), List.mem_of_getElem? (i := 643) (by decide +kernel), List.mem_of_getElem? (i := 644) (by decide +kernel)⟩
theorem lw_p36 : lw_okq (⟨"PromiseCourt$Judge", "weighWords", "(I)V"⟩, 15) := ⟨⟨by decide +kernel, by decide +kernel⟩, List.mem_of_getElem? (i := 236) (by decide +kernel), List.mem_of_getElem? (i := 648) (by decide +kernel), List.mem_of_getElem? (i := 649) (by decide +kernel)⟩
theorem lw_p37 : lw_okq (⟨"PromiseCourt$Reckoner", "clear", "()V"⟩, 4) := ⟨⟨by decide +kernel, by decide +kernel⟩, List.mem_of_getElem? (i := 242) (by decide +kernel), List.mem_of_getElem? (i := 652) (by decide +kernel), List.mem_of_getElem? (i := 653) (by decide +kernel)⟩
theorem lw_p38 : lw_okq (⟨"PromiseCourt$Facts", "famesOf", "(I)I"⟩, 6) := ⟨⟨by decide +kernel, by decide +kernel⟩, List.mem_of_getElem? (i := 208) (by decide +kernel), List.mem_of_getElem? (i := 659) (by decide +kernel), List.mem_of_getElem? (i := 660) (by decide +kernel)⟩
theorem lw_p39 : lw_okq (⟨"PromiseCourt$Facts", "lastWords", "(I[I)V"⟩, 6) := ⟨⟨by decide +kernel, by decide +kernel⟩, List.mem_of_getElem? (i := 208) (by decide +kernel), List.mem_of_getElem? (i := 663) (by decide +kernel), List.mem_of_getElem? (i := 664) (by decide +kernel)⟩
theorem lw_p40 : lw_okq (⟨"PromiseCourt$Judge", "isKin", "(II)Z"⟩, 15) := ⟨⟨by decide +kernel, by decide +kernel⟩, List.mem_of_getElem? (i := 236) (by decide +kernel), List.mem_of_getElem? (i := 668) (by decide +kernel), List.mem_of_getElem? (i := 669) (by decide +kernel)⟩
theorem lw_p41 : lw_okq (⟨"PromiseCourt$Judge", "lawOf", "(I)LPromiseCourt$Law;"⟩, 15) := ⟨⟨by decide +kernel, by decide +kernel⟩, List.mem_of_getElem? (i := 236) (by decide +kernel), List.mem_of_getElem? (i := 674) (by decide +kernel), List.mem_of_getElem? (i := 675) (by decide +kernel)⟩
theorem lw_p42 : lw_okq (⟨"PromiseCourt$LawBook", "lawOn", "(II)LPromiseCourt$Law;"⟩, 3) := ⟨⟨by decide +kernel, by decide +kernel⟩, List.mem_of_getElem? (i := 80) (by decide +kernel), List.mem_of_getElem? (i := 678) (by decide +kernel), List.mem_of_getElem? (i := 679) (by decide +kernel)⟩
theorem lw_p43 : lw_okq (⟨"PromiseCourt$Law", "firstHolding", "(ILPromiseCourt$Reckoner;)I"⟩, 4) := ⟨⟨by decide +kernel, by decide +kernel⟩, List.mem_of_getElem? (i := 87) (by decide +kernel), List.mem_of_getElem? (i := 683) (by decide +kernel), List.mem_of_getElem? (i := 684) (by decide +kernel)⟩
theorem lw_p44 : lw_okq (⟨"PromiseCourt$Law", "tokenAt", "(I)I"⟩, 4) := ⟨⟨by decide +kernel, by decide +kernel⟩, List.mem_of_getElem? (i := 87) (by decide +kernel), List.mem_of_getElem? (i := 687) (by decide +kernel), List.mem_of_getElem? (i := 688) (by decide +kernel)⟩
theorem lw_p45 : lw_okq (⟨"PromiseCourt$Reckoner", "holds", "(LPromiseCourt$Law;I)Z"⟩, 4) := ⟨⟨by decide +kernel, by decide +kernel⟩, List.mem_of_getElem? (i := 242) (by decide +kernel), List.mem_of_getElem? (i := 691) (by decide +kernel), List.mem_of_getElem? (i := 692) (by decide +kernel)⟩
theorem lw_p46 : lw_okq (⟨"PromiseCourt$Reckoner", "valueOf", "(LPromiseCourt$Law;I)I"⟩, 4) := ⟨⟨by decide +kernel, by decide +kernel⟩, List.mem_of_getElem? (i := 242) (by decide +kernel), List.mem_of_getElem? (i := 695) (by decide +kernel), List.mem_of_getElem? (i := 696) (by decide +kernel)⟩
theorem lw_p47 : lw_okq (⟨"PromiseCourt$Judge", "nextWaiting", "()I"⟩, 15) := ⟨⟨by decide +kernel, by decide +kernel⟩, List.mem_of_getElem? (i := 236) (by decide +kernel), List.mem_of_getElem? (i := 704) (by decide +kernel), List.mem_of_getElem? (i := 705) (by decide +kernel)⟩
def lw_privs_3 : List (MethodName × Nat) := [(⟨"PromiseCourt$Facts", "recall", "(I)V"⟩, 6), (⟨"PromiseCourt$Judge", "prepare", "(I)V"⟩, 15), (⟨"PromiseCourt$Judge", "findEffect", "(I)V"⟩, 15), (⟨"PromiseCourt$Facts", "deciding", "(I)I"⟩, 6), (⟨"PromiseCourt$Judge", "weighWords", "(I)V"⟩, 15), (⟨"PromiseCourt$Reckoner", "clear", "()V"⟩, 4), (⟨"PromiseCourt$Facts", "famesOf", "(I)I"⟩, 6), (⟨"PromiseCourt$Facts", "lastWords", "(I[I)V"⟩, 6), (⟨"PromiseCourt$Judge", "isKin", "(II)Z"⟩, 15), (⟨"PromiseCourt$Judge", "lawOf", "(I)LPromiseCourt$Law;"⟩, 15), (⟨"PromiseCourt$LawBook", "lawOn", "(II)LPromiseCourt$Law;"⟩, 3), (⟨"PromiseCourt$Law", "firstHolding", "(ILPromiseCourt$Reckoner;)I"⟩, 4), (⟨"PromiseCourt$Law", "tokenAt", "(I)I"⟩, 4), (⟨"PromiseCourt$Reckoner", "holds", "(LPromiseCourt$Law;I)Z"⟩, 4), (⟨"PromiseCourt$Reckoner", "valueOf", "(LPromiseCourt$Law;I)I"⟩, 4), (⟨"PromiseCourt$Judge", "nextWaiting", "()I"⟩, 15)]
theorem lw_r3 : ∀ q ∈ lw_privs_3, lw_okq q := List.forall_mem_cons.mpr ⟨lw_p32, List.forall_mem_cons.mpr ⟨lw_p33, List.forall_mem_cons.mpr ⟨lw_p34, List.forall_mem_cons.mpr ⟨lw_p35, List.forall_mem_cons.mpr ⟨lw_p36, List.forall_mem_cons.mpr ⟨lw_p37, List.forall_mem_cons.mpr ⟨lw_p38, List.forall_mem_cons.mpr ⟨lw_p39, List.forall_mem_cons.mpr ⟨lw_p40, List.forall_mem_cons.mpr ⟨lw_p41, List.forall_mem_cons.mpr ⟨lw_p42, List.forall_mem_cons.mpr ⟨lw_p43, List.forall_mem_cons.mpr ⟨lw_p44, List.forall_mem_cons.mpr ⟨lw_p45, List.forall_mem_cons.mpr ⟨lw_p46, List.forall_mem_cons.mpr ⟨lw_p47, fun _ h => absurd h List.not_mem_nil⟩⟩⟩⟩⟩⟩⟩⟩⟩⟩⟩⟩⟩⟩⟩⟩
theorem lw_p48 : lw_okq (⟨"PromiseCourt$Judge", "settle", "(I)V"⟩, 15) := ⟨⟨by decide +kernel, by decide +kernel⟩, List.mem_of_getElem? (i := 236) (by decide +kernel), List.mem_of_getElem? (i := 708) (by decide +kernel), List.mem_of_getElem? (i := 709) (by decide +kernel)⟩
theorem lw_p49 : lw_okq (⟨"PromiseCourt$Judge", "firstBar", "(I)I"⟩, 15) := ⟨⟨by decide +kernel, by decide +kernel⟩, List.mem_of_getElem? (i := 236) (by decide +kernel), List.mem_of_getElem? (i := 712) (by decide +kernel), List.mem_of_getElem? (i := 713) (by decide +kernel)⟩
theorem lw_p50 : lw_okq (⟨"PromiseCourt$Judge", "firstOfBoth", "(II)I"⟩, 15) := ⟨⟨by decide +kernel, by decide +kernel⟩, List.mem_of_getElem? (i := 236) (by decide +kernel), List.mem_of_getElem? (i := 716) (by decide +kernel), List.mem_of_getElem? (i := 717) (by decide +kernel)⟩
theorem lw_p51 : lw_okq (⟨"PromiseCourt$Facts", "firstDay", "(II)I"⟩, 6) := ⟨⟨by decide +kernel, by decide +kernel⟩, List.mem_of_getElem? (i := 208) (by decide +kernel), List.mem_of_getElem? (i := 720) (by decide +kernel), List.mem_of_getElem? (i := 721) (by decide +kernel)⟩
theorem lw_p52 : lw_okq (⟨"PromiseCourt$Judge", "vowed", "(II)I"⟩, 15) := ⟨⟨by decide +kernel, by decide +kernel⟩, List.mem_of_getElem? (i := 236) (by decide +kernel), List.mem_of_getElem? (i := 725) (by decide +kernel), List.mem_of_getElem? (i := 726) (by decide +kernel)⟩
theorem lw_p53 : lw_okq (⟨"PromiseCourt$Facts", "firstLeave", "(II)I"⟩, 6) := ⟨⟨by decide +kernel, by decide +kernel⟩, List.mem_of_getElem? (i := 208) (by decide +kernel), List.mem_of_getElem? (i := 729) (by decide +kernel), List.mem_of_getElem? (i := 730) (by decide +kernel)⟩
theorem lw_p54 : lw_okq (⟨"PromiseCourt$Judge", "firstUnyielding", "(I)I"⟩, 15) := ⟨⟨by decide +kernel, by decide +kernel⟩, List.mem_of_getElem? (i := 236) (by decide +kernel), List.mem_of_getElem? (i := 733) (by decide +kernel), List.mem_of_getElem? (i := 734) (by decide +kernel)⟩
theorem lw_p55 : lw_okq (⟨"PromiseCourt$Judge", "isRival", "(II)Z"⟩, 15) := ⟨⟨by decide +kernel, by decide +kernel⟩, List.mem_of_getElem? (i := 236) (by decide +kernel), List.mem_of_getElem? (i := 737) (by decide +kernel), List.mem_of_getElem? (i := 738) (by decide +kernel)⟩
theorem lw_p56 : lw_okq (⟨"PromiseCourt$Promises", "shared", "(II)I"⟩, 7) := ⟨⟨by decide +kernel, by decide +kernel⟩, List.mem_of_getElem? (i := 147) (by decide +kernel), List.mem_of_getElem? (i := 741) (by decide +kernel), List.mem_of_getElem? (i := 742) (by decide +kernel)⟩
theorem lw_p57 : lw_okq (⟨"PromiseCourt$Judge", "endRivals", "(I)V"⟩, 15) := ⟨⟨by decide +kernel, by decide +kernel⟩, List.mem_of_getElem? (i := 236) (by decide +kernel), List.mem_of_getElem? (i := 746) (by decide +kernel), List.mem_of_getElem? (i := 747) (by decide +kernel)⟩
theorem lw_p58 : lw_okq (⟨"PromiseCourt$Judge", "findEnd", "(I)V"⟩, 15) := ⟨⟨by decide +kernel, by decide +kernel⟩, List.mem_of_getElem? (i := 236) (by decide +kernel), List.mem_of_getElem? (i := 750) (by decide +kernel), List.mem_of_getElem? (i := 751) (by decide +kernel)⟩
theorem lw_p59 : lw_okq (⟨"PromiseCourt$Law", "lapseDays", "()I"⟩, 4) := ⟨⟨by decide +kernel, by decide +kernel⟩, List.mem_of_getElem? (i := 87) (by decide +kernel), List.mem_of_getElem? (i := 754) (by decide +kernel), List.mem_of_getElem? (i := 755) (by decide +kernel)⟩
theorem lw_p60 : lw_okq (⟨"PromiseCourt$Facts", "firstLapse", "(III)I"⟩, 6) := ⟨⟨by decide +kernel, by decide +kernel⟩, List.mem_of_getElem? (i := 208) (by decide +kernel), List.mem_of_getElem? (i := 758) (by decide +kernel), List.mem_of_getElem? (i := 759) (by decide +kernel)⟩
theorem lw_p61 : lw_okq (⟨"PromiseCourt$Facts", "returns", "(III)Z"⟩, 6) := ⟨⟨by decide +kernel, by decide +kernel⟩, List.mem_of_getElem? (i := 208) (by decide +kernel), List.mem_of_getElem? (i := 762) (by decide +kernel), List.mem_of_getElem? (i := 763) (by decide +kernel)⟩
theorem lw_p62 : lw_okq (⟨"PromiseCourt$Judge", "stateOn", "(II)I"⟩, 15) := ⟨⟨by decide +kernel, by decide +kernel⟩, List.mem_of_getElem? (i := 236) (by decide +kernel), List.mem_of_getElem? (i := 774) (by decide +kernel), List.mem_of_getElem? (i := 775) (by decide +kernel)⟩
theorem lw_p63 : lw_okq (⟨"PromiseCourt$Judge", "wasInForce", "(I)Z"⟩, 15) := ⟨⟨by decide +kernel, by decide +kernel⟩, List.mem_of_getElem? (i := 236) (by decide +kernel), List.mem_of_getElem? (i := 782) (by decide +kernel), List.mem_of_getElem? (i := 783) (by decide +kernel)⟩
def lw_privs_4 : List (MethodName × Nat) := [(⟨"PromiseCourt$Judge", "settle", "(I)V"⟩, 15), (⟨"PromiseCourt$Judge", "firstBar", "(I)I"⟩, 15), (⟨"PromiseCourt$Judge", "firstOfBoth", "(II)I"⟩, 15), (⟨"PromiseCourt$Facts", "firstDay", "(II)I"⟩, 6), (⟨"PromiseCourt$Judge", "vowed", "(II)I"⟩, 15), (⟨"PromiseCourt$Facts", "firstLeave", "(II)I"⟩, 6), (⟨"PromiseCourt$Judge", "firstUnyielding", "(I)I"⟩, 15), (⟨"PromiseCourt$Judge", "isRival", "(II)Z"⟩, 15), (⟨"PromiseCourt$Promises", "shared", "(II)I"⟩, 7), (⟨"PromiseCourt$Judge", "endRivals", "(I)V"⟩, 15), (⟨"PromiseCourt$Judge", "findEnd", "(I)V"⟩, 15), (⟨"PromiseCourt$Law", "lapseDays", "()I"⟩, 4), (⟨"PromiseCourt$Facts", "firstLapse", "(III)I"⟩, 6), (⟨"PromiseCourt$Facts", "returns", "(III)Z"⟩, 6), (⟨"PromiseCourt$Judge", "stateOn", "(II)I"⟩, 15), (⟨"PromiseCourt$Judge", "wasInForce", "(I)Z"⟩, 15)]
theorem lw_r4 : ∀ q ∈ lw_privs_4, lw_okq q := List.forall_mem_cons.mpr ⟨lw_p48, List.forall_mem_cons.mpr ⟨lw_p49, List.forall_mem_cons.mpr ⟨lw_p50, List.forall_mem_cons.mpr ⟨lw_p51, List.forall_mem_cons.mpr ⟨lw_p52, List.forall_mem_cons.mpr ⟨lw_p53, List.forall_mem_cons.mpr ⟨lw_p54, List.forall_mem_cons.mpr ⟨lw_p55, List.forall_mem_cons.mpr ⟨lw_p56, List.forall_mem_cons.mpr ⟨lw_p57, List.forall_mem_cons.mpr ⟨lw_p58, List.forall_mem_cons.mpr ⟨lw_p59, List.forall_mem_cons.mpr ⟨lw_p60, List.forall_mem_cons.mpr ⟨lw_p61, List.forall_mem_cons.mpr ⟨lw_p62, List.forall_mem_cons.mpr ⟨lw_p63, fun _ h => absurd h List.not_mem_nil⟩⟩⟩⟩⟩⟩⟩⟩⟩⟩⟩⟩⟩⟩⟩⟩
theorem lw_p64 : lw_okq (⟨"PromiseCourt$Promises", "otherOf", "(II)I"⟩, 7) := ⟨⟨by decide +kernel, by decide +kernel⟩, List.mem_of_getElem? (i := 147) (by decide +kernel), List.mem_of_getElem? (i := 790) (by decide +kernel), List.mem_of_getElem? (i := 791) (by decide +kernel)⟩
theorem lw_p65 : lw_okq (⟨"PromiseCourt", "goingBack", "(II)I"⟩, 10) := ⟨⟨by decide +kernel, by decide +kernel⟩, List.mem_of_getElem? (i := 21) (by decide +kernel), List.mem_of_getElem? (i := 798) (by decide +kernel), List.mem_of_getElem? (i := 799) (by decide +kernel)⟩
theorem lw_p66 : lw_okq (⟨"PromiseCourt$Judge", "shareBack", "(III)I"⟩, 15) := ⟨⟨by decide +kernel, by decide +kernel⟩, List.mem_of_getElem? (i := 236) (by decide +kernel), List.mem_of_getElem? (i := 802) (by decide +kernel), List.mem_of_getElem? (i := 803) (by decide +kernel)⟩
theorem lw_p67 : lw_okq (⟨"PromiseCourt$Judge", "breachFor", "(II)I"⟩, 15) := ⟨⟨by decide +kernel, by decide +kernel⟩, List.mem_of_getElem? (i := 236) (by decide +kernel), List.mem_of_getElem? (i := 807) (by decide +kernel), List.mem_of_getElem? (i := 808) (by decide +kernel)⟩
theorem lw_p68 : lw_okq (⟨"PromiseCourt$Law", "share", "(LPromiseCourt$Reckoner;)I"⟩, 4) := ⟨⟨by decide +kernel, by decide +kernel⟩, List.mem_of_getElem? (i := 87) (by decide +kernel), List.mem_of_getElem? (i := 811) (by decide +kernel), List.mem_of_getElem? (i := 812) (by decide +kernel)⟩
theorem lw_p69 : lw_okq (⟨"PromiseCourt$Promises", "sideOf", "(II)I"⟩, 7) := ⟨⟨by decide +kernel, by decide +kernel⟩, List.mem_of_getElem? (i := 147) (by decide +kernel), List.mem_of_getElem? (i := 822) (by decide +kernel), List.mem_of_getElem? (i := 823) (by decide +kernel)⟩
theorem lw_p70 : lw_okq (⟨"PromiseCourtModel", "put", "(I)V"⟩, 77) := ⟨⟨by decide +kernel, by decide +kernel⟩, List.mem_of_getElem? (i := 834) (by decide +kernel), List.mem_of_getElem? (i := 1083) (by decide +kernel), List.mem_of_getElem? (i := 1084) (by decide +kernel)⟩
theorem lw_p71 : lw_okq (⟨"PromiseCourtModel", "cut", "()V"⟩, 77) := ⟨⟨by decide +kernel, by decide +kernel⟩, List.mem_of_getElem? (i := 834) (by decide +kernel), List.mem_of_getElem? (i := 1098) (by decide +kernel), List.mem_of_getElem? (i := 1099) (by decide +kernel)⟩
theorem lw_p72 : lw_okq (⟨"PromiseCourtModel", "at", "(I)I"⟩, 77) := ⟨⟨by decide +kernel, by decide +kernel⟩, List.mem_of_getElem? (i := 834) (by decide +kernel), List.mem_of_getElem? (i := 1102) (by decide +kernel), List.mem_of_getElem? (i := 1103) (by decide +kernel)⟩
theorem lw_p73 : lw_okq (⟨"PromiseCourtModel", "token", "(IIIJ)V"⟩, 77) := ⟨⟨by decide +kernel, by decide +kernel⟩, List.mem_of_getElem? (i := 834) (by decide +kernel), List.mem_of_getElem? (i := 1106) (by decide +kernel), List.mem_of_getElem? (i := 1107) (by decide +kernel)⟩
theorem lw_p74 : lw_okq (⟨"PromiseCourtModel", "sign", "(III)I"⟩, 77) := ⟨⟨by decide +kernel, by decide +kernel⟩, List.mem_of_getElem? (i := 834) (by decide +kernel), List.mem_of_getElem? (i := 1116) (by decide +kernel), List.mem_of_getElem? (i := 1117) (by decide +kernel)⟩
theorem lw_p75 : lw_okq (⟨"PromiseCourtModel", "is", "(I)Z"⟩, 77) := ⟨⟨by decide +kernel, by decide +kernel⟩, List.mem_of_getElem? (i := 834) (by decide +kernel), List.mem_of_getElem? (i := 1120) (by decide +kernel), List.mem_of_getElem? (i := 1121) (by decide +kernel)⟩
theorem lw_p76 : lw_okq (⟨"PromiseCourtModel", "tellRule", "()V"⟩, 77) := ⟨⟨by decide +kernel, by decide +kernel⟩, List.mem_of_getElem? (i := 834) (by decide +kernel), List.mem_of_getElem? (i := 1124) (by decide +kernel), List.mem_of_getElem? (i := 1125) (by decide +kernel)⟩
theorem lw_p77 : lw_okq (⟨"PromiseCourtModel", "fail", "(I)V"⟩, 77) := ⟨⟨by decide +kernel, by decide +kernel⟩, List.mem_of_getElem? (i := 834) (by decide +kernel), List.mem_of_getElem? (i := 1128) (by decide +kernel), List.mem_of_getElem? (i := 1129) (by decide +kernel)⟩
theorem lw_p78 : lw_okq (⟨"PromiseCourtModel", "next", "()V"⟩, 77) := ⟨⟨by decide +kernel, by decide +kernel⟩, List.mem_of_getElem? (i := 834) (by decide +kernel), List.mem_of_getElem? (i := 1132) (by decide +kernel), List.mem_of_getElem? (i := 1133) (by decide +kernel)⟩
theorem lw_p79 : lw_okq (⟨"PromiseCourtModel", "must", "(I)V"⟩, 77) := ⟨⟨by decide +kernel, by decide +kernel⟩, List.mem_of_getElem? (i := 834) (by decide +kernel), List.mem_of_getElem? (i := 1136) (by decide +kernel), List.mem_of_getElem? (i := 1137) (by decide +kernel)⟩
def lw_privs_5 : List (MethodName × Nat) := [(⟨"PromiseCourt$Promises", "otherOf", "(II)I"⟩, 7), (⟨"PromiseCourt", "goingBack", "(II)I"⟩, 10), (⟨"PromiseCourt$Judge", "shareBack", "(III)I"⟩, 15), (⟨"PromiseCourt$Judge", "breachFor", "(II)I"⟩, 15), (⟨"PromiseCourt$Law", "share", "(LPromiseCourt$Reckoner;)I"⟩, 4), (⟨"PromiseCourt$Promises", "sideOf", "(II)I"⟩, 7), (⟨"PromiseCourtModel", "put", "(I)V"⟩, 77), (⟨"PromiseCourtModel", "cut", "()V"⟩, 77), (⟨"PromiseCourtModel", "at", "(I)I"⟩, 77), (⟨"PromiseCourtModel", "token", "(IIIJ)V"⟩, 77), (⟨"PromiseCourtModel", "sign", "(III)I"⟩, 77), (⟨"PromiseCourtModel", "is", "(I)Z"⟩, 77), (⟨"PromiseCourtModel", "tellRule", "()V"⟩, 77), (⟨"PromiseCourtModel", "fail", "(I)V"⟩, 77), (⟨"PromiseCourtModel", "next", "()V"⟩, 77), (⟨"PromiseCourtModel", "must", "(I)V"⟩, 77)]
theorem lw_r5 : ∀ q ∈ lw_privs_5, lw_okq q := List.forall_mem_cons.mpr ⟨lw_p64, List.forall_mem_cons.mpr ⟨lw_p65, List.forall_mem_cons.mpr ⟨lw_p66, List.forall_mem_cons.mpr ⟨lw_p67, List.forall_mem_cons.mpr ⟨lw_p68, List.forall_mem_cons.mpr ⟨lw_p69, List.forall_mem_cons.mpr ⟨lw_p70, List.forall_mem_cons.mpr ⟨lw_p71, List.forall_mem_cons.mpr ⟨lw_p72, List.forall_mem_cons.mpr ⟨lw_p73, List.forall_mem_cons.mpr ⟨lw_p74, List.forall_mem_cons.mpr ⟨lw_p75, List.forall_mem_cons.mpr ⟨lw_p76, List.forall_mem_cons.mpr ⟨lw_p77, List.forall_mem_cons.mpr ⟨lw_p78, List.forall_mem_cons.mpr ⟨lw_p79, fun _ h => absurd h List.not_mem_nil⟩⟩⟩⟩⟩⟩⟩⟩⟩⟩⟩⟩⟩⟩⟩⟩
theorem lw_p80 : lw_okq (⟨"PromiseCourtModel", "expression", "()V"⟩, 77) := ⟨⟨by decide +kernel, by decide +kernel⟩, List.mem_of_getElem? (i := 834) (by decide +kernel), List.mem_of_getElem? (i := 1140) (by decide +kernel), List.mem_of_getElem? (i := 1141) (by decide +kernel)⟩
theorem lw_p81 : lw_okq (⟨"PromiseCourtModel", "emit", "(II)V"⟩, 77) := ⟨⟨by decide +kernel, by decide +kernel⟩, List.mem_of_getElem? (i := 834) (by decide +kernel), List.mem_of_getElem? (i := 1144) (by decide +kernel), List.mem_of_getElem? (i := 1145) (by decide +kernel)⟩
theorem lw_p82 : lw_okq (⟨"PromiseCourtModel", "comesOut", "(Z)V"⟩, 77) := ⟨⟨by decide +kernel, by decide +kernel⟩, List.mem_of_getElem? (i := 834) (by decide +kernel), List.mem_of_getElem? (i := 1148) (by decide +kernel), List.mem_of_getElem? (i := 1149) (by decide +kernel)⟩
theorem lw_p83 : lw_okq (⟨"PromiseCourtModel", "relation", "(Z)V"⟩, 77) := ⟨⟨by decide +kernel, by decide +kernel⟩, List.mem_of_getElem? (i := 834) (by decide +kernel), List.mem_of_getElem? (i := 1152) (by decide +kernel), List.mem_of_getElem? (i := 1153) (by decide +kernel)⟩
theorem lw_p84 : lw_okq (⟨"PromiseCourtModel", "isPerson", "(I)Z"⟩, 77) := ⟨⟨by decide +kernel, by decide +kernel⟩, List.mem_of_getElem? (i := 834) (by decide +kernel), List.mem_of_getElem? (i := 1168) (by decide +kernel), List.mem_of_getElem? (i := 1169) (by decide +kernel)⟩
theorem lw_p85 : lw_okq (⟨"PromiseCourtModel", "degreeOf", "(II)I"⟩, 77) := ⟨⟨by decide +kernel, by decide +kernel⟩, List.mem_of_getElem? (i := 834) (by decide +kernel), List.mem_of_getElem? (i := 1172) (by decide +kernel), List.mem_of_getElem? (i := 1173) (by decide +kernel)⟩
theorem lw_p86 : lw_okq (⟨"PromiseCourtModel", "isPromise", "(I)Z"⟩, 77) := ⟨⟨by decide +kernel, by decide +kernel⟩, List.mem_of_getElem? (i := 834) (by decide +kernel), List.mem_of_getElem? (i := 1188) (by decide +kernel), List.mem_of_getElem? (i := 1189) (by decide +kernel)⟩
theorem lw_p87 : lw_okq (⟨"PromiseCourtModel", "fact", "(IIII)I"⟩, 77) := ⟨⟨by decide +kernel, by decide +kernel⟩, List.mem_of_getElem? (i := 834) (by decide +kernel), List.mem_of_getElem? (i := 1196) (by decide +kernel), List.mem_of_getElem? (i := 1197) (by decide +kernel)⟩
theorem lw_p88 : lw_okq (⟨"PromiseCourtModel", "lawOf", "(I)I"⟩, 77) := ⟨⟨by decide +kernel, by decide +kernel⟩, List.mem_of_getElem? (i := 834) (by decide +kernel), List.mem_of_getElem? (i := 1220) (by decide +kernel), List.mem_of_getElem? (i := 1221) (by decide +kernel)⟩
theorem lw_p89 : lw_okq (⟨"PromiseCourtModel", "isKnown", "(I)Z"⟩, 77) := ⟨⟨by decide +kernel, by decide +kernel⟩, List.mem_of_getElem? (i := 834) (by decide +kernel), List.mem_of_getElem? (i := 1228) (by decide +kernel), List.mem_of_getElem? (i := 1229) (by decide +kernel)⟩
theorem lw_p90 : lw_okq (⟨"PromiseCourtModel", "judgesAll", "(I)V"⟩, 77) := ⟨⟨by decide +kernel, by decide +kernel⟩, List.mem_of_getElem? (i := 834) (by decide +kernel), List.mem_of_getElem? (i := 1232) (by decide +kernel), List.mem_of_getElem? (i := 1233) (by decide +kernel)⟩
theorem lw_p91 : lw_okq (⟨"PromiseCourtModel", "proofOf", "(II)I"⟩, 77) := ⟨⟨by decide +kernel, by decide +kernel⟩, List.mem_of_getElem? (i := 834) (by decide +kernel), List.mem_of_getElem? (i := 1236) (by decide +kernel), List.mem_of_getElem? (i := 1237) (by decide +kernel)⟩
theorem lw_p92 : lw_okq (⟨"PromiseCourtModel", "nothing", "(I)V"⟩, 77) := ⟨⟨by decide +kernel, by decide +kernel⟩, List.mem_of_getElem? (i := 834) (by decide +kernel), List.mem_of_getElem? (i := 1240) (by decide +kernel), List.mem_of_getElem? (i := 1241) (by decide +kernel)⟩
theorem lw_p93 : lw_okq (⟨"PromiseCourtModel", "isKin", "(II)Z"⟩, 77) := ⟨⟨by decide +kernel, by decide +kernel⟩, List.mem_of_getElem? (i := 834) (by decide +kernel), List.mem_of_getElem? (i := 1244) (by decide +kernel), List.mem_of_getElem? (i := 1245) (by decide +kernel)⟩
theorem lw_p94 : lw_okq (⟨"PromiseCourtModel", "ruleOf", "(II)I"⟩, 77) := ⟨⟨by decide +kernel, by decide +kernel⟩, List.mem_of_getElem? (i := 834) (by decide +kernel), List.mem_of_getElem? (i := 1248) (by decide +kernel), List.mem_of_getElem? (i := 1249) (by decide +kernel)⟩
theorem lw_p95 : lw_okq (⟨"PromiseCourtModel", "holds", "(II)Z"⟩, 77) := ⟨⟨by decide +kernel, by decide +kernel⟩, List.mem_of_getElem? (i := 834) (by decide +kernel), List.mem_of_getElem? (i := 1252) (by decide +kernel), List.mem_of_getElem? (i := 1253) (by decide +kernel)⟩
def lw_privs_6 : List (MethodName × Nat) := [(⟨"PromiseCourtModel", "expression", "()V"⟩, 77), (⟨"PromiseCourtModel", "emit", "(II)V"⟩, 77), (⟨"PromiseCourtModel", "comesOut", "(Z)V"⟩, 77), (⟨"PromiseCourtModel", "relation", "(Z)V"⟩, 77), (⟨"PromiseCourtModel", "isPerson", "(I)Z"⟩, 77), (⟨"PromiseCourtModel", "degreeOf", "(II)I"⟩, 77), (⟨"PromiseCourtModel", "isPromise", "(I)Z"⟩, 77), (⟨"PromiseCourtModel", "fact", "(IIII)I"⟩, 77), (⟨"PromiseCourtModel", "lawOf", "(I)I"⟩, 77), (⟨"PromiseCourtModel", "isKnown", "(I)Z"⟩, 77), (⟨"PromiseCourtModel", "judgesAll", "(I)V"⟩, 77), (⟨"PromiseCourtModel", "proofOf", "(II)I"⟩, 77), (⟨"PromiseCourtModel", "nothing", "(I)V"⟩, 77), (⟨"PromiseCourtModel", "isKin", "(II)Z"⟩, 77), (⟨"PromiseCourtModel", "ruleOf", "(II)I"⟩, 77), (⟨"PromiseCourtModel", "holds", "(II)Z"⟩, 77)]
theorem lw_r6 : ∀ q ∈ lw_privs_6, lw_okq q := List.forall_mem_cons.mpr ⟨lw_p80, List.forall_mem_cons.mpr ⟨lw_p81, List.forall_mem_cons.mpr ⟨lw_p82, List.forall_mem_cons.mpr ⟨lw_p83, List.forall_mem_cons.mpr ⟨lw_p84, List.forall_mem_cons.mpr ⟨lw_p85, List.forall_mem_cons.mpr ⟨lw_p86, List.forall_mem_cons.mpr ⟨lw_p87, List.forall_mem_cons.mpr ⟨lw_p88, List.forall_mem_cons.mpr ⟨lw_p89, List.forall_mem_cons.mpr ⟨lw_p90, List.forall_mem_cons.mpr ⟨lw_p91, List.forall_mem_cons.mpr ⟨lw_p92, List.forall_mem_cons.mpr ⟨lw_p93, List.forall_mem_cons.mpr ⟨lw_p94, List.forall_mem_cons.mpr ⟨lw_p95, fun _ h => absurd h List.not_mem_nil⟩⟩⟩⟩⟩⟩⟩⟩⟩⟩⟩⟩⟩⟩⟩⟩
theorem lw_p96 : lw_okq (⟨"PromiseCourtModel", "value", "(II)I"⟩, 77) := ⟨⟨by decide +kernel, by decide +kernel⟩, List.mem_of_getElem? (i := 834) (by decide +kernel), List.mem_of_getElem? (i := 1256) (by decide +kernel), List.mem_of_getElem? (i := 1257) (by decide +kernel)⟩
theorem lw_p97 : lw_okq (⟨"PromiseCourtModel", "effects", "(II)V"⟩, 77) := ⟨⟨by decide +kernel, by decide +kernel⟩, List.mem_of_getElem? (i := 834) (by decide +kernel), List.mem_of_getElem? (i := 1260) (by decide +kernel), List.mem_of_getElem? (i := 1261) (by decide +kernel)⟩
theorem lw_p98 : lw_okq (⟨"PromiseCourtModel", "judges", "(II)V"⟩, 77) := ⟨⟨by decide +kernel, by decide +kernel⟩, List.mem_of_getElem? (i := 834) (by decide +kernel), List.mem_of_getElem? (i := 1265) (by decide +kernel), List.mem_of_getElem? (i := 1266) (by decide +kernel)⟩
theorem lw_p99 : lw_okq (⟨"PromiseCourtModel", "barOf", "(II)I"⟩, 77) := ⟨⟨by decide +kernel, by decide +kernel⟩, List.mem_of_getElem? (i := 834) (by decide +kernel), List.mem_of_getElem? (i := 1269) (by decide +kernel), List.mem_of_getElem? (i := 1270) (by decide +kernel)⟩
theorem lw_p100 : lw_okq (⟨"PromiseCourtModel", "fateOf", "(III)I"⟩, 77) := ⟨⟨by decide +kernel, by decide +kernel⟩, List.mem_of_getElem? (i := 834) (by decide +kernel), List.mem_of_getElem? (i := 1273) (by decide +kernel), List.mem_of_getElem? (i := 1274) (by decide +kernel)⟩
theorem lw_p101 : lw_okq (⟨"PromiseCourtModel", "vows", "(III)I"⟩, 77) := ⟨⟨by decide +kernel, by decide +kernel⟩, List.mem_of_getElem? (i := 834) (by decide +kernel), List.mem_of_getElem? (i := 1277) (by decide +kernel), List.mem_of_getElem? (i := 1278) (by decide +kernel)⟩
theorem lw_p102 : lw_okq (⟨"PromiseCourtModel", "isRival", "(II)Z"⟩, 77) := ⟨⟨by decide +kernel, by decide +kernel⟩, List.mem_of_getElem? (i := 834) (by decide +kernel), List.mem_of_getElem? (i := 1281) (by decide +kernel), List.mem_of_getElem? (i := 1282) (by decide +kernel)⟩
theorem lw_p103 : lw_okq (⟨"PromiseCourtModel", "isIn", "(II)Z"⟩, 77) := ⟨⟨by decide +kernel, by decide +kernel⟩, List.mem_of_getElem? (i := 834) (by decide +kernel), List.mem_of_getElem? (i := 1285) (by decide +kernel), List.mem_of_getElem? (i := 1286) (by decide +kernel)⟩
theorem lw_p104 : lw_okq (⟨"PromiseCourtModel", "lapseOf", "(II)I"⟩, 77) := ⟨⟨by decide +kernel, by decide +kernel⟩, List.mem_of_getElem? (i := 834) (by decide +kernel), List.mem_of_getElem? (i := 1289) (by decide +kernel), List.mem_of_getElem? (i := 1290) (by decide +kernel)⟩
theorem lw_p105 : lw_okq (⟨"PromiseCourtModel", "stateOf", "(II)I"⟩, 77) := ⟨⟨by decide +kernel, by decide +kernel⟩, List.mem_of_getElem? (i := 834) (by decide +kernel), List.mem_of_getElem? (i := 1301) (by decide +kernel), List.mem_of_getElem? (i := 1302) (by decide +kernel)⟩
theorem lw_p106 : lw_okq (⟨"PromiseCourtModel", "backOf", "(II)I"⟩, 77) := ⟨⟨by decide +kernel, by decide +kernel⟩, List.mem_of_getElem? (i := 834) (by decide +kernel), List.mem_of_getElem? (i := 1317) (by decide +kernel), List.mem_of_getElem? (i := 1318) (by decide +kernel)⟩
def lw_privs_7 : List (MethodName × Nat) := [(⟨"PromiseCourtModel", "value", "(II)I"⟩, 77), (⟨"PromiseCourtModel", "effects", "(II)V"⟩, 77), (⟨"PromiseCourtModel", "judges", "(II)V"⟩, 77), (⟨"PromiseCourtModel", "barOf", "(II)I"⟩, 77), (⟨"PromiseCourtModel", "fateOf", "(III)I"⟩, 77), (⟨"PromiseCourtModel", "vows", "(III)I"⟩, 77), (⟨"PromiseCourtModel", "isRival", "(II)Z"⟩, 77), (⟨"PromiseCourtModel", "isIn", "(II)Z"⟩, 77), (⟨"PromiseCourtModel", "lapseOf", "(II)I"⟩, 77), (⟨"PromiseCourtModel", "stateOf", "(II)I"⟩, 77), (⟨"PromiseCourtModel", "backOf", "(II)I"⟩, 77)]
theorem lw_r7 : ∀ q ∈ lw_privs_7, lw_okq q := List.forall_mem_cons.mpr ⟨lw_p96, List.forall_mem_cons.mpr ⟨lw_p97, List.forall_mem_cons.mpr ⟨lw_p98, List.forall_mem_cons.mpr ⟨lw_p99, List.forall_mem_cons.mpr ⟨lw_p100, List.forall_mem_cons.mpr ⟨lw_p101, List.forall_mem_cons.mpr ⟨lw_p102, List.forall_mem_cons.mpr ⟨lw_p103, List.forall_mem_cons.mpr ⟨lw_p104, List.forall_mem_cons.mpr ⟨lw_p105, List.forall_mem_cons.mpr ⟨lw_p106, fun _ h => absurd h List.not_mem_nil⟩⟩⟩⟩⟩⟩⟩⟩⟩⟩⟩
def lw_privs : List (MethodName × Nat) := lw_privs_1 ++ (lw_privs_2 ++ (lw_privs_3 ++ (lw_privs_4 ++ (lw_privs_5 ++ (lw_privs_6 ++ (lw_privs_7))))))
def lw_tbl : List Cond := k2_sels lw_privs ++ tables_1
theorem lw_privs_ok : ∀ q ∈ lw_privs, lw_okq q := by
  show ∀ q ∈ lw_privs_1 ++ (lw_privs_2 ++ (lw_privs_3 ++ (lw_privs_4 ++ (lw_privs_5 ++ (lw_privs_6 ++ (lw_privs_7)))))), lw_okq q
  exact List.forall_mem_append.mpr ⟨lw_r1, List.forall_mem_append.mpr ⟨lw_r2, List.forall_mem_append.mpr ⟨lw_r3, List.forall_mem_append.mpr ⟨lw_r4, List.forall_mem_append.mpr ⟨lw_r5, List.forall_mem_append.mpr ⟨lw_r6, lw_r7⟩⟩⟩⟩⟩⟩
end
section
def RX0 : String := "PromiseCourt$Facts"
def TX0 : u_T := fun k => match k with
  | 0 => ("PromiseCourt$Facts", "sort", "[I", true)
  | 1 => ("PromiseCourt$Facts", "whom", "[I", true)
  | 2 => ("PromiseCourt$Facts", "other", "[I", true)
  | 3 => ("PromiseCourt$Facts", "day", "[I", true)
  | 4 => ("PromiseCourt$Facts", "size", "I", false)
  | _ => ("PromiseCourt$Facts", "known", "I", false)
def tyX0 : Nat → FieldType := fun k => match k with
  | 0 => .array .int
  | 1 => .array .int
  | 2 => .array .int
  | 3 => .array .int
  | 4 => .int
  | _ => .int
abbrev wsX00 : List Cond := u_ws RX0 TX0 6
theorem nmX0 : ∀ a, a < 6 → ∀ b, b < 6 → a ≠ b → (TX0 a).2.1 ≠ (TX0 b).2.1 := by decide +kernel
theorem tyX0_ok : ∀ k, k < 6 → parseFieldDescriptor (TX0 k).2.2.1 = some (tyX0 k) := by decide +kernel
abbrev cX0_init : ByteArray := prog_2_method_1_code
def yX0_init : MethodName := ⟨RX0, "<init>", "()V"⟩
abbrev cX0_add : ByteArray := prog_2_method_2_code
def yX0_add : MethodName := ⟨RX0, "add", "(IIII)I"⟩
abbrev cX0_recall : ByteArray := prog_2_method_3_code
def yX0_recall : MethodName := ⟨RX0, "recall", "(I)V"⟩
abbrev cX0_firstDay : ByteArray := prog_2_method_4_code
def yX0_firstDay : MethodName := ⟨RX0, "firstDay", "(II)I"⟩
abbrev cX0_firstLeave : ByteArray := prog_2_method_5_code
def yX0_firstLeave : MethodName := ⟨RX0, "firstLeave", "(II)I"⟩
abbrev cX0_famesOf : ByteArray := prog_2_method_6_code
def yX0_famesOf : MethodName := ⟨RX0, "famesOf", "(I)I"⟩
abbrev cX0_deciding : ByteArray := prog_2_method_7_code
def yX0_deciding : MethodName := ⟨RX0, "deciding", "(I)I"⟩
abbrev cX0_lastWords : ByteArray := prog_2_method_8_code
def yX0_lastWords : MethodName := ⟨RX0, "lastWords", "(I[I)V"⟩
abbrev cX0_firstLapse : ByteArray := prog_2_method_9_code
def yX0_firstLapse : MethodName := ⟨RX0, "firstLapse", "(III)I"⟩
abbrev cX0_returns : ByteArray := prog_2_method_10_code
def yX0_returns : MethodName := ⟨RX0, "returns", "(III)Z"⟩
def RX1 : String := "PromiseCourt$Family"
def TX1 : u_T := fun k => match k with
  | 0 => ("PromiseCourt$Family", "father", "[I", true)
  | 1 => ("PromiseCourt$Family", "mother", "[I", true)
  | 2 => ("PromiseCourt$Family", "birth", "[I", true)
  | 3 => ("PromiseCourt$Family", "steps", "[I", true)
  | 4 => ("PromiseCourt$Family", "line", "[I", true)
  | _ => ("PromiseCourt$Family", "size", "I", false)
def tyX1 : Nat → FieldType := fun k => match k with
  | 0 => .array .int
  | 1 => .array .int
  | 2 => .array .int
  | 3 => .array .int
  | 4 => .array .int
  | _ => .int
abbrev wsX10 : List Cond := u_ws RX1 TX1 6
theorem nmX1 : ∀ a, a < 6 → ∀ b, b < 6 → a ≠ b → (TX1 a).2.1 ≠ (TX1 b).2.1 := by decide +kernel
theorem tyX1_ok : ∀ k, k < 6 → parseFieldDescriptor (TX1 k).2.2.1 = some (tyX1 k) := by decide +kernel
abbrev cX1_init : ByteArray := prog_3_method_1_code
def yX1_init : MethodName := ⟨RX1, "<init>", "()V"⟩
abbrev cX1_has : ByteArray := prog_3_method_2_code
def yX1_has : MethodName := ⟨RX1, "has", "(I)Z"⟩
abbrev cX1_canBear : ByteArray := prog_3_method_3_code
def yX1_canBear : MethodName := ⟨RX1, "canBear", "(II)Z"⟩
abbrev cX1_add : ByteArray := prog_3_method_4_code
def yX1_add : MethodName := ⟨RX1, "add", "(III)I"⟩
abbrev cX1_stepsTo : ByteArray := prog_3_method_5_code
def yX1_stepsTo : MethodName := ⟨RX1, "stepsTo", "(II)I"⟩
abbrev cX1_degreeOf : ByteArray := prog_3_method_6_code
def yX1_degreeOf : MethodName := ⟨RX1, "degreeOf", "(II)I"⟩
abbrev cX1_gapsOf : ByteArray := prog_3_method_7_code
def yX1_gapsOf : MethodName := ⟨RX1, "gapsOf", "(I)I"⟩
abbrev cX1_parentOf : ByteArray := prog_3_method_8_code
def yX1_parentOf : MethodName := ⟨RX1, "parentOf", "(II)I"⟩
def RX2 : String := "PromiseCourt$Gifts"
def TX2 : u_T := fun k => match k with
  | 0 => ("PromiseCourt$Gifts", "promise", "[I", true)
  | 1 => ("PromiseCourt$Gifts", "giver", "[I", true)
  | 2 => ("PromiseCourt$Gifts", "value", "[I", true)
  | _ => ("PromiseCourt$Gifts", "size", "I", false)
def tyX2 : Nat → FieldType := fun k => match k with
  | 0 => .array .int
  | 1 => .array .int
  | 2 => .array .int
  | _ => .int
abbrev wsX20 : List Cond := u_ws RX2 TX2 4
theorem nmX2 : ∀ a, a < 4 → ∀ b, b < 4 → a ≠ b → (TX2 a).2.1 ≠ (TX2 b).2.1 := by decide +kernel
theorem tyX2_ok : ∀ k, k < 4 → parseFieldDescriptor (TX2 k).2.2.1 = some (tyX2 k) := by decide +kernel
abbrev cX2_init : ByteArray := prog_4_method_1_code
def yX2_init : MethodName := ⟨RX2, "<init>", "()V"⟩
abbrev cX2_add : ByteArray := prog_4_method_2_code
def yX2_add : MethodName := ⟨RX2, "add", "(III)I"⟩
def RX3 : String := "PromiseCourt$Grammar"
def TX3 : u_T := fun k => match k with
  | 0 => ("PromiseCourt$Grammar", "tokens", "[I", true)
  | 1 => ("PromiseCourt$Grammar", "rules", "[I", true)
  | 2 => ("PromiseCourt$Grammar", "tokenCount", "I", false)
  | 3 => ("PromiseCourt$Grammar", "ruleCount", "I", false)
  | 4 => ("PromiseCourt$Grammar", "want", "I", false)
  | 5 => ("PromiseCourt$Grammar", "side", "I", false)
  | _ => ("PromiseCourt$Grammar", "depth", "I", false)
def tyX3 : Nat → FieldType := fun k => match k with
  | 0 => .array .int
  | 1 => .array .int
  | 2 => .int
  | 3 => .int
  | 4 => .int
  | 5 => .int
  | _ => .int
abbrev wsX30 : List Cond := u_ws RX3 TX3 7
theorem nmX3 : ∀ a, a < 7 → ∀ b, b < 7 → a ≠ b → (TX3 a).2.1 ≠ (TX3 b).2.1 := by decide +kernel
theorem tyX3_ok : ∀ k, k < 7 → parseFieldDescriptor (TX3 k).2.2.1 = some (tyX3 k) := by decide +kernel
abbrev cX3_init : ByteArray := prog_5_method_1_code
def yX3_init : MethodName := ⟨RX3, "<init>", "()V"⟩
abbrev cX3_parse : ByteArray := prog_5_method_2_code
def yX3_parse : MethodName := ⟨RX3, "parse", "(LPromiseCourt$Tape;)I"⟩
abbrev cX3_toLaw : ByteArray := prog_5_method_3_code
def yX3_toLaw : MethodName := ⟨RX3, "toLaw", "(II)LPromiseCourt$Law;"⟩
abbrev cX3_goesOn : ByteArray := prog_5_method_4_code
def yX3_goesOn : MethodName := ⟨RX3, "goesOn", "(I)Z"⟩
abbrev cX3_begins : ByteArray := prog_5_method_5_code
def yX3_begins : MethodName := ⟨RX3, "begins", "(I)Z"⟩
abbrev cX3_isUnit : ByteArray := prog_5_method_6_code
def yX3_isUnit : MethodName := ⟨RX3, "isUnit", "(I)Z"⟩
abbrev cX3_goesBehindUnit : ByteArray := prog_5_method_7_code
def yX3_goesBehindUnit : MethodName := ⟨RX3, "goesBehindUnit", "(I)Z"⟩
abbrev cX3_goesBehindE : ByteArray := prog_5_method_8_code
def yX3_goesBehindE : MethodName := ⟨RX3, "goesBehindE", "(I)Z"⟩
def RX4 : String := "PromiseCourt$Judge"
def TX4 : u_T := fun k => match k with
  | 0 => ("PromiseCourt$Judge", "laws", "LPromiseCourt$LawBook;", true)
  | 1 => ("PromiseCourt$Judge", "family", "LPromiseCourt$Family;", true)
  | 2 => ("PromiseCourt$Judge", "promises", "LPromiseCourt$Promises;", true)
  | 3 => ("PromiseCourt$Judge", "facts", "LPromiseCourt$Facts;", true)
  | 4 => ("PromiseCourt$Judge", "reckoner", "LPromiseCourt$Reckoner;", true)
  | 5 => ("PromiseCourt$Judge", "said", "[I", true)
  | 6 => ("PromiseCourt$Judge", "proof", "[I", true)
  | 7 => ("PromiseCourt$Judge", "effect", "[I", true)
  | 8 => ("PromiseCourt$Judge", "verdict", "[I", true)
  | 9 => ("PromiseCourt$Judge", "bar", "[I", true)
  | 10 => ("PromiseCourt$Judge", "voidBy", "[I", true)
  | 11 => ("PromiseCourt$Judge", "end", "[I", true)
  | 12 => ("PromiseCourt$Judge", "endBy", "[I", true)
  | 13 => ("PromiseCourt$Judge", "ender", "[I", true)
  | _ => ("PromiseCourt$Judge", "breakers", "[I", true)
def tyX4 : Nat → FieldType := fun k => match k with
  | 0 => .object "PromiseCourt$LawBook"
  | 1 => .object "PromiseCourt$Family"
  | 2 => .object "PromiseCourt$Promises"
  | 3 => .object "PromiseCourt$Facts"
  | 4 => .object "PromiseCourt$Reckoner"
  | 5 => .array .int
  | 6 => .array .int
  | 7 => .array .int
  | 8 => .array .int
  | 9 => .array .int
  | 10 => .array .int
  | 11 => .array .int
  | 12 => .array .int
  | 13 => .array .int
  | _ => .array .int
abbrev wsX40 : List Cond := u_ws RX4 TX4 15
theorem nmX4 : ∀ a, a < 15 → ∀ b, b < 15 → a ≠ b → (TX4 a).2.1 ≠ (TX4 b).2.1 := by decide +kernel
theorem tyX4_ok : ∀ k, k < 15 → parseFieldDescriptor (TX4 k).2.2.1 = some (tyX4 k) := by decide +kernel
abbrev cX4_init : ByteArray := prog_6_method_1_code
def yX4_init : MethodName := ⟨RX4, "<init>", "(LPromiseCourt$LawBook;LPromiseCourt$Family;LPromiseCourt$Promises;LPromiseCourt$Facts;)V"⟩
abbrev cX4_hear : ByteArray := prog_6_method_2_code
def yX4_hear : MethodName := ⟨RX4, "hear", "(I)V"⟩
abbrev cX4_stateOn : ByteArray := prog_6_method_3_code
def yX4_stateOn : MethodName := ⟨RX4, "stateOn", "(II)I"⟩
abbrev cX4_wasInForce : ByteArray := prog_6_method_4_code
def yX4_wasInForce : MethodName := ⟨RX4, "wasInForce", "(I)Z"⟩
abbrev cX4_shareBack : ByteArray := prog_6_method_5_code
def yX4_shareBack : MethodName := ⟨RX4, "shareBack", "(III)I"⟩
abbrev cX4_breachFor : ByteArray := prog_6_method_6_code
def yX4_breachFor : MethodName := ⟨RX4, "breachFor", "(II)I"⟩
abbrev cX4_lawOf : ByteArray := prog_6_method_7_code
def yX4_lawOf : MethodName := ⟨RX4, "lawOf", "(I)LPromiseCourt$Law;"⟩
abbrev cX4_prepare : ByteArray := prog_6_method_8_code
def yX4_prepare : MethodName := ⟨RX4, "prepare", "(I)V"⟩
abbrev cX4_findEffect : ByteArray := prog_6_method_9_code
def yX4_findEffect : MethodName := ⟨RX4, "findEffect", "(I)V"⟩
abbrev cX4_weighWords : ByteArray := prog_6_method_10_code
def yX4_weighWords : MethodName := ⟨RX4, "weighWords", "(I)V"⟩
abbrev cX4_isKin : ByteArray := prog_6_method_11_code
def yX4_isKin : MethodName := ⟨RX4, "isKin", "(II)Z"⟩
abbrev cX4_nextWaiting : ByteArray := prog_6_method_12_code
def yX4_nextWaiting : MethodName := ⟨RX4, "nextWaiting", "()I"⟩
abbrev cX4_settle : ByteArray := prog_6_method_13_code
def yX4_settle : MethodName := ⟨RX4, "settle", "(I)V"⟩
abbrev cX4_firstBar : ByteArray := prog_6_method_14_code
def yX4_firstBar : MethodName := ⟨RX4, "firstBar", "(I)I"⟩
abbrev cX4_firstOfBoth : ByteArray := prog_6_method_15_code
def yX4_firstOfBoth : MethodName := ⟨RX4, "firstOfBoth", "(II)I"⟩
abbrev cX4_vowed : ByteArray := prog_6_method_16_code
def yX4_vowed : MethodName := ⟨RX4, "vowed", "(II)I"⟩
abbrev cX4_isRival : ByteArray := prog_6_method_17_code
def yX4_isRival : MethodName := ⟨RX4, "isRival", "(II)Z"⟩
abbrev cX4_firstUnyielding : ByteArray := prog_6_method_18_code
def yX4_firstUnyielding : MethodName := ⟨RX4, "firstUnyielding", "(I)I"⟩
abbrev cX4_endRivals : ByteArray := prog_6_method_19_code
def yX4_endRivals : MethodName := ⟨RX4, "endRivals", "(I)V"⟩
abbrev cX4_findEnd : ByteArray := prog_6_method_20_code
def yX4_findEnd : MethodName := ⟨RX4, "findEnd", "(I)V"⟩
def RX5 : String := "PromiseCourt$Law"
def TX5 : u_T := fun k => match k with
  | 0 => ("PromiseCourt$Law", "place", "I", true)
  | 1 => ("PromiseCourt$Law", "day", "I", true)
  | 2 => ("PromiseCourt$Law", "tokens", "[I", true)
  | _ => ("PromiseCourt$Law", "rules", "[I", true)
def tyX5 : Nat → FieldType := fun k => match k with
  | 0 => .int
  | 1 => .int
  | 2 => .array .int
  | _ => .array .int
abbrev wsX50 : List Cond := u_ws RX5 TX5 4
theorem nmX5 : ∀ a, a < 4 → ∀ b, b < 4 → a ≠ b → (TX5 a).2.1 ≠ (TX5 b).2.1 := by decide +kernel
theorem tyX5_ok : ∀ k, k < 4 → parseFieldDescriptor (TX5 k).2.2.1 = some (tyX5 k) := by decide +kernel
abbrev cX5_init : ByteArray := prog_7_method_1_code
def yX5_init : MethodName := ⟨RX5, "<init>", "(II[I[I)V"⟩
abbrev cX5_tokenAt : ByteArray := prog_7_method_2_code
def yX5_tokenAt : MethodName := ⟨RX5, "tokenAt", "(I)I"⟩
abbrev cX5_firstHolding : ByteArray := prog_7_method_3_code
def yX5_firstHolding : MethodName := ⟨RX5, "firstHolding", "(ILPromiseCourt$Reckoner;)I"⟩
abbrev cX5_lapseDays : ByteArray := prog_7_method_4_code
def yX5_lapseDays : MethodName := ⟨RX5, "lapseDays", "()I"⟩
abbrev cX5_share : ByteArray := prog_7_method_5_code
def yX5_share : MethodName := ⟨RX5, "share", "(LPromiseCourt$Reckoner;)I"⟩
def RX6 : String := "PromiseCourt$LawBook"
def TX6 : u_T := fun k => match k with
  | 0 => ("PromiseCourt$LawBook", "texts", "[LPromiseCourt$Law;", true)
  | 1 => ("PromiseCourt$LawBook", "lawless", "LPromiseCourt$Law;", true)
  | _ => ("PromiseCourt$LawBook", "size", "I", false)
def tyX6 : Nat → FieldType := fun k => match k with
  | 0 => .array (.object "PromiseCourt$Law")
  | 1 => .object "PromiseCourt$Law"
  | _ => .int
abbrev wsX60 : List Cond := u_ws RX6 TX6 3
theorem nmX6 : ∀ a, a < 3 → ∀ b, b < 3 → a ≠ b → (TX6 a).2.1 ≠ (TX6 b).2.1 := by decide +kernel
theorem tyX6_ok : ∀ k, k < 3 → parseFieldDescriptor (TX6 k).2.2.1 = some (tyX6 k) := by decide +kernel
abbrev cX6_init : ByteArray := prog_8_method_1_code
def yX6_init : MethodName := ⟨RX6, "<init>", "()V"⟩
abbrev cX6_add : ByteArray := prog_8_method_2_code
def yX6_add : MethodName := ⟨RX6, "add", "(LPromiseCourt$Law;)V"⟩
abbrev cX6_inForce : ByteArray := prog_8_method_3_code
def yX6_inForce : MethodName := ⟨RX6, "inForce", "(II)I"⟩
abbrev cX6_lawOn : ByteArray := prog_8_method_4_code
def yX6_lawOn : MethodName := ⟨RX6, "lawOn", "(II)LPromiseCourt$Law;"⟩
def RX7 : String := "PromiseCourt$Promises"
def TX7 : u_T := fun k => match k with
  | 0 => ("PromiseCourt$Promises", "first", "[I", true)
  | 1 => ("PromiseCourt$Promises", "second", "[I", true)
  | 2 => ("PromiseCourt$Promises", "place", "[I", true)
  | 3 => ("PromiseCourt$Promises", "day", "[I", true)
  | 4 => ("PromiseCourt$Promises", "tense", "[I", true)
  | 5 => ("PromiseCourt$Promises", "condition", "[I", true)
  | _ => ("PromiseCourt$Promises", "size", "I", false)
def tyX7 : Nat → FieldType := fun k => match k with
  | 0 => .array .int
  | 1 => .array .int
  | 2 => .array .int
  | 3 => .array .int
  | 4 => .array .int
  | 5 => .array .int
  | _ => .int
abbrev wsX70 : List Cond := u_ws RX7 TX7 7
theorem nmX7 : ∀ a, a < 7 → ∀ b, b < 7 → a ≠ b → (TX7 a).2.1 ≠ (TX7 b).2.1 := by decide +kernel
theorem tyX7_ok : ∀ k, k < 7 → parseFieldDescriptor (TX7 k).2.2.1 = some (tyX7 k) := by decide +kernel
abbrev cX7_init : ByteArray := prog_9_method_1_code
def yX7_init : MethodName := ⟨RX7, "<init>", "()V"⟩
abbrev cX7_add : ByteArray := prog_9_method_2_code
def yX7_add : MethodName := ⟨RX7, "add", "(IIIIII)I"⟩
abbrev cX7_binds : ByteArray := prog_9_method_3_code
def yX7_binds : MethodName := ⟨RX7, "binds", "(II)Z"⟩
abbrev cX7_otherOf : ByteArray := prog_9_method_4_code
def yX7_otherOf : MethodName := ⟨RX7, "otherOf", "(II)I"⟩
abbrev cX7_sideOf : ByteArray := prog_9_method_5_code
def yX7_sideOf : MethodName := ⟨RX7, "sideOf", "(II)I"⟩
abbrev cX7_shared : ByteArray := prog_9_method_6_code
def yX7_shared : MethodName := ⟨RX7, "shared", "(II)I"⟩
def RX8 : String := "PromiseCourt$Reckoner"
def TX8 : u_T := fun k => match k with
  | 0 => ("PromiseCourt$Reckoner", "vars", "[I", true)
  | 1 => ("PromiseCourt$Reckoner", "sums", "[I", true)
  | 2 => ("PromiseCourt$Reckoner", "parts", "[I", true)
  | _ => ("PromiseCourt$Reckoner", "stop", "I", false)
def tyX8 : Nat → FieldType := fun k => match k with
  | 0 => .array .int
  | 1 => .array .int
  | 2 => .array .int
  | _ => .int
abbrev wsX80 : List Cond := u_ws RX8 TX8 4
theorem nmX8 : ∀ a, a < 4 → ∀ b, b < 4 → a ≠ b → (TX8 a).2.1 ≠ (TX8 b).2.1 := by decide +kernel
theorem tyX8_ok : ∀ k, k < 4 → parseFieldDescriptor (TX8 k).2.2.1 = some (tyX8 k) := by decide +kernel
abbrev cX8_init : ByteArray := prog_10_method_1_code
def yX8_init : MethodName := ⟨RX8, "<init>", "()V"⟩
abbrev cX8_clear : ByteArray := prog_10_method_2_code
def yX8_clear : MethodName := ⟨RX8, "clear", "()V"⟩
abbrev cX8_holds : ByteArray := prog_10_method_3_code
def yX8_holds : MethodName := ⟨RX8, "holds", "(LPromiseCourt$Law;I)Z"⟩
abbrev cX8_valueOf : ByteArray := prog_10_method_4_code
def yX8_valueOf : MethodName := ⟨RX8, "valueOf", "(LPromiseCourt$Law;I)I"⟩
abbrev cX8_compares : ByteArray := prog_10_method_5_code
def yX8_compares : MethodName := ⟨RX8, "compares", "(III)Z"⟩
def RX9 : String := "PromiseCourt$Tape"
def TX9 : u_T := fun k => match k with
  | 0 => ("PromiseCourt$Tape", "bytes", "[B", true)
  | 1 => ("PromiseCourt$Tape", "length", "I", false)
  | 2 => ("PromiseCourt$Tape", "start", "I", false)
  | _ => ("PromiseCourt$Tape", "next", "I", false)
def tyX9 : Nat → FieldType := fun k => match k with
  | 0 => .array .byte
  | 1 => .int
  | 2 => .int
  | _ => .int
abbrev wsX90 : List Cond := u_ws RX9 TX9 4
theorem nmX9 : ∀ a, a < 4 → ∀ b, b < 4 → a ≠ b → (TX9 a).2.1 ≠ (TX9 b).2.1 := by decide +kernel
theorem tyX9_ok : ∀ k, k < 4 → parseFieldDescriptor (TX9 k).2.2.1 = some (tyX9 k) := by decide +kernel
abbrev cX9_init : ByteArray := prog_11_method_1_code
def yX9_init : MethodName := ⟨RX9, "<init>", "()V"⟩
abbrev cX9_append : ByteArray := prog_11_method_2_code
def yX9_append : MethodName := ⟨RX9, "append", "(I)V"⟩
abbrev cX9_rewind : ByteArray := prog_11_method_3_code
def yX9_rewind : MethodName := ⟨RX9, "rewind", "()V"⟩
abbrev cX9_token : ByteArray := prog_11_method_4_code
def yX9_token : MethodName := ⟨RX9, "token", "()I"⟩
abbrev cX9_word : ByteArray := prog_11_method_5_code
def yX9_word : MethodName := ⟨RX9, "word", "()I"⟩
abbrev cX9_isWord : ByteArray := prog_11_method_6_code
def yX9_isWord : MethodName := ⟨RX9, "isWord", "(II)Z"⟩
abbrev cX9_number : ByteArray := prog_11_method_7_code
def yX9_number : MethodName := ⟨RX9, "number", "()I"⟩
abbrev cX9_sign : ByteArray := prog_11_method_8_code
def yX9_sign : MethodName := ⟨RX9, "sign", "(B)I"⟩
abbrev cX9_relation : ByteArray := prog_11_method_9_code
def yX9_relation : MethodName := ⟨RX9, "relation", "(B)I"⟩
abbrev cX9_isBlank : ByteArray := prog_11_method_10_code
def yX9_isBlank : MethodName := ⟨RX9, "isBlank", "(B)Z"⟩
abbrev cX9_isLetter : ByteArray := prog_11_method_11_code
def yX9_isLetter : MethodName := ⟨RX9, "isLetter", "(B)Z"⟩
abbrev cX9_isDigit : ByteArray := prog_11_method_12_code
def yX9_isDigit : MethodName := ⟨RX9, "isDigit", "(B)Z"⟩
def RX10 : String := "PromiseCourt"
def TX10 : u_T := fun k => match k with
  | 0 => ("PromiseCourt", "tape", "LPromiseCourt$Tape;", true)
  | 1 => ("PromiseCourt", "grammar", "LPromiseCourt$Grammar;", true)
  | 2 => ("PromiseCourt", "laws", "LPromiseCourt$LawBook;", true)
  | 3 => ("PromiseCourt", "family", "LPromiseCourt$Family;", true)
  | 4 => ("PromiseCourt", "promises", "LPromiseCourt$Promises;", true)
  | 5 => ("PromiseCourt", "gifts", "LPromiseCourt$Gifts;", true)
  | 6 => ("PromiseCourt", "facts", "LPromiseCourt$Facts;", true)
  | 7 => ("PromiseCourt", "judge", "LPromiseCourt$Judge;", true)
  | 8 => ("PromiseCourt", "earlierStates", "[I", true)
  | _ => ("PromiseCourt", "faultPlace", "I", false)
def tyX10 : Nat → FieldType := fun k => match k with
  | 0 => .object "PromiseCourt$Tape"
  | 1 => .object "PromiseCourt$Grammar"
  | 2 => .object "PromiseCourt$LawBook"
  | 3 => .object "PromiseCourt$Family"
  | 4 => .object "PromiseCourt$Promises"
  | 5 => .object "PromiseCourt$Gifts"
  | 6 => .object "PromiseCourt$Facts"
  | 7 => .object "PromiseCourt$Judge"
  | 8 => .array .int
  | _ => .int
abbrev wsX100 : List Cond := u_ws RX10 TX10 10
theorem nmX10 : ∀ a, a < 10 → ∀ b, b < 10 → a ≠ b → (TX10 a).2.1 ≠ (TX10 b).2.1 := by decide +kernel
theorem tyX10_ok : ∀ k, k < 10 → parseFieldDescriptor (TX10 k).2.2.1 = some (tyX10 k) := by decide +kernel
abbrev cX10_init : ByteArray := prog_1_method_1_code
def yX10_init : MethodName := ⟨RX10, "<init>", "()V"⟩
abbrev cX10_feed : ByteArray := prog_1_method_2_code
def yX10_feed : MethodName := ⟨RX10, "feed", "(IIIII)I"⟩
abbrev cX10_back : ByteArray := prog_1_method_3_code
def yX10_back : MethodName := ⟨RX10, "back", "(I)I"⟩
abbrev cX10_read : ByteArray := prog_1_method_4_code
def yX10_read : MethodName := ⟨RX10, "read", "(II)I"⟩
abbrev cX10_place : ByteArray := prog_1_method_5_code
def yX10_place : MethodName := ⟨RX10, "place", "()I"⟩
abbrev cX10_person : ByteArray := prog_1_method_6_code
def yX10_person : MethodName := ⟨RX10, "person", "(III)I"⟩
abbrev cX10_promise : ByteArray := prog_1_method_7_code
def yX10_promise : MethodName := ⟨RX10, "promise", "(IIIIII)I"⟩
abbrev cX10_gift : ByteArray := prog_1_method_8_code
def yX10_gift : MethodName := ⟨RX10, "gift", "(III)I"⟩
abbrev cX10_says : ByteArray := prog_1_method_9_code
def yX10_says : MethodName := ⟨RX10, "says", "(IIZ)I"⟩
abbrev cX10_fame : ByteArray := prog_1_method_10_code
def yX10_fame : MethodName := ⟨RX10, "fame", "(I)I"⟩
abbrev cX10_comes : ByteArray := prog_1_method_11_code
def yX10_comes : MethodName := ⟨RX10, "comes", "(IIZ)I"⟩
abbrev cX10_fate : ByteArray := prog_1_method_12_code
def yX10_fate : MethodName := ⟨RX10, "fate", "(III)I"⟩
abbrev cX10_leave : ByteArray := prog_1_method_13_code
def yX10_leave : MethodName := ⟨RX10, "leave", "(III)I"⟩
abbrev cX10_degree : ByteArray := prog_1_method_14_code
def yX10_degree : MethodName := ⟨RX10, "degree", "(II)I"⟩
abbrev cX10_gaps : ByteArray := prog_1_method_15_code
def yX10_gaps : MethodName := ⟨RX10, "gaps", "(I)I"⟩
abbrev cX10_law : ByteArray := prog_1_method_16_code
def yX10_law : MethodName := ⟨RX10, "law", "(I)I"⟩
abbrev cX10_proved : ByteArray := prog_1_method_17_code
def yX10_proved : MethodName := ⟨RX10, "proved", "(II)I"⟩
abbrev cX10_barred : ByteArray := prog_1_method_18_code
def yX10_barred : MethodName := ⟨RX10, "barred", "(II)I"⟩
abbrev cX10_state : ByteArray := prog_1_method_19_code
def yX10_state : MethodName := ⟨RX10, "state", "(III)I"⟩
abbrev cX10_force : ByteArray := prog_1_method_20_code
def yX10_force : MethodName := ⟨RX10, "force", "(III)I"⟩
abbrev cX10_bound : ByteArray := prog_1_method_21_code
def yX10_bound : MethodName := ⟨RX10, "bound", "(III)I"⟩
abbrev cX10_goes : ByteArray := prog_1_method_22_code
def yX10_goes : MethodName := ⟨RX10, "goes", "(III)I"⟩
abbrev cX10_owes : ByteArray := prog_1_method_23_code
def yX10_owes : MethodName := ⟨RX10, "owes", "(III)I"⟩
abbrev cX10_changed : ByteArray := prog_1_method_24_code
def yX10_changed : MethodName := ⟨RX10, "changed", "(III)I"⟩
abbrev cX10_count : ByteArray := prog_1_method_25_code
def yX10_count : MethodName := ⟨RX10, "count", "(I)I"⟩
abbrev cX10_goingBack : ByteArray := prog_1_method_26_code
def yX10_goingBack : MethodName := ⟨RX10, "goingBack", "(II)I"⟩
abbrev cX10_areTwoPersons : ByteArray := prog_1_method_27_code
def yX10_areTwoPersons : MethodName := ⟨RX10, "areTwoPersons", "(II)Z"⟩
abbrev cX10_isPromise : ByteArray := prog_1_method_28_code
def yX10_isPromise : MethodName := ⟨RX10, "isPromise", "(I)Z"⟩
abbrev cX10_isKnown : ByteArray := prog_1_method_29_code
def yX10_isKnown : MethodName := ⟨RX10, "isKnown", "(I)Z"⟩
abbrev cX10_isPlace : ByteArray := prog_1_method_30_code
def yX10_isPlace : MethodName := ⟨RX10, "isPlace", "(I)Z"⟩
abbrev cX10_isDay : ByteArray := prog_1_method_31_code
def yX10_isDay : MethodName := ⟨RX10, "isDay", "(I)Z"⟩
abbrev cX10_isCondition : ByteArray := prog_1_method_32_code
def yX10_isCondition : MethodName := ⟨RX10, "isCondition", "(I)Z"⟩
abbrev cX10_isInt : ByteArray := prog_1_method_33_code
def yX10_isInt : MethodName := ⟨RX10, "isInt", "(I)Z"⟩
abbrev cX10_isVar : ByteArray := prog_1_method_34_code
def yX10_isVar : MethodName := ⟨RX10, "isVar", "(I)Z"⟩
def RX11 : String := "PromiseCourtModel"
def TX11 : u_T := fun k => match k with
  | 0 => ("PromiseCourtModel", "thrown", "I", false)
  | 1 => ("PromiseCourtModel", "tape", "[B", true)
  | 2 => ("PromiseCourtModel", "taped", "I", false)
  | 3 => ("PromiseCourtModel", "text", "[B", true)
  | 4 => ("PromiseCourtModel", "size", "I", false)
  | 5 => ("PromiseCourtModel", "tKind", "[I", true)
  | 6 => ("PromiseCourtModel", "tPlace", "[I", true)
  | 7 => ("PromiseCourtModel", "tValue", "[I", true)
  | 8 => ("PromiseCourtModel", "tName", "[J", true)
  | 9 => ("PromiseCourtModel", "keys", "[J", true)
  | 10 => ("PromiseCourtModel", "tokens", "I", false)
  | 11 => ("PromiseCourtModel", "t", "I", false)
  | 12 => ("PromiseCourtModel", "open", "I", false)
  | 13 => ("PromiseCourtModel", "fault", "I", false)
  | 14 => ("PromiseCourtModel", "faultPlace", "I", false)
  | 15 => ("PromiseCourtModel", "worst", "I", false)
  | 16 => ("PromiseCourtModel", "worstPlace", "I", false)
  | 17 => ("PromiseCourtModel", "place", "I", false)
  | 18 => ("PromiseCourtModel", "laws", "I", false)
  | 19 => ("PromiseCourtModel", "side", "I", false)
  | 20 => ("PromiseCourtModel", "lawPlace", "[I", true)
  | 21 => ("PromiseCourtModel", "lawDay", "[I", true)
  | 22 => ("PromiseCourtModel", "rules", "[I", true)
  | 23 => ("PromiseCourtModel", "ruleSort", "[I", true)
  | 24 => ("PromiseCourtModel", "ruleInt", "[I", true)
  | 25 => ("PromiseCourtModel", "ruleFrom", "[I", true)
  | 26 => ("PromiseCourtModel", "ruleTo", "[I", true)
  | 27 => ("PromiseCourtModel", "relFirst", "[I", true)
  | 28 => ("PromiseCourtModel", "relLast", "[I", true)
  | 29 => ("PromiseCourtModel", "relations", "[I", true)
  | 30 => ("PromiseCourtModel", "relSort", "[I", true)
  | 31 => ("PromiseCourtModel", "relLeft", "[I", true)
  | 32 => ("PromiseCourtModel", "relRight", "[I", true)
  | 33 => ("PromiseCourtModel", "relEnd", "[I", true)
  | 34 => ("PromiseCourtModel", "relOr", "[Z", true)
  | 35 => ("PromiseCourtModel", "codes", "I", false)
  | 36 => ("PromiseCourtModel", "code", "[I", true)
  | 37 => ("PromiseCourtModel", "codeInt", "[I", true)
  | 38 => ("PromiseCourtModel", "waits", "[I", true)
  | 39 => ("PromiseCourtModel", "waiting", "I", false)
  | 40 => ("PromiseCourtModel", "persons", "I", false)
  | 41 => ("PromiseCourtModel", "father", "[I", true)
  | 42 => ("PromiseCourtModel", "mother", "[I", true)
  | 43 => ("PromiseCourtModel", "birth", "[I", true)
  | 44 => ("PromiseCourtModel", "up", "[I", true)
  | 45 => ("PromiseCourtModel", "at", "[I", true)
  | 46 => ("PromiseCourtModel", "promises", "I", false)
  | 47 => ("PromiseCourtModel", "one", "[I", true)
  | 48 => ("PromiseCourtModel", "two", "[I", true)
  | 49 => ("PromiseCourtModel", "where", "[I", true)
  | 50 => ("PromiseCourtModel", "day", "[I", true)
  | 51 => ("PromiseCourtModel", "tense", "[I", true)
  | 52 => ("PromiseCourtModel", "condition", "[I", true)
  | 53 => ("PromiseCourtModel", "gifts", "I", false)
  | 54 => ("PromiseCourtModel", "giftOf", "[I", true)
  | 55 => ("PromiseCourtModel", "giver", "[I", true)
  | 56 => ("PromiseCourtModel", "giftValue", "[I", true)
  | 57 => ("PromiseCourtModel", "facts", "I", false)
  | 58 => ("PromiseCourtModel", "factSort", "[I", true)
  | 59 => ("PromiseCourtModel", "factOf", "[I", true)
  | 60 => ("PromiseCourtModel", "factTo", "[I", true)
  | 61 => ("PromiseCourtModel", "factDay", "[I", true)
  | 62 => ("PromiseCourtModel", "variables", "[I", true)
  | 63 => ("PromiseCourtModel", "pile", "[I", true)
  | 64 => ("PromiseCourtModel", "gone", "I", false)
  | 65 => ("PromiseCourtModel", "proofRule", "[I", true)
  | 66 => ("PromiseCourtModel", "effect", "[I", true)
  | 67 => ("PromiseCourtModel", "how", "[I", true)
  | 68 => ("PromiseCourtModel", "isJudged", "[Z", true)
  | 69 => ("PromiseCourtModel", "barRule", "[I", true)
  | 70 => ("PromiseCourtModel", "voidBy", "[I", true)
  | 71 => ("PromiseCourtModel", "ends", "[I", true)
  | 72 => ("PromiseCourtModel", "endsBy", "[I", true)
  | 73 => ("PromiseCourtModel", "later", "[I", true)
  | 74 => ("PromiseCourtModel", "brokenBy", "[I", true)
  | 75 => ("PromiseCourtModel", "isForce", "[Z", true)
  | _ => ("PromiseCourtModel", "before", "[I", true)
def tyX11 : Nat → FieldType := fun k => match k with
  | 0 => .int
  | 1 => .array .byte
  | 2 => .int
  | 3 => .array .byte
  | 4 => .int
  | 5 => .array .int
  | 6 => .array .int
  | 7 => .array .int
  | 8 => .array .long
  | 9 => .array .long
  | 10 => .int
  | 11 => .int
  | 12 => .int
  | 13 => .int
  | 14 => .int
  | 15 => .int
  | 16 => .int
  | 17 => .int
  | 18 => .int
  | 19 => .int
  | 20 => .array .int
  | 21 => .array .int
  | 22 => .array .int
  | 23 => .array .int
  | 24 => .array .int
  | 25 => .array .int
  | 26 => .array .int
  | 27 => .array .int
  | 28 => .array .int
  | 29 => .array .int
  | 30 => .array .int
  | 31 => .array .int
  | 32 => .array .int
  | 33 => .array .int
  | 34 => .array .boolean
  | 35 => .int
  | 36 => .array .int
  | 37 => .array .int
  | 38 => .array .int
  | 39 => .int
  | 40 => .int
  | 41 => .array .int
  | 42 => .array .int
  | 43 => .array .int
  | 44 => .array .int
  | 45 => .array .int
  | 46 => .int
  | 47 => .array .int
  | 48 => .array .int
  | 49 => .array .int
  | 50 => .array .int
  | 51 => .array .int
  | 52 => .array .int
  | 53 => .int
  | 54 => .array .int
  | 55 => .array .int
  | 56 => .array .int
  | 57 => .int
  | 58 => .array .int
  | 59 => .array .int
  | 60 => .array .int
  | 61 => .array .int
  | 62 => .array .int
  | 63 => .array .int
  | 64 => .int
  | 65 => .array .int
  | 66 => .array .int
  | 67 => .array .int
  | 68 => .array .boolean
  | 69 => .array .int
  | 70 => .array .int
  | 71 => .array .int
  | 72 => .array .int
  | 73 => .array .int
  | 74 => .array .int
  | 75 => .array .boolean
  | _ => .array .int
abbrev wsX110 : List Cond := u_ws RX11 TX11 77
theorem nmX11 : ∀ a, a < 77 → ∀ b, b < 77 → a ≠ b → (TX11 a).2.1 ≠ (TX11 b).2.1 := by decide +kernel
theorem tyX11_ok : ∀ k, k < 77 → parseFieldDescriptor (TX11 k).2.2.1 = some (tyX11 k) := by decide +kernel
abbrev cX11_init : ByteArray := prog_13_method_2_code
def yX11_init : MethodName := ⟨RX11, "<init>", "()V"⟩
abbrev cX11_feed : ByteArray := prog_13_method_3_code
def yX11_feed : MethodName := ⟨RX11, "feed", "(IIIII)I"⟩
abbrev cX11_put : ByteArray := prog_13_method_4_code
def yX11_put : MethodName := ⟨RX11, "put", "(I)V"⟩
abbrev cX11_back : ByteArray := prog_13_method_5_code
def yX11_back : MethodName := ⟨RX11, "back", "(I)I"⟩
abbrev cX11_at : ByteArray := prog_13_method_6_code
def yX11_at : MethodName := ⟨RX11, "at", "(I)I"⟩
abbrev cX11_isDigit : ByteArray := prog_13_method_7_code
def yX11_isDigit : MethodName := ⟨RX11, "isDigit", "(I)Z"⟩
abbrev cX11_isLetter : ByteArray := prog_13_method_8_code
def yX11_isLetter : MethodName := ⟨RX11, "isLetter", "(I)Z"⟩
abbrev cX11_more : ByteArray := prog_13_method_9_code
def yX11_more : MethodName := ⟨RX11, "more", "(JI)J"⟩
abbrev cX11_word : ByteArray := prog_13_method_10_code
def yX11_word : MethodName := ⟨RX11, "word", "(IIIIIII)J"⟩
abbrev cX11_token : ByteArray := prog_13_method_11_code
def yX11_token : MethodName := ⟨RX11, "token", "(IIIJ)V"⟩
abbrev cX11_cut : ByteArray := prog_13_method_12_code
def yX11_cut : MethodName := ⟨RX11, "cut", "()V"⟩
abbrev cX11_sign : ByteArray := prog_13_method_13_code
def yX11_sign : MethodName := ⟨RX11, "sign", "(III)I"⟩
abbrev cX11_is : ByteArray := prog_13_method_14_code
def yX11_is : MethodName := ⟨RX11, "is", "(I)Z"⟩
abbrev cX11_fail : ByteArray := prog_13_method_15_code
def yX11_fail : MethodName := ⟨RX11, "fail", "(I)V"⟩
abbrev cX11_next : ByteArray := prog_13_method_17_code
def yX11_next : MethodName := ⟨RX11, "next", "()V"⟩
abbrev cX11_must : ByteArray := prog_13_method_18_code
def yX11_must : MethodName := ⟨RX11, "must", "(I)V"⟩
abbrev cX11_read : ByteArray := prog_13_method_19_code
def yX11_read : MethodName := ⟨RX11, "read", "(II)I"⟩
abbrev cX11_place : ByteArray := prog_13_method_20_code
def yX11_place : MethodName := ⟨RX11, "place", "()I"⟩
abbrev cX11_tellRule : ByteArray := prog_13_method_21_code
def yX11_tellRule : MethodName := ⟨RX11, "tellRule", "()V"⟩
abbrev cX11_relation : ByteArray := prog_13_method_22_code
def yX11_relation : MethodName := ⟨RX11, "relation", "(Z)V"⟩
abbrev cX11_emit : ByteArray := prog_13_method_23_code
def yX11_emit : MethodName := ⟨RX11, "emit", "(II)V"⟩
abbrev cX11_comesOut : ByteArray := prog_13_method_24_code
def yX11_comesOut : MethodName := ⟨RX11, "comesOut", "(Z)V"⟩
abbrev cX11_expression : ByteArray := prog_13_method_25_code
def yX11_expression : MethodName := ⟨RX11, "expression", "()V"⟩
abbrev cX11_isPerson : ByteArray := prog_13_method_26_code
def yX11_isPerson : MethodName := ⟨RX11, "isPerson", "(I)Z"⟩
abbrev cX11_isDay : ByteArray := prog_13_method_27_code
def yX11_isDay : MethodName := ⟨RX11, "isDay", "(I)Z"⟩
abbrev cX11_person : ByteArray := prog_13_method_28_code
def yX11_person : MethodName := ⟨RX11, "person", "(III)I"⟩
abbrev cX11_degreeOf : ByteArray := prog_13_method_29_code
def yX11_degreeOf : MethodName := ⟨RX11, "degreeOf", "(II)I"⟩
abbrev cX11_degree : ByteArray := prog_13_method_30_code
def yX11_degree : MethodName := ⟨RX11, "degree", "(II)I"⟩
abbrev cX11_gaps : ByteArray := prog_13_method_31_code
def yX11_gaps : MethodName := ⟨RX11, "gaps", "(I)I"⟩
abbrev cX11_isPromise : ByteArray := prog_13_method_32_code
def yX11_isPromise : MethodName := ⟨RX11, "isPromise", "(I)Z"⟩
abbrev cX11_isKnown : ByteArray := prog_13_method_33_code
def yX11_isKnown : MethodName := ⟨RX11, "isKnown", "(I)Z"⟩
abbrev cX11_promise : ByteArray := prog_13_method_34_code
def yX11_promise : MethodName := ⟨RX11, "promise", "(IIIIII)I"⟩
abbrev cX11_gift : ByteArray := prog_13_method_35_code
def yX11_gift : MethodName := ⟨RX11, "gift", "(III)I"⟩
abbrev cX11_fact : ByteArray := prog_13_method_36_code
def yX11_fact : MethodName := ⟨RX11, "fact", "(IIII)I"⟩
abbrev cX11_says : ByteArray := prog_13_method_37_code
def yX11_says : MethodName := ⟨RX11, "says", "(IIZ)I"⟩
abbrev cX11_fame : ByteArray := prog_13_method_38_code
def yX11_fame : MethodName := ⟨RX11, "fame", "(I)I"⟩
abbrev cX11_comes : ByteArray := prog_13_method_39_code
def yX11_comes : MethodName := ⟨RX11, "comes", "(IIZ)I"⟩
abbrev cX11_fate : ByteArray := prog_13_method_40_code
def yX11_fate : MethodName := ⟨RX11, "fate", "(III)I"⟩
abbrev cX11_leave : ByteArray := prog_13_method_41_code
def yX11_leave : MethodName := ⟨RX11, "leave", "(III)I"⟩
abbrev cX11_lawOf : ByteArray := prog_13_method_42_code
def yX11_lawOf : MethodName := ⟨RX11, "lawOf", "(I)I"⟩
abbrev cX11_law : ByteArray := prog_13_method_43_code
def yX11_law : MethodName := ⟨RX11, "law", "(I)I"⟩
abbrev cX11_value : ByteArray := prog_13_method_44_code
def yX11_value : MethodName := ⟨RX11, "value", "(II)I"⟩
abbrev cX11_holds : ByteArray := prog_13_method_45_code
def yX11_holds : MethodName := ⟨RX11, "holds", "(II)Z"⟩
abbrev cX11_nothing : ByteArray := prog_13_method_46_code
def yX11_nothing : MethodName := ⟨RX11, "nothing", "(I)V"⟩
abbrev cX11_ruleOf : ByteArray := prog_13_method_47_code
def yX11_ruleOf : MethodName := ⟨RX11, "ruleOf", "(II)I"⟩
abbrev cX11_isKin : ByteArray := prog_13_method_48_code
def yX11_isKin : MethodName := ⟨RX11, "isKin", "(II)Z"⟩
abbrev cX11_proofOf : ByteArray := prog_13_method_49_code
def yX11_proofOf : MethodName := ⟨RX11, "proofOf", "(II)I"⟩
abbrev cX11_effects : ByteArray := prog_13_method_50_code
def yX11_effects : MethodName := ⟨RX11, "effects", "(II)V"⟩
abbrev cX11_fateOf : ByteArray := prog_13_method_51_code
def yX11_fateOf : MethodName := ⟨RX11, "fateOf", "(III)I"⟩
abbrev cX11_lapseOf : ByteArray := prog_13_method_52_code
def yX11_lapseOf : MethodName := ⟨RX11, "lapseOf", "(II)I"⟩
abbrev cX11_vows : ByteArray := prog_13_method_53_code
def yX11_vows : MethodName := ⟨RX11, "vows", "(III)I"⟩
abbrev cX11_barOf : ByteArray := prog_13_method_54_code
def yX11_barOf : MethodName := ⟨RX11, "barOf", "(II)I"⟩
abbrev cX11_isIn : ByteArray := prog_13_method_55_code
def yX11_isIn : MethodName := ⟨RX11, "isIn", "(II)Z"⟩
abbrev cX11_isRival : ByteArray := prog_13_method_56_code
def yX11_isRival : MethodName := ⟨RX11, "isRival", "(II)Z"⟩
abbrev cX11_judges : ByteArray := prog_13_method_57_code
def yX11_judges : MethodName := ⟨RX11, "judges", "(II)V"⟩
abbrev cX11_judgesAll : ByteArray := prog_13_method_58_code
def yX11_judgesAll : MethodName := ⟨RX11, "judgesAll", "(I)V"⟩
abbrev cX11_proved : ByteArray := prog_13_method_59_code
def yX11_proved : MethodName := ⟨RX11, "proved", "(II)I"⟩
abbrev cX11_barred : ByteArray := prog_13_method_60_code
def yX11_barred : MethodName := ⟨RX11, "barred", "(II)I"⟩
abbrev cX11_stateOf : ByteArray := prog_13_method_61_code
def yX11_stateOf : MethodName := ⟨RX11, "stateOf", "(II)I"⟩
abbrev cX11_state : ByteArray := prog_13_method_62_code
def yX11_state : MethodName := ⟨RX11, "state", "(III)I"⟩
abbrev cX11_force : ByteArray := prog_13_method_63_code
def yX11_force : MethodName := ⟨RX11, "force", "(III)I"⟩
abbrev cX11_bound : ByteArray := prog_13_method_64_code
def yX11_bound : MethodName := ⟨RX11, "bound", "(III)I"⟩
abbrev cX11_backOf : ByteArray := prog_13_method_65_code
def yX11_backOf : MethodName := ⟨RX11, "backOf", "(II)I"⟩
abbrev cX11_goes : ByteArray := prog_13_method_66_code
def yX11_goes : MethodName := ⟨RX11, "goes", "(III)I"⟩
abbrev cX11_owes : ByteArray := prog_13_method_67_code
def yX11_owes : MethodName := ⟨RX11, "owes", "(III)I"⟩
abbrev cX11_changed : ByteArray := prog_13_method_68_code
def yX11_changed : MethodName := ⟨RX11, "changed", "(III)I"⟩
abbrev cX11_count : ByteArray := prog_13_method_69_code
def yX11_count : MethodName := ⟨RX11, "count", "(I)I"⟩
def RJx8e188 : String := "java/lang/Cloneable"
def TJx8e188 : u_T := fun k => match k with
  | _ => ("", "", "", false)
def tyJx8e188 : Nat → FieldType := fun k => match k with
  | _ => .int
abbrev wsJx8e1880 : List Cond := u_ws RJx8e188 TJx8e188 0
theorem nmJx8e188 : ∀ a, a < 0 → ∀ b, b < 0 → a ≠ b → (TJx8e188 a).2.1 ≠ (TJx8e188 b).2.1 := by decide +kernel
theorem tyJx8e188_ok : ∀ k, k < 0 → parseFieldDescriptor (TJx8e188 k).2.2.1 = some (tyJx8e188 k) := by decide +kernel
def RJ9 : String := "java/lang/Math"
def TJ9 : u_T := fun k => match k with
  | _ => ("", "", "", false)
def tyJ9 : Nat → FieldType := fun k => match k with
  | _ => .int
abbrev wsJ90 : List Cond := u_ws RJ9 TJ9 0
theorem nmJ9 : ∀ a, a < 0 → ∀ b, b < 0 → a ≠ b → (TJ9 a).2.1 ≠ (TJ9 b).2.1 := by decide +kernel
theorem tyJ9_ok : ∀ k, k < 0 → parseFieldDescriptor (TJ9 k).2.2.1 = some (tyJ9 k) := by decide +kernel
abbrev cJ9_max_7cf53 : ByteArray := prog_15_method_65_code
def yJ9_max_7cf53 : MethodName := ⟨RJ9, "max", "(II)I"⟩
abbrev cJ9_min_7cf53 : ByteArray := prog_15_method_69_code
def yJ9_min_7cf53 : MethodName := ⟨RJ9, "min", "(II)I"⟩
def RJ0 : String := "java/lang/String"
def TJ0 : u_T := fun k => match k with
  | _ => ("", "", "", false)
def tyJ0 : Nat → FieldType := fun k => match k with
  | _ => .int
abbrev wsJ00 : List Cond := u_ws RJ0 TJ0 0
theorem nmJ0 : ∀ a, a < 0 → ∀ b, b < 0 → a ≠ b → (TJ0 a).2.1 ≠ (TJ0 b).2.1 := by decide +kernel
theorem tyJ0_ok : ∀ k, k < 0 → parseFieldDescriptor (TJ0 k).2.2.1 = some (tyJ0 k) := by decide +kernel
abbrev cJ0_charAt_5068e : ByteArray := prog_16_method_56_code
def yJ0_charAt_5068e : MethodName := ⟨RJ0, "charAt", "(I)C"⟩
abbrev cJ0_isLatin1_aae02 : ByteArray := prog_16_method_154_code
def yJ0_isLatin1_aae02 : MethodName := ⟨RJ0, "isLatin1", "()Z"⟩
abbrev cJ0_checkIndex_df160 : ByteArray := prog_16_method_155_code
def yJ0_checkIndex_df160 : MethodName := ⟨RJ0, "checkIndex", "(II)V"⟩
def RJ1 : String := "java/lang/StringLatin1"
def TJ1 : u_T := fun k => match k with
  | _ => ("", "", "", false)
def tyJ1 : Nat → FieldType := fun k => match k with
  | _ => .int
abbrev wsJ10 : List Cond := u_ws RJ1 TJ1 0
theorem nmJ1 : ∀ a, a < 0 → ∀ b, b < 0 → a ≠ b → (TJ1 a).2.1 ≠ (TJ1 b).2.1 := by decide +kernel
theorem tyJ1_ok : ∀ k, k < 0 → parseFieldDescriptor (TJ1 k).2.2.1 = some (tyJ1 k) := by decide +kernel
abbrev cJ1_charAt_3b067 : ByteArray := prog_17_method_2_code
def yJ1_charAt_3b067 : MethodName := ⟨RJ1, "charAt", "([BI)C"⟩
def RJ2 : String := "java/lang/StringUTF16"
def TJ2 : u_T := fun k => match k with
  | _ => ("", "", "", false)
def tyJ2 : Nat → FieldType := fun k => match k with
  | _ => .int
abbrev wsJ20 : List Cond := u_ws RJ2 TJ2 0
theorem nmJ2 : ∀ a, a < 0 → ∀ b, b < 0 → a ≠ b → (TJ2 a).2.1 ≠ (TJ2 b).2.1 := by decide +kernel
theorem tyJ2_ok : ∀ k, k < 0 → parseFieldDescriptor (TJ2 k).2.2.1 = some (tyJ2 k) := by decide +kernel
abbrev cJ2_getChar_3b067 : ByteArray := prog_18_method_5_code
def yJ2_getChar_3b067 : MethodName := ⟨RJ2, "getChar", "([BI)C"⟩
abbrev cJ2_length_9d52b : ByteArray := prog_18_method_6_code
def yJ2_length_9d52b : MethodName := ⟨RJ2, "length", "([B)I"⟩
abbrev cJ2_charAt_3b067 : ByteArray := prog_18_method_83_code
def yJ2_charAt_3b067 : MethodName := ⟨RJ2, "charAt", "([BI)C"⟩
abbrev cJ2_checkIndex_2214a : ByteArray := prog_18_method_91_code
def yJ2_checkIndex_2214a : MethodName := ⟨RJ2, "checkIndex", "(I[B)V"⟩
def RJ10 : String := "java/lang/System"
def TJ10 : u_T := fun k => match k with
  | _ => ("", "", "", false)
def tyJ10 : Nat → FieldType := fun k => match k with
  | _ => .int
abbrev wsJ100 : List Cond := u_ws RJ10 TJ10 0
theorem nmJ10 : ∀ a, a < 0 → ∀ b, b < 0 → a ≠ b → (TJ10 a).2.1 ≠ (TJ10 b).2.1 := by decide +kernel
theorem tyJ10_ok : ∀ k, k < 0 → parseFieldDescriptor (TJ10 k).2.2.1 = some (tyJ10 k) := by decide +kernel
def RJ7 : String := "java/util/Arrays"
def TJ7 : u_T := fun k => match k with
  | _ => ("", "", "", false)
def tyJ7 : Nat → FieldType := fun k => match k with
  | _ => .int
abbrev wsJ70 : List Cond := u_ws RJ7 TJ7 0
theorem nmJ7 : ∀ a, a < 0 → ∀ b, b < 0 → a ≠ b → (TJ7 a).2.1 ≠ (TJ7 b).2.1 := by decide +kernel
theorem tyJ7_ok : ∀ k, k < 0 → parseFieldDescriptor (TJ7 k).2.2.1 = some (tyJ7 k) := by decide +kernel
abbrev cJ7_fill_53178 : ByteArray := prog_20_method_103_code
def yJ7_fill_53178 : MethodName := ⟨RJ7, "fill", "([II)V"⟩
abbrev cJ7_copyOf_59c91 : ByteArray := prog_20_method_123_code
def yJ7_copyOf_59c91 : MethodName := ⟨RJ7, "copyOf", "([II)[I"⟩
def RJ3 : String := "jdk/internal/util/Preconditions"
def TJ3 : u_T := fun k => match k with
  | _ => ("", "", "", false)
def tyJ3 : Nat → FieldType := fun k => match k with
  | _ => .int
abbrev wsJ30 : List Cond := u_ws RJ3 TJ3 0
theorem nmJ3 : ∀ a, a < 0 → ∀ b, b < 0 → a ≠ b → (TJ3 a).2.1 ≠ (TJ3 b).2.1 := by decide +kernel
theorem tyJ3_ok : ∀ k, k < 0 → parseFieldDescriptor (TJ3 k).2.2.1 = some (tyJ3 k) := by decide +kernel
abbrev cJ3_checkIndex_8e157 : ByteArray := prog_21_method_11_code
def yJ3_checkIndex_8e157 : MethodName := ⟨RJ3, "checkIndex", "(IILjava/util/function/BiFunction;)I"⟩
def RL : String := "PromiseCourtLaw"
abbrev cL_law : ByteArray := code
def yL_law : MethodName := ⟨RL, "law", "([I)Z"⟩
abbrev vwCl : List vw_C := [(RX0, TX0, 6), (RX1, TX1, 6), (RX2, TX2, 4), (RX3, TX3, 7), (RX4, TX4, 15), (RX5, TX5, 4), (RX6, TX6, 3), (RX7, TX7, 7), (RX8, TX8, 4), (RX9, TX9, 4), (RX10, TX10, 10), (RX11, TX11, 77)]
end
section
theorem dX0_init_0 : decode cX0_init 0 = .ok (.aload_n 0, 1) := by decide +kernel
theorem dX0_init_1 : decode cX0_init 1 = .ok (.invokespecial 3, 3) := by decide +kernel
theorem dX0_init_4 : decode cX0_init 4 = .ok (.aload_n 0, 1) := by decide +kernel
theorem dX0_init_5 : decode cX0_init 5 = .ok (.sipush 200, 3) := by decide +kernel
theorem dX0_init_8 : decode cX0_init 8 = .ok (.newarray .int, 2) := by decide +kernel
theorem dX0_init_10 : decode cX0_init 10 = .ok (.putfield 9, 3) := by decide +kernel
theorem dX0_init_13 : decode cX0_init 13 = .ok (.aload_n 0, 1) := by decide +kernel
theorem dX0_init_14 : decode cX0_init 14 = .ok (.sipush 200, 3) := by decide +kernel
theorem dX0_init_17 : decode cX0_init 17 = .ok (.newarray .int, 2) := by decide +kernel
theorem dX0_init_19 : decode cX0_init 19 = .ok (.putfield 15, 3) := by decide +kernel
theorem dX0_init_22 : decode cX0_init 22 = .ok (.aload_n 0, 1) := by decide +kernel
theorem dX0_init_23 : decode cX0_init 23 = .ok (.sipush 200, 3) := by decide +kernel
theorem dX0_init_26 : decode cX0_init 26 = .ok (.newarray .int, 2) := by decide +kernel
theorem dX0_init_28 : decode cX0_init 28 = .ok (.putfield 18, 3) := by decide +kernel
theorem dX0_init_31 : decode cX0_init 31 = .ok (.aload_n 0, 1) := by decide +kernel
theorem dX0_init_32 : decode cX0_init 32 = .ok (.sipush 200, 3) := by decide +kernel
theorem dX0_init_35 : decode cX0_init 35 = .ok (.newarray .int, 2) := by decide +kernel
theorem dX0_init_37 : decode cX0_init 37 = .ok (.putfield 21, 3) := by decide +kernel
theorem dX0_init_40 : decode cX0_init 40 = .ok (.aload_n 0, 1) := by decide +kernel
theorem dX0_init_41 : decode cX0_init 41 = .ok (.iconst 0, 1) := by decide +kernel
theorem dX0_init_42 : decode cX0_init 42 = .ok (.putfield 24, 3) := by decide +kernel
theorem dX0_init_45 : decode cX0_init 45 = .ok (.aload_n 0, 1) := by decide +kernel
theorem dX0_init_46 : decode cX0_init 46 = .ok (.iconst 0, 1) := by decide +kernel
theorem dX0_init_47 : decode cX0_init 47 = .ok (.putfield 28, 3) := by decide +kernel
theorem dX0_init_50 : decode cX0_init 50 = .ok (.return_, 1) := by decide +kernel
theorem dX0_add_0 : decode cX0_add 0 = .ok (.aload_n 0, 1) := by decide +kernel
theorem dX0_add_1 : decode cX0_add 1 = .ok (.getfield 24, 3) := by decide +kernel
theorem dX0_add_4 : decode cX0_add 4 = .ok (.sipush 200, 3) := by decide +kernel
theorem dX0_add_7 : decode cX0_add 7 = .ok (.if_icmp .lt 5, 3) := by decide +kernel
theorem dX0_add_10 : decode cX0_add 10 = .ok (.iconst (-1), 1) := by decide +kernel
theorem dX0_add_11 : decode cX0_add 11 = .ok (.ireturn, 1) := by decide +kernel
theorem dX0_add_12 : decode cX0_add 12 = .ok (.aload_n 0, 1) := by decide +kernel
theorem dX0_add_13 : decode cX0_add 13 = .ok (.getfield 9, 3) := by decide +kernel
theorem dX0_add_16 : decode cX0_add 16 = .ok (.aload_n 0, 1) := by decide +kernel
theorem dX0_add_17 : decode cX0_add 17 = .ok (.getfield 24, 3) := by decide +kernel
theorem dX0_add_20 : decode cX0_add 20 = .ok (.iload_n 1, 1) := by decide +kernel
theorem dX0_add_21 : decode cX0_add 21 = .ok (.iastore, 1) := by decide +kernel
theorem dX0_add_22 : decode cX0_add 22 = .ok (.aload_n 0, 1) := by decide +kernel
theorem dX0_add_23 : decode cX0_add 23 = .ok (.getfield 15, 3) := by decide +kernel
theorem dX0_add_26 : decode cX0_add 26 = .ok (.aload_n 0, 1) := by decide +kernel
theorem dX0_add_27 : decode cX0_add 27 = .ok (.getfield 24, 3) := by decide +kernel
theorem dX0_add_30 : decode cX0_add 30 = .ok (.iload_n 2, 1) := by decide +kernel
theorem dX0_add_31 : decode cX0_add 31 = .ok (.iastore, 1) := by decide +kernel
theorem dX0_add_32 : decode cX0_add 32 = .ok (.aload_n 0, 1) := by decide +kernel
theorem dX0_add_33 : decode cX0_add 33 = .ok (.getfield 18, 3) := by decide +kernel
theorem dX0_add_36 : decode cX0_add 36 = .ok (.aload_n 0, 1) := by decide +kernel
theorem dX0_add_37 : decode cX0_add 37 = .ok (.getfield 24, 3) := by decide +kernel
theorem dX0_add_40 : decode cX0_add 40 = .ok (.iload_n 3, 1) := by decide +kernel
theorem dX0_add_41 : decode cX0_add 41 = .ok (.iastore, 1) := by decide +kernel
theorem dX0_add_42 : decode cX0_add 42 = .ok (.aload_n 0, 1) := by decide +kernel
theorem dX0_add_43 : decode cX0_add 43 = .ok (.getfield 21, 3) := by decide +kernel
theorem dX0_add_46 : decode cX0_add 46 = .ok (.aload_n 0, 1) := by decide +kernel
theorem dX0_add_47 : decode cX0_add 47 = .ok (.getfield 24, 3) := by decide +kernel
theorem dX0_add_50 : decode cX0_add 50 = .ok (.iload 4, 2) := by decide +kernel
theorem dX0_add_52 : decode cX0_add 52 = .ok (.iastore, 1) := by decide +kernel
theorem dX0_add_53 : decode cX0_add 53 = .ok (.aload_n 0, 1) := by decide +kernel
theorem dX0_add_54 : decode cX0_add 54 = .ok (.dup, 1) := by decide +kernel
theorem dX0_add_55 : decode cX0_add 55 = .ok (.getfield 24, 3) := by decide +kernel
theorem dX0_add_58 : decode cX0_add 58 = .ok (.iconst 1, 1) := by decide +kernel
theorem dX0_add_59 : decode cX0_add 59 = .ok (.iadd, 1) := by decide +kernel
theorem dX0_add_60 : decode cX0_add 60 = .ok (.putfield 24, 3) := by decide +kernel
theorem dX0_add_63 : decode cX0_add 63 = .ok (.aload_n 0, 1) := by decide +kernel
theorem dX0_add_64 : decode cX0_add 64 = .ok (.getfield 24, 3) := by decide +kernel
theorem dX0_add_67 : decode cX0_add 67 = .ok (.iconst 1, 1) := by decide +kernel
theorem dX0_add_68 : decode cX0_add 68 = .ok (.isub, 1) := by decide +kernel
theorem dX0_add_69 : decode cX0_add 69 = .ok (.ireturn, 1) := by decide +kernel
theorem dX0_recall_0 : decode cX0_recall 0 = .ok (.aload_n 0, 1) := by decide +kernel
theorem dX0_recall_1 : decode cX0_recall 1 = .ok (.iconst 0, 1) := by decide +kernel
theorem dX0_recall_2 : decode cX0_recall 2 = .ok (.iload_n 1, 1) := by decide +kernel
theorem dX0_recall_3 : decode cX0_recall 3 = .ok (.aload_n 0, 1) := by decide +kernel
theorem dX0_recall_4 : decode cX0_recall 4 = .ok (.getfield 24, 3) := by decide +kernel
theorem dX0_recall_7 : decode cX0_recall 7 = .ok (.invokestatic 31, 3) := by decide +kernel
theorem dX0_recall_10 : decode cX0_recall 10 = .ok (.invokestatic 37, 3) := by decide +kernel
theorem dX0_recall_13 : decode cX0_recall 13 = .ok (.putfield 28, 3) := by decide +kernel
theorem dX0_recall_16 : decode cX0_recall 16 = .ok (.return_, 1) := by decide +kernel
theorem dX0_firstDay_0 : decode cX0_firstDay 0 = .ok (.sipush 10000, 3) := by decide +kernel
theorem dX0_firstDay_3 : decode cX0_firstDay 3 = .ok (.istore_n 3, 1) := by decide +kernel
theorem dX0_firstDay_4 : decode cX0_firstDay 4 = .ok (.iconst 0, 1) := by decide +kernel
theorem dX0_firstDay_5 : decode cX0_firstDay 5 = .ok (.istore 4, 2) := by decide +kernel
theorem dX0_firstDay_7 : decode cX0_firstDay 7 = .ok (.iload 4, 2) := by decide +kernel
theorem dX0_firstDay_9 : decode cX0_firstDay 9 = .ok (.aload_n 0, 1) := by decide +kernel
theorem dX0_firstDay_10 : decode cX0_firstDay 10 = .ok (.getfield 28, 3) := by decide +kernel
theorem dX0_firstDay_13 : decode cX0_firstDay 13 = .ok (.if_icmp .ge 43, 3) := by decide +kernel
theorem dX0_firstDay_16 : decode cX0_firstDay 16 = .ok (.aload_n 0, 1) := by decide +kernel
theorem dX0_firstDay_17 : decode cX0_firstDay 17 = .ok (.getfield 9, 3) := by decide +kernel
theorem dX0_firstDay_20 : decode cX0_firstDay 20 = .ok (.iload 4, 2) := by decide +kernel
theorem dX0_firstDay_22 : decode cX0_firstDay 22 = .ok (.iaload, 1) := by decide +kernel
theorem dX0_firstDay_23 : decode cX0_firstDay 23 = .ok (.iload_n 1, 1) := by decide +kernel
theorem dX0_firstDay_24 : decode cX0_firstDay 24 = .ok (.if_icmp .ne 26, 3) := by decide +kernel
theorem dX0_firstDay_27 : decode cX0_firstDay 27 = .ok (.aload_n 0, 1) := by decide +kernel
theorem dX0_firstDay_28 : decode cX0_firstDay 28 = .ok (.getfield 15, 3) := by decide +kernel
theorem dX0_firstDay_31 : decode cX0_firstDay 31 = .ok (.iload 4, 2) := by decide +kernel
theorem dX0_firstDay_33 : decode cX0_firstDay 33 = .ok (.iaload, 1) := by decide +kernel
theorem dX0_firstDay_34 : decode cX0_firstDay 34 = .ok (.iload_n 2, 1) := by decide +kernel
theorem dX0_firstDay_35 : decode cX0_firstDay 35 = .ok (.if_icmp .ne 15, 3) := by decide +kernel
theorem dX0_firstDay_38 : decode cX0_firstDay 38 = .ok (.iload_n 3, 1) := by decide +kernel
theorem dX0_firstDay_39 : decode cX0_firstDay 39 = .ok (.aload_n 0, 1) := by decide +kernel
theorem dX0_firstDay_40 : decode cX0_firstDay 40 = .ok (.getfield 21, 3) := by decide +kernel
theorem dX0_firstDay_43 : decode cX0_firstDay 43 = .ok (.iload 4, 2) := by decide +kernel
theorem dX0_firstDay_45 : decode cX0_firstDay 45 = .ok (.iaload, 1) := by decide +kernel
theorem dX0_firstDay_46 : decode cX0_firstDay 46 = .ok (.invokestatic 31, 3) := by decide +kernel
theorem dX0_firstDay_49 : decode cX0_firstDay 49 = .ok (.istore_n 3, 1) := by decide +kernel
theorem dX0_firstDay_50 : decode cX0_firstDay 50 = .ok (.iinc 4 1, 3) := by decide +kernel
theorem dX0_firstDay_53 : decode cX0_firstDay 53 = .ok (.goto (-46), 3) := by decide +kernel
theorem dX0_firstDay_56 : decode cX0_firstDay 56 = .ok (.iload_n 3, 1) := by decide +kernel
theorem dX0_firstDay_57 : decode cX0_firstDay 57 = .ok (.ireturn, 1) := by decide +kernel
theorem dX0_firstLeave_0 : decode cX0_firstLeave 0 = .ok (.sipush 10000, 3) := by decide +kernel
theorem dX0_firstLeave_3 : decode cX0_firstLeave 3 = .ok (.istore_n 3, 1) := by decide +kernel
theorem dX0_firstLeave_4 : decode cX0_firstLeave 4 = .ok (.iconst 0, 1) := by decide +kernel
theorem dX0_firstLeave_5 : decode cX0_firstLeave 5 = .ok (.istore 4, 2) := by decide +kernel
theorem dX0_firstLeave_7 : decode cX0_firstLeave 7 = .ok (.iload 4, 2) := by decide +kernel
theorem dX0_firstLeave_9 : decode cX0_firstLeave 9 = .ok (.aload_n 0, 1) := by decide +kernel
theorem dX0_firstLeave_10 : decode cX0_firstLeave 10 = .ok (.getfield 28, 3) := by decide +kernel
theorem dX0_firstLeave_13 : decode cX0_firstLeave 13 = .ok (.if_icmp .ge 88, 3) := by decide +kernel
theorem dX0_firstLeave_16 : decode cX0_firstLeave 16 = .ok (.aload_n 0, 1) := by decide +kernel
theorem dX0_firstLeave_17 : decode cX0_firstLeave 17 = .ok (.getfield 15, 3) := by decide +kernel
theorem dX0_firstLeave_20 : decode cX0_firstLeave 20 = .ok (.iload 4, 2) := by decide +kernel
theorem dX0_firstLeave_22 : decode cX0_firstLeave 22 = .ok (.iaload, 1) := by decide +kernel
theorem dX0_firstLeave_23 : decode cX0_firstLeave 23 = .ok (.iload_n 1, 1) := by decide +kernel
theorem dX0_firstLeave_24 : decode cX0_firstLeave 24 = .ok (.if_icmp .ne 14, 3) := by decide +kernel
theorem dX0_firstLeave_27 : decode cX0_firstLeave 27 = .ok (.aload_n 0, 1) := by decide +kernel
theorem dX0_firstLeave_28 : decode cX0_firstLeave 28 = .ok (.getfield 18, 3) := by decide +kernel
theorem dX0_firstLeave_31 : decode cX0_firstLeave 31 = .ok (.iload 4, 2) := by decide +kernel
theorem dX0_firstLeave_33 : decode cX0_firstLeave 33 = .ok (.iaload, 1) := by decide +kernel
theorem dX0_firstLeave_34 : decode cX0_firstLeave 34 = .ok (.iload_n 2, 1) := by decide +kernel
theorem dX0_firstLeave_35 : decode cX0_firstLeave 35 = .ok (.if_icmp .eq 25, 3) := by decide +kernel
theorem dX0_firstLeave_38 : decode cX0_firstLeave 38 = .ok (.aload_n 0, 1) := by decide +kernel
theorem dX0_firstLeave_39 : decode cX0_firstLeave 39 = .ok (.getfield 15, 3) := by decide +kernel
theorem dX0_firstLeave_42 : decode cX0_firstLeave 42 = .ok (.iload 4, 2) := by decide +kernel
theorem dX0_firstLeave_44 : decode cX0_firstLeave 44 = .ok (.iaload, 1) := by decide +kernel
theorem dX0_firstLeave_45 : decode cX0_firstLeave 45 = .ok (.iload_n 2, 1) := by decide +kernel
theorem dX0_firstLeave_46 : decode cX0_firstLeave 46 = .ok (.if_icmp .ne 18, 3) := by decide +kernel
theorem dX0_firstLeave_49 : decode cX0_firstLeave 49 = .ok (.aload_n 0, 1) := by decide +kernel
theorem dX0_firstLeave_50 : decode cX0_firstLeave 50 = .ok (.getfield 18, 3) := by decide +kernel
theorem dX0_firstLeave_53 : decode cX0_firstLeave 53 = .ok (.iload 4, 2) := by decide +kernel
theorem dX0_firstLeave_55 : decode cX0_firstLeave 55 = .ok (.iaload, 1) := by decide +kernel
theorem dX0_firstLeave_56 : decode cX0_firstLeave 56 = .ok (.iload_n 1, 1) := by decide +kernel
theorem dX0_firstLeave_57 : decode cX0_firstLeave 57 = .ok (.if_icmp .ne 7, 3) := by decide +kernel
theorem dX0_firstLeave_60 : decode cX0_firstLeave 60 = .ok (.iconst 1, 1) := by decide +kernel
theorem dX0_firstLeave_61 : decode cX0_firstLeave 61 = .ok (.goto 4, 3) := by decide +kernel
theorem dX0_firstLeave_64 : decode cX0_firstLeave 64 = .ok (.iconst 0, 1) := by decide +kernel
theorem dX0_firstLeave_65 : decode cX0_firstLeave 65 = .ok (.istore 5, 2) := by decide +kernel
theorem dX0_firstLeave_67 : decode cX0_firstLeave 67 = .ok (.aload_n 0, 1) := by decide +kernel
theorem dX0_firstLeave_68 : decode cX0_firstLeave 68 = .ok (.getfield 9, 3) := by decide +kernel
theorem dX0_firstLeave_71 : decode cX0_firstLeave 71 = .ok (.iload 4, 2) := by decide +kernel
theorem dX0_firstLeave_73 : decode cX0_firstLeave 73 = .ok (.iaload, 1) := by decide +kernel
theorem dX0_firstLeave_74 : decode cX0_firstLeave 74 = .ok (.iconst 4, 1) := by decide +kernel
theorem dX0_firstLeave_75 : decode cX0_firstLeave 75 = .ok (.if_icmp .ne 20, 3) := by decide +kernel
theorem dX0_firstLeave_78 : decode cX0_firstLeave 78 = .ok (.iload 5, 2) := by decide +kernel
theorem dX0_firstLeave_80 : decode cX0_firstLeave 80 = .ok (.ifCond .eq 15, 3) := by decide +kernel
theorem dX0_firstLeave_83 : decode cX0_firstLeave 83 = .ok (.iload_n 3, 1) := by decide +kernel
theorem dX0_firstLeave_84 : decode cX0_firstLeave 84 = .ok (.aload_n 0, 1) := by decide +kernel
theorem dX0_firstLeave_85 : decode cX0_firstLeave 85 = .ok (.getfield 21, 3) := by decide +kernel
theorem dX0_firstLeave_88 : decode cX0_firstLeave 88 = .ok (.iload 4, 2) := by decide +kernel
theorem dX0_firstLeave_90 : decode cX0_firstLeave 90 = .ok (.iaload, 1) := by decide +kernel
theorem dX0_firstLeave_91 : decode cX0_firstLeave 91 = .ok (.invokestatic 31, 3) := by decide +kernel
theorem dX0_firstLeave_94 : decode cX0_firstLeave 94 = .ok (.istore_n 3, 1) := by decide +kernel
theorem dX0_firstLeave_95 : decode cX0_firstLeave 95 = .ok (.iinc 4 1, 3) := by decide +kernel
theorem dX0_firstLeave_98 : decode cX0_firstLeave 98 = .ok (.goto (-91), 3) := by decide +kernel
theorem dX0_firstLeave_101 : decode cX0_firstLeave 101 = .ok (.iload_n 3, 1) := by decide +kernel
theorem dX0_firstLeave_102 : decode cX0_firstLeave 102 = .ok (.ireturn, 1) := by decide +kernel
theorem dX0_famesOf_0 : decode cX0_famesOf 0 = .ok (.iconst 0, 1) := by decide +kernel
theorem dX0_famesOf_1 : decode cX0_famesOf 1 = .ok (.istore_n 2, 1) := by decide +kernel
theorem dX0_famesOf_2 : decode cX0_famesOf 2 = .ok (.iconst 0, 1) := by decide +kernel
theorem dX0_famesOf_3 : decode cX0_famesOf 3 = .ok (.istore_n 3, 1) := by decide +kernel
theorem dX0_famesOf_4 : decode cX0_famesOf 4 = .ok (.iload_n 3, 1) := by decide +kernel
theorem dX0_famesOf_5 : decode cX0_famesOf 5 = .ok (.aload_n 0, 1) := by decide +kernel
theorem dX0_famesOf_6 : decode cX0_famesOf 6 = .ok (.getfield 28, 3) := by decide +kernel
theorem dX0_famesOf_9 : decode cX0_famesOf 9 = .ok (.if_icmp .ge 33, 3) := by decide +kernel
theorem dX0_famesOf_12 : decode cX0_famesOf 12 = .ok (.aload_n 0, 1) := by decide +kernel
theorem dX0_famesOf_13 : decode cX0_famesOf 13 = .ok (.getfield 9, 3) := by decide +kernel
theorem dX0_famesOf_16 : decode cX0_famesOf 16 = .ok (.iload_n 3, 1) := by decide +kernel
theorem dX0_famesOf_17 : decode cX0_famesOf 17 = .ok (.iaload, 1) := by decide +kernel
theorem dX0_famesOf_18 : decode cX0_famesOf 18 = .ok (.bipush 9, 2) := by decide +kernel
theorem dX0_famesOf_20 : decode cX0_famesOf 20 = .ok (.if_icmp .ne 16, 3) := by decide +kernel
theorem dX0_famesOf_23 : decode cX0_famesOf 23 = .ok (.aload_n 0, 1) := by decide +kernel
theorem dX0_famesOf_24 : decode cX0_famesOf 24 = .ok (.getfield 15, 3) := by decide +kernel
theorem dX0_famesOf_27 : decode cX0_famesOf 27 = .ok (.iload_n 3, 1) := by decide +kernel
theorem dX0_famesOf_28 : decode cX0_famesOf 28 = .ok (.iaload, 1) := by decide +kernel
theorem dX0_famesOf_29 : decode cX0_famesOf 29 = .ok (.iload_n 1, 1) := by decide +kernel
theorem dX0_famesOf_30 : decode cX0_famesOf 30 = .ok (.if_icmp .ne 6, 3) := by decide +kernel
theorem dX0_famesOf_33 : decode cX0_famesOf 33 = .ok (.iinc 2 1, 3) := by decide +kernel
theorem dX0_famesOf_36 : decode cX0_famesOf 36 = .ok (.iinc 3 1, 3) := by decide +kernel
theorem dX0_famesOf_39 : decode cX0_famesOf 39 = .ok (.goto (-35), 3) := by decide +kernel
theorem dX0_famesOf_42 : decode cX0_famesOf 42 = .ok (.iload_n 2, 1) := by decide +kernel
theorem dX0_famesOf_43 : decode cX0_famesOf 43 = .ok (.ireturn, 1) := by decide +kernel
theorem dX0_deciding_0 : decode cX0_deciding 0 = .ok (.iconst (-1), 1) := by decide +kernel
theorem dX0_deciding_1 : decode cX0_deciding 1 = .ok (.istore_n 2, 1) := by decide +kernel
theorem dX0_deciding_2 : decode cX0_deciding 2 = .ok (.iconst 0, 1) := by decide +kernel
theorem dX0_deciding_3 : decode cX0_deciding 3 = .ok (.istore_n 3, 1) := by decide +kernel
theorem dX0_deciding_4 : decode cX0_deciding 4 = .ok (.iload_n 3, 1) := by decide +kernel
theorem dX0_deciding_5 : decode cX0_deciding 5 = .ok (.aload_n 0, 1) := by decide +kernel
theorem dX0_deciding_6 : decode cX0_deciding 6 = .ok (.getfield 28, 3) := by decide +kernel
theorem dX0_deciding_9 : decode cX0_deciding 9 = .ok (.if_icmp .ge 74, 3) := by decide +kernel
theorem dX0_deciding_12 : decode cX0_deciding 12 = .ok (.aload_n 0, 1) := by decide +kernel
theorem dX0_deciding_13 : decode cX0_deciding 13 = .ok (.getfield 9, 3) := by decide +kernel
theorem dX0_deciding_16 : decode cX0_deciding 16 = .ok (.iload_n 3, 1) := by decide +kernel
theorem dX0_deciding_17 : decode cX0_deciding 17 = .ok (.iaload, 1) := by decide +kernel
theorem dX0_deciding_18 : decode cX0_deciding 18 = .ok (.iconst 5, 1) := by decide +kernel
theorem dX0_deciding_19 : decode cX0_deciding 19 = .ok (.if_icmp .eq 14, 3) := by decide +kernel
theorem dX0_deciding_22 : decode cX0_deciding 22 = .ok (.aload_n 0, 1) := by decide +kernel
theorem dX0_deciding_23 : decode cX0_deciding 23 = .ok (.getfield 9, 3) := by decide +kernel
theorem dX0_deciding_26 : decode cX0_deciding 26 = .ok (.iload_n 3, 1) := by decide +kernel
theorem dX0_deciding_27 : decode cX0_deciding 27 = .ok (.iaload, 1) := by decide +kernel
theorem dX0_deciding_28 : decode cX0_deciding 28 = .ok (.bipush 6, 2) := by decide +kernel
theorem dX0_deciding_30 : decode cX0_deciding 30 = .ok (.if_icmp .ne 17, 3) := by decide +kernel
theorem dX0_deciding_33 : decode cX0_deciding 33 = .ok (.aload_n 0, 1) := by decide +kernel
theorem dX0_deciding_34 : decode cX0_deciding 34 = .ok (.getfield 15, 3) := by decide +kernel
theorem dX0_deciding_37 : decode cX0_deciding 37 = .ok (.iload_n 3, 1) := by decide +kernel
theorem dX0_deciding_38 : decode cX0_deciding 38 = .ok (.iaload, 1) := by decide +kernel
theorem dX0_deciding_39 : decode cX0_deciding 39 = .ok (.iload_n 1, 1) := by decide +kernel
theorem dX0_deciding_40 : decode cX0_deciding 40 = .ok (.if_icmp .ne 7, 3) := by decide +kernel
theorem dX0_deciding_43 : decode cX0_deciding 43 = .ok (.iconst 1, 1) := by decide +kernel
theorem dX0_deciding_44 : decode cX0_deciding 44 = .ok (.goto 4, 3) := by decide +kernel
theorem dX0_deciding_47 : decode cX0_deciding 47 = .ok (.iconst 0, 1) := by decide +kernel
theorem dX0_deciding_48 : decode cX0_deciding 48 = .ok (.istore 4, 2) := by decide +kernel
theorem dX0_deciding_50 : decode cX0_deciding 50 = .ok (.iload 4, 2) := by decide +kernel
theorem dX0_deciding_52 : decode cX0_deciding 52 = .ok (.ifCond .eq 25, 3) := by decide +kernel
theorem dX0_deciding_55 : decode cX0_deciding 55 = .ok (.iload_n 2, 1) := by decide +kernel
theorem dX0_deciding_56 : decode cX0_deciding 56 = .ok (.iconst (-1), 1) := by decide +kernel
theorem dX0_deciding_57 : decode cX0_deciding 57 = .ok (.if_icmp .eq 18, 3) := by decide +kernel
theorem dX0_deciding_60 : decode cX0_deciding 60 = .ok (.aload_n 0, 1) := by decide +kernel
theorem dX0_deciding_61 : decode cX0_deciding 61 = .ok (.getfield 21, 3) := by decide +kernel
theorem dX0_deciding_64 : decode cX0_deciding 64 = .ok (.iload_n 3, 1) := by decide +kernel
theorem dX0_deciding_65 : decode cX0_deciding 65 = .ok (.iaload, 1) := by decide +kernel
theorem dX0_deciding_66 : decode cX0_deciding 66 = .ok (.aload_n 0, 1) := by decide +kernel
theorem dX0_deciding_67 : decode cX0_deciding 67 = .ok (.getfield 21, 3) := by decide +kernel
theorem dX0_deciding_70 : decode cX0_deciding 70 = .ok (.iload_n 2, 1) := by decide +kernel
theorem dX0_deciding_71 : decode cX0_deciding 71 = .ok (.iaload, 1) := by decide +kernel
theorem dX0_deciding_72 : decode cX0_deciding 72 = .ok (.if_icmp .ge 5, 3) := by decide +kernel
theorem dX0_deciding_75 : decode cX0_deciding 75 = .ok (.iload_n 3, 1) := by decide +kernel
theorem dX0_deciding_76 : decode cX0_deciding 76 = .ok (.istore_n 2, 1) := by decide +kernel
theorem dX0_deciding_77 : decode cX0_deciding 77 = .ok (.iinc 3 1, 3) := by decide +kernel
theorem dX0_deciding_80 : decode cX0_deciding 80 = .ok (.goto (-76), 3) := by decide +kernel
theorem dX0_deciding_83 : decode cX0_deciding 83 = .ok (.iload_n 2, 1) := by decide +kernel
theorem dX0_deciding_84 : decode cX0_deciding 84 = .ok (.ireturn, 1) := by decide +kernel
theorem dX0_lastWords_0 : decode cX0_lastWords 0 = .ok (.aload_n 2, 1) := by decide +kernel
theorem dX0_lastWords_1 : decode cX0_lastWords 1 = .ok (.iconst (-1), 1) := by decide +kernel
theorem dX0_lastWords_2 : decode cX0_lastWords 2 = .ok (.invokestatic 40, 3) := by decide +kernel
theorem dX0_lastWords_5 : decode cX0_lastWords 5 = .ok (.iconst 0, 1) := by decide +kernel
theorem dX0_lastWords_6 : decode cX0_lastWords 6 = .ok (.istore_n 3, 1) := by decide +kernel
theorem dX0_lastWords_7 : decode cX0_lastWords 7 = .ok (.iload_n 3, 1) := by decide +kernel
theorem dX0_lastWords_8 : decode cX0_lastWords 8 = .ok (.aload_n 0, 1) := by decide +kernel
theorem dX0_lastWords_9 : decode cX0_lastWords 9 = .ok (.getfield 28, 3) := by decide +kernel
theorem dX0_lastWords_12 : decode cX0_lastWords 12 = .ok (.if_icmp .ge 87, 3) := by decide +kernel
theorem dX0_lastWords_15 : decode cX0_lastWords 15 = .ok (.aload_n 0, 1) := by decide +kernel
theorem dX0_lastWords_16 : decode cX0_lastWords 16 = .ok (.getfield 9, 3) := by decide +kernel
theorem dX0_lastWords_19 : decode cX0_lastWords 19 = .ok (.iload_n 3, 1) := by decide +kernel
theorem dX0_lastWords_20 : decode cX0_lastWords 20 = .ok (.iaload, 1) := by decide +kernel
theorem dX0_lastWords_21 : decode cX0_lastWords 21 = .ok (.bipush 7, 2) := by decide +kernel
theorem dX0_lastWords_23 : decode cX0_lastWords 23 = .ok (.if_icmp .eq 14, 3) := by decide +kernel
theorem dX0_lastWords_26 : decode cX0_lastWords 26 = .ok (.aload_n 0, 1) := by decide +kernel
theorem dX0_lastWords_27 : decode cX0_lastWords 27 = .ok (.getfield 9, 3) := by decide +kernel
theorem dX0_lastWords_30 : decode cX0_lastWords 30 = .ok (.iload_n 3, 1) := by decide +kernel
theorem dX0_lastWords_31 : decode cX0_lastWords 31 = .ok (.iaload, 1) := by decide +kernel
theorem dX0_lastWords_32 : decode cX0_lastWords 32 = .ok (.bipush 8, 2) := by decide +kernel
theorem dX0_lastWords_34 : decode cX0_lastWords 34 = .ok (.if_icmp .ne 7, 3) := by decide +kernel
theorem dX0_lastWords_37 : decode cX0_lastWords 37 = .ok (.iconst 1, 1) := by decide +kernel
theorem dX0_lastWords_38 : decode cX0_lastWords 38 = .ok (.goto 4, 3) := by decide +kernel
theorem dX0_lastWords_41 : decode cX0_lastWords 41 = .ok (.iconst 0, 1) := by decide +kernel
theorem dX0_lastWords_42 : decode cX0_lastWords 42 = .ok (.istore 4, 2) := by decide +kernel
theorem dX0_lastWords_44 : decode cX0_lastWords 44 = .ok (.iload 4, 2) := by decide +kernel
theorem dX0_lastWords_46 : decode cX0_lastWords 46 = .ok (.ifCond .eq 47, 3) := by decide +kernel
theorem dX0_lastWords_49 : decode cX0_lastWords 49 = .ok (.aload_n 0, 1) := by decide +kernel
theorem dX0_lastWords_50 : decode cX0_lastWords 50 = .ok (.getfield 18, 3) := by decide +kernel
theorem dX0_lastWords_53 : decode cX0_lastWords 53 = .ok (.iload_n 3, 1) := by decide +kernel
theorem dX0_lastWords_54 : decode cX0_lastWords 54 = .ok (.iaload, 1) := by decide +kernel
theorem dX0_lastWords_55 : decode cX0_lastWords 55 = .ok (.iload_n 1, 1) := by decide +kernel
theorem dX0_lastWords_56 : decode cX0_lastWords 56 = .ok (.if_icmp .ne 37, 3) := by decide +kernel
theorem dX0_lastWords_59 : decode cX0_lastWords 59 = .ok (.aload_n 0, 1) := by decide +kernel
theorem dX0_lastWords_60 : decode cX0_lastWords 60 = .ok (.getfield 15, 3) := by decide +kernel
theorem dX0_lastWords_63 : decode cX0_lastWords 63 = .ok (.iload_n 3, 1) := by decide +kernel
theorem dX0_lastWords_64 : decode cX0_lastWords 64 = .ok (.iaload, 1) := by decide +kernel
theorem dX0_lastWords_65 : decode cX0_lastWords 65 = .ok (.ifCond .lt 28, 3) := by decide +kernel
theorem dX0_lastWords_68 : decode cX0_lastWords 68 = .ok (.aload_n 0, 1) := by decide +kernel
theorem dX0_lastWords_69 : decode cX0_lastWords 69 = .ok (.getfield 15, 3) := by decide +kernel
theorem dX0_lastWords_72 : decode cX0_lastWords 72 = .ok (.iload_n 3, 1) := by decide +kernel
theorem dX0_lastWords_73 : decode cX0_lastWords 73 = .ok (.iaload, 1) := by decide +kernel
theorem dX0_lastWords_74 : decode cX0_lastWords 74 = .ok (.aload_n 2, 1) := by decide +kernel
theorem dX0_lastWords_75 : decode cX0_lastWords 75 = .ok (.arraylength, 1) := by decide +kernel
theorem dX0_lastWords_76 : decode cX0_lastWords 76 = .ok (.if_icmp .ge 17, 3) := by decide +kernel
theorem dX0_lastWords_79 : decode cX0_lastWords 79 = .ok (.aload_n 2, 1) := by decide +kernel
theorem dX0_lastWords_80 : decode cX0_lastWords 80 = .ok (.aload_n 0, 1) := by decide +kernel
theorem dX0_lastWords_81 : decode cX0_lastWords 81 = .ok (.getfield 15, 3) := by decide +kernel
theorem dX0_lastWords_84 : decode cX0_lastWords 84 = .ok (.iload_n 3, 1) := by decide +kernel
theorem dX0_lastWords_85 : decode cX0_lastWords 85 = .ok (.iaload, 1) := by decide +kernel
theorem dX0_lastWords_86 : decode cX0_lastWords 86 = .ok (.aload_n 0, 1) := by decide +kernel
theorem dX0_lastWords_87 : decode cX0_lastWords 87 = .ok (.getfield 9, 3) := by decide +kernel
theorem dX0_lastWords_90 : decode cX0_lastWords 90 = .ok (.iload_n 3, 1) := by decide +kernel
theorem dX0_lastWords_91 : decode cX0_lastWords 91 = .ok (.iaload, 1) := by decide +kernel
theorem dX0_lastWords_92 : decode cX0_lastWords 92 = .ok (.iastore, 1) := by decide +kernel
theorem dX0_lastWords_93 : decode cX0_lastWords 93 = .ok (.iinc 3 1, 3) := by decide +kernel
theorem dX0_lastWords_96 : decode cX0_lastWords 96 = .ok (.goto (-89), 3) := by decide +kernel
theorem dX0_lastWords_99 : decode cX0_lastWords 99 = .ok (.return_, 1) := by decide +kernel
theorem dX0_firstLapse_0 : decode cX0_firstLapse 0 = .ok (.sipush 10000, 3) := by decide +kernel
theorem dX0_firstLapse_3 : decode cX0_firstLapse 3 = .ok (.istore 4, 2) := by decide +kernel
theorem dX0_firstLapse_5 : decode cX0_firstLapse 5 = .ok (.iconst 0, 1) := by decide +kernel
theorem dX0_firstLapse_6 : decode cX0_firstLapse 6 = .ok (.istore 5, 2) := by decide +kernel
theorem dX0_firstLapse_8 : decode cX0_firstLapse 8 = .ok (.iload 5, 2) := by decide +kernel
theorem dX0_firstLapse_10 : decode cX0_firstLapse 10 = .ok (.aload_n 0, 1) := by decide +kernel
theorem dX0_firstLapse_11 : decode cX0_firstLapse 11 = .ok (.getfield 28, 3) := by decide +kernel
theorem dX0_firstLapse_14 : decode cX0_firstLapse 14 = .ok (.if_icmp .ge 74, 3) := by decide +kernel
theorem dX0_firstLapse_17 : decode cX0_firstLapse 17 = .ok (.aload_n 0, 1) := by decide +kernel
theorem dX0_firstLapse_18 : decode cX0_firstLapse 18 = .ok (.getfield 9, 3) := by decide +kernel
theorem dX0_firstLapse_21 : decode cX0_firstLapse 21 = .ok (.iload 5, 2) := by decide +kernel
theorem dX0_firstLapse_23 : decode cX0_firstLapse 23 = .ok (.iaload, 1) := by decide +kernel
theorem dX0_firstLapse_24 : decode cX0_firstLapse 24 = .ok (.iconst 2, 1) := by decide +kernel
theorem dX0_firstLapse_25 : decode cX0_firstLapse 25 = .ok (.if_icmp .ne 57, 3) := by decide +kernel
theorem dX0_firstLapse_28 : decode cX0_firstLapse 28 = .ok (.aload_n 0, 1) := by decide +kernel
theorem dX0_firstLapse_29 : decode cX0_firstLapse 29 = .ok (.getfield 15, 3) := by decide +kernel
theorem dX0_firstLapse_32 : decode cX0_firstLapse 32 = .ok (.iload 5, 2) := by decide +kernel
theorem dX0_firstLapse_34 : decode cX0_firstLapse 34 = .ok (.iaload, 1) := by decide +kernel
theorem dX0_firstLapse_35 : decode cX0_firstLapse 35 = .ok (.iload_n 1, 1) := by decide +kernel
theorem dX0_firstLapse_36 : decode cX0_firstLapse 36 = .ok (.if_icmp .ne 46, 3) := by decide +kernel
theorem dX0_firstLapse_39 : decode cX0_firstLapse 39 = .ok (.iload_n 3, 1) := by decide +kernel
theorem dX0_firstLapse_40 : decode cX0_firstLapse 40 = .ok (.aload_n 0, 1) := by decide +kernel
theorem dX0_firstLapse_41 : decode cX0_firstLapse 41 = .ok (.getfield 21, 3) := by decide +kernel
theorem dX0_firstLapse_44 : decode cX0_firstLapse 44 = .ok (.iload 5, 2) := by decide +kernel
theorem dX0_firstLapse_46 : decode cX0_firstLapse 46 = .ok (.iaload, 1) := by decide +kernel
theorem dX0_firstLapse_47 : decode cX0_firstLapse 47 = .ok (.iload_n 2, 1) := by decide +kernel
theorem dX0_firstLapse_48 : decode cX0_firstLapse 48 = .ok (.iadd, 1) := by decide +kernel
theorem dX0_firstLapse_49 : decode cX0_firstLapse 49 = .ok (.invokestatic 37, 3) := by decide +kernel
theorem dX0_firstLapse_52 : decode cX0_firstLapse 52 = .ok (.istore 6, 2) := by decide +kernel
theorem dX0_firstLapse_54 : decode cX0_firstLapse 54 = .ok (.iload 6, 2) := by decide +kernel
theorem dX0_firstLapse_56 : decode cX0_firstLapse 56 = .ok (.iload 4, 2) := by decide +kernel
theorem dX0_firstLapse_58 : decode cX0_firstLapse 58 = .ok (.if_icmp .ge 24, 3) := by decide +kernel
theorem dX0_firstLapse_61 : decode cX0_firstLapse 61 = .ok (.aload_n 0, 1) := by decide +kernel
theorem dX0_firstLapse_62 : decode cX0_firstLapse 62 = .ok (.iload_n 1, 1) := by decide +kernel
theorem dX0_firstLapse_63 : decode cX0_firstLapse 63 = .ok (.aload_n 0, 1) := by decide +kernel
theorem dX0_firstLapse_64 : decode cX0_firstLapse 64 = .ok (.getfield 21, 3) := by decide +kernel
theorem dX0_firstLapse_67 : decode cX0_firstLapse 67 = .ok (.iload 5, 2) := by decide +kernel
theorem dX0_firstLapse_69 : decode cX0_firstLapse 69 = .ok (.iaload, 1) := by decide +kernel
theorem dX0_firstLapse_70 : decode cX0_firstLapse 70 = .ok (.iload 6, 2) := by decide +kernel
theorem dX0_firstLapse_72 : decode cX0_firstLapse 72 = .ok (.invokevirtual 46, 3) := by decide +kernel
theorem dX0_firstLapse_75 : decode cX0_firstLapse 75 = .ok (.ifCond .ne 7, 3) := by decide +kernel
theorem dX0_firstLapse_78 : decode cX0_firstLapse 78 = .ok (.iload 6, 2) := by decide +kernel
theorem dX0_firstLapse_80 : decode cX0_firstLapse 80 = .ok (.istore 4, 2) := by decide +kernel
theorem dX0_firstLapse_82 : decode cX0_firstLapse 82 = .ok (.iinc 5 1, 3) := by decide +kernel
theorem dX0_firstLapse_85 : decode cX0_firstLapse 85 = .ok (.goto (-77), 3) := by decide +kernel
theorem dX0_firstLapse_88 : decode cX0_firstLapse 88 = .ok (.iload 4, 2) := by decide +kernel
theorem dX0_firstLapse_90 : decode cX0_firstLapse 90 = .ok (.ireturn, 1) := by decide +kernel
theorem dX0_returns_0 : decode cX0_returns 0 = .ok (.iconst 0, 1) := by decide +kernel
theorem dX0_returns_1 : decode cX0_returns 1 = .ok (.istore 4, 2) := by decide +kernel
theorem dX0_returns_3 : decode cX0_returns 3 = .ok (.iload 4, 2) := by decide +kernel
theorem dX0_returns_5 : decode cX0_returns 5 = .ok (.aload_n 0, 1) := by decide +kernel
theorem dX0_returns_6 : decode cX0_returns 6 = .ok (.getfield 28, 3) := by decide +kernel
theorem dX0_returns_9 : decode cX0_returns 9 = .ok (.if_icmp .ge 55, 3) := by decide +kernel
theorem dX0_returns_12 : decode cX0_returns 12 = .ok (.aload_n 0, 1) := by decide +kernel
theorem dX0_returns_13 : decode cX0_returns 13 = .ok (.getfield 9, 3) := by decide +kernel
theorem dX0_returns_16 : decode cX0_returns 16 = .ok (.iload 4, 2) := by decide +kernel
theorem dX0_returns_18 : decode cX0_returns 18 = .ok (.iaload, 1) := by decide +kernel
theorem dX0_returns_19 : decode cX0_returns 19 = .ok (.iconst 3, 1) := by decide +kernel
theorem dX0_returns_20 : decode cX0_returns 20 = .ok (.if_icmp .ne 38, 3) := by decide +kernel
theorem dX0_returns_23 : decode cX0_returns 23 = .ok (.aload_n 0, 1) := by decide +kernel
theorem dX0_returns_24 : decode cX0_returns 24 = .ok (.getfield 15, 3) := by decide +kernel
theorem dX0_returns_27 : decode cX0_returns 27 = .ok (.iload 4, 2) := by decide +kernel
theorem dX0_returns_29 : decode cX0_returns 29 = .ok (.iaload, 1) := by decide +kernel
theorem dX0_returns_30 : decode cX0_returns 30 = .ok (.iload_n 1, 1) := by decide +kernel
theorem dX0_returns_31 : decode cX0_returns 31 = .ok (.if_icmp .ne 27, 3) := by decide +kernel
theorem dX0_returns_34 : decode cX0_returns 34 = .ok (.aload_n 0, 1) := by decide +kernel
theorem dX0_returns_35 : decode cX0_returns 35 = .ok (.getfield 21, 3) := by decide +kernel
theorem dX0_returns_38 : decode cX0_returns 38 = .ok (.iload 4, 2) := by decide +kernel
theorem dX0_returns_40 : decode cX0_returns 40 = .ok (.iaload, 1) := by decide +kernel
theorem dX0_returns_41 : decode cX0_returns 41 = .ok (.iload_n 2, 1) := by decide +kernel
theorem dX0_returns_42 : decode cX0_returns 42 = .ok (.if_icmp .lt 16, 3) := by decide +kernel
theorem dX0_returns_45 : decode cX0_returns 45 = .ok (.aload_n 0, 1) := by decide +kernel
theorem dX0_returns_46 : decode cX0_returns 46 = .ok (.getfield 21, 3) := by decide +kernel
theorem dX0_returns_49 : decode cX0_returns 49 = .ok (.iload 4, 2) := by decide +kernel
theorem dX0_returns_51 : decode cX0_returns 51 = .ok (.iaload, 1) := by decide +kernel
theorem dX0_returns_52 : decode cX0_returns 52 = .ok (.iload_n 3, 1) := by decide +kernel
theorem dX0_returns_53 : decode cX0_returns 53 = .ok (.if_icmp .gt 5, 3) := by decide +kernel
theorem dX0_returns_56 : decode cX0_returns 56 = .ok (.iconst 1, 1) := by decide +kernel
theorem dX0_returns_57 : decode cX0_returns 57 = .ok (.ireturn, 1) := by decide +kernel
theorem dX0_returns_58 : decode cX0_returns 58 = .ok (.iinc 4 1, 3) := by decide +kernel
theorem dX0_returns_61 : decode cX0_returns 61 = .ok (.goto (-58), 3) := by decide +kernel
theorem dX0_returns_64 : decode cX0_returns 64 = .ok (.iconst 0, 1) := by decide +kernel
theorem dX0_returns_65 : decode cX0_returns 65 = .ok (.ireturn, 1) := by decide +kernel
end
section
theorem dX1_init_0 : decode cX1_init 0 = .ok (.aload_n 0, 1) := by decide +kernel
theorem dX1_init_1 : decode cX1_init 1 = .ok (.invokespecial 3, 3) := by decide +kernel
theorem dX1_init_4 : decode cX1_init 4 = .ok (.aload_n 0, 1) := by decide +kernel
theorem dX1_init_5 : decode cX1_init 5 = .ok (.bipush 12, 2) := by decide +kernel
theorem dX1_init_7 : decode cX1_init 7 = .ok (.newarray .int, 2) := by decide +kernel
theorem dX1_init_9 : decode cX1_init 9 = .ok (.putfield 9, 3) := by decide +kernel
theorem dX1_init_12 : decode cX1_init 12 = .ok (.aload_n 0, 1) := by decide +kernel
theorem dX1_init_13 : decode cX1_init 13 = .ok (.bipush 12, 2) := by decide +kernel
theorem dX1_init_15 : decode cX1_init 15 = .ok (.newarray .int, 2) := by decide +kernel
theorem dX1_init_17 : decode cX1_init 17 = .ok (.putfield 15, 3) := by decide +kernel
theorem dX1_init_20 : decode cX1_init 20 = .ok (.aload_n 0, 1) := by decide +kernel
theorem dX1_init_21 : decode cX1_init 21 = .ok (.bipush 12, 2) := by decide +kernel
theorem dX1_init_23 : decode cX1_init 23 = .ok (.newarray .int, 2) := by decide +kernel
theorem dX1_init_25 : decode cX1_init 25 = .ok (.putfield 18, 3) := by decide +kernel
theorem dX1_init_28 : decode cX1_init 28 = .ok (.aload_n 0, 1) := by decide +kernel
theorem dX1_init_29 : decode cX1_init 29 = .ok (.sipush 144, 3) := by decide +kernel
theorem dX1_init_32 : decode cX1_init 32 = .ok (.newarray .int, 2) := by decide +kernel
theorem dX1_init_34 : decode cX1_init 34 = .ok (.putfield 21, 3) := by decide +kernel
theorem dX1_init_37 : decode cX1_init 37 = .ok (.aload_n 0, 1) := by decide +kernel
theorem dX1_init_38 : decode cX1_init 38 = .ok (.bipush 16, 2) := by decide +kernel
theorem dX1_init_40 : decode cX1_init 40 = .ok (.newarray .int, 2) := by decide +kernel
theorem dX1_init_42 : decode cX1_init 42 = .ok (.putfield 24, 3) := by decide +kernel
theorem dX1_init_45 : decode cX1_init 45 = .ok (.aload_n 0, 1) := by decide +kernel
theorem dX1_init_46 : decode cX1_init 46 = .ok (.iconst 0, 1) := by decide +kernel
theorem dX1_init_47 : decode cX1_init 47 = .ok (.putfield 27, 3) := by decide +kernel
theorem dX1_init_50 : decode cX1_init 50 = .ok (.return_, 1) := by decide +kernel
theorem dX1_has_0 : decode cX1_has 0 = .ok (.iload_n 1, 1) := by decide +kernel
theorem dX1_has_1 : decode cX1_has 1 = .ok (.ifCond .lt 15, 3) := by decide +kernel
theorem dX1_has_4 : decode cX1_has 4 = .ok (.iload_n 1, 1) := by decide +kernel
theorem dX1_has_5 : decode cX1_has 5 = .ok (.aload_n 0, 1) := by decide +kernel
theorem dX1_has_6 : decode cX1_has 6 = .ok (.getfield 27, 3) := by decide +kernel
theorem dX1_has_9 : decode cX1_has 9 = .ok (.if_icmp .ge 7, 3) := by decide +kernel
theorem dX1_has_12 : decode cX1_has 12 = .ok (.iconst 1, 1) := by decide +kernel
theorem dX1_has_13 : decode cX1_has 13 = .ok (.goto 4, 3) := by decide +kernel
theorem dX1_has_16 : decode cX1_has 16 = .ok (.iconst 0, 1) := by decide +kernel
theorem dX1_has_17 : decode cX1_has 17 = .ok (.ireturn, 1) := by decide +kernel
theorem dX1_canBear_0 : decode cX1_canBear 0 = .ok (.iload_n 1, 1) := by decide +kernel
theorem dX1_canBear_1 : decode cX1_canBear 1 = .ok (.iconst (-1), 1) := by decide +kernel
theorem dX1_canBear_2 : decode cX1_canBear 2 = .ok (.if_icmp .eq 21, 3) := by decide +kernel
theorem dX1_canBear_5 : decode cX1_canBear 5 = .ok (.aload_n 0, 1) := by decide +kernel
theorem dX1_canBear_6 : decode cX1_canBear 6 = .ok (.iload_n 1, 1) := by decide +kernel
theorem dX1_canBear_7 : decode cX1_canBear 7 = .ok (.invokevirtual 31, 3) := by decide +kernel
theorem dX1_canBear_10 : decode cX1_canBear 10 = .ok (.ifCond .eq 17, 3) := by decide +kernel
theorem dX1_canBear_13 : decode cX1_canBear 13 = .ok (.aload_n 0, 1) := by decide +kernel
theorem dX1_canBear_14 : decode cX1_canBear 14 = .ok (.getfield 18, 3) := by decide +kernel
theorem dX1_canBear_17 : decode cX1_canBear 17 = .ok (.iload_n 1, 1) := by decide +kernel
theorem dX1_canBear_18 : decode cX1_canBear 18 = .ok (.iaload, 1) := by decide +kernel
theorem dX1_canBear_19 : decode cX1_canBear 19 = .ok (.iload_n 2, 1) := by decide +kernel
theorem dX1_canBear_20 : decode cX1_canBear 20 = .ok (.if_icmp .ge 7, 3) := by decide +kernel
theorem dX1_canBear_23 : decode cX1_canBear 23 = .ok (.iconst 1, 1) := by decide +kernel
theorem dX1_canBear_24 : decode cX1_canBear 24 = .ok (.goto 4, 3) := by decide +kernel
theorem dX1_canBear_27 : decode cX1_canBear 27 = .ok (.iconst 0, 1) := by decide +kernel
theorem dX1_canBear_28 : decode cX1_canBear 28 = .ok (.ireturn, 1) := by decide +kernel
theorem dX1_add_0 : decode cX1_add 0 = .ok (.aload_n 0, 1) := by decide +kernel
theorem dX1_add_1 : decode cX1_add 1 = .ok (.getfield 27, 3) := by decide +kernel
theorem dX1_add_4 : decode cX1_add 4 = .ok (.bipush 12, 2) := by decide +kernel
theorem dX1_add_6 : decode cX1_add 6 = .ok (.if_icmp .lt 5, 3) := by decide +kernel
theorem dX1_add_9 : decode cX1_add 9 = .ok (.iconst (-1), 1) := by decide +kernel
theorem dX1_add_10 : decode cX1_add 10 = .ok (.ireturn, 1) := by decide +kernel
theorem dX1_add_11 : decode cX1_add 11 = .ok (.aload_n 0, 1) := by decide +kernel
theorem dX1_add_12 : decode cX1_add 12 = .ok (.getfield 27, 3) := by decide +kernel
theorem dX1_add_15 : decode cX1_add 15 = .ok (.istore 4, 2) := by decide +kernel
theorem dX1_add_17 : decode cX1_add 17 = .ok (.aload_n 0, 1) := by decide +kernel
theorem dX1_add_18 : decode cX1_add 18 = .ok (.getfield 9, 3) := by decide +kernel
theorem dX1_add_21 : decode cX1_add 21 = .ok (.iload 4, 2) := by decide +kernel
theorem dX1_add_23 : decode cX1_add 23 = .ok (.iload_n 1, 1) := by decide +kernel
theorem dX1_add_24 : decode cX1_add 24 = .ok (.iastore, 1) := by decide +kernel
theorem dX1_add_25 : decode cX1_add 25 = .ok (.aload_n 0, 1) := by decide +kernel
theorem dX1_add_26 : decode cX1_add 26 = .ok (.getfield 15, 3) := by decide +kernel
theorem dX1_add_29 : decode cX1_add 29 = .ok (.iload 4, 2) := by decide +kernel
theorem dX1_add_31 : decode cX1_add 31 = .ok (.iload_n 2, 1) := by decide +kernel
theorem dX1_add_32 : decode cX1_add 32 = .ok (.iastore, 1) := by decide +kernel
theorem dX1_add_33 : decode cX1_add 33 = .ok (.aload_n 0, 1) := by decide +kernel
theorem dX1_add_34 : decode cX1_add 34 = .ok (.getfield 18, 3) := by decide +kernel
theorem dX1_add_37 : decode cX1_add 37 = .ok (.iload 4, 2) := by decide +kernel
theorem dX1_add_39 : decode cX1_add 39 = .ok (.iload_n 3, 1) := by decide +kernel
theorem dX1_add_40 : decode cX1_add 40 = .ok (.iastore, 1) := by decide +kernel
theorem dX1_add_41 : decode cX1_add 41 = .ok (.aload_n 0, 1) := by decide +kernel
theorem dX1_add_42 : decode cX1_add 42 = .ok (.dup, 1) := by decide +kernel
theorem dX1_add_43 : decode cX1_add 43 = .ok (.getfield 27, 3) := by decide +kernel
theorem dX1_add_46 : decode cX1_add 46 = .ok (.iconst 1, 1) := by decide +kernel
theorem dX1_add_47 : decode cX1_add 47 = .ok (.iadd, 1) := by decide +kernel
theorem dX1_add_48 : decode cX1_add 48 = .ok (.putfield 27, 3) := by decide +kernel
theorem dX1_add_51 : decode cX1_add 51 = .ok (.iconst 0, 1) := by decide +kernel
theorem dX1_add_52 : decode cX1_add 52 = .ok (.istore 5, 2) := by decide +kernel
theorem dX1_add_54 : decode cX1_add 54 = .ok (.iload 5, 2) := by decide +kernel
theorem dX1_add_56 : decode cX1_add 56 = .ok (.bipush 12, 2) := by decide +kernel
theorem dX1_add_58 : decode cX1_add 58 = .ok (.if_icmp .ge 50, 3) := by decide +kernel
theorem dX1_add_61 : decode cX1_add 61 = .ok (.aload_n 0, 1) := by decide +kernel
theorem dX1_add_62 : decode cX1_add 62 = .ok (.iload_n 1, 1) := by decide +kernel
theorem dX1_add_63 : decode cX1_add 63 = .ok (.iload 5, 2) := by decide +kernel
theorem dX1_add_65 : decode cX1_add 65 = .ok (.invokevirtual 35, 3) := by decide +kernel
theorem dX1_add_68 : decode cX1_add 68 = .ok (.aload_n 0, 1) := by decide +kernel
theorem dX1_add_69 : decode cX1_add 69 = .ok (.iload_n 2, 1) := by decide +kernel
theorem dX1_add_70 : decode cX1_add 70 = .ok (.iload 5, 2) := by decide +kernel
theorem dX1_add_72 : decode cX1_add 72 = .ok (.invokevirtual 35, 3) := by decide +kernel
theorem dX1_add_75 : decode cX1_add 75 = .ok (.invokestatic 39, 3) := by decide +kernel
theorem dX1_add_78 : decode cX1_add 78 = .ok (.istore 6, 2) := by decide +kernel
theorem dX1_add_80 : decode cX1_add 80 = .ok (.aload_n 0, 1) := by decide +kernel
theorem dX1_add_81 : decode cX1_add 81 = .ok (.getfield 21, 3) := by decide +kernel
theorem dX1_add_84 : decode cX1_add 84 = .ok (.iload 4, 2) := by decide +kernel
theorem dX1_add_86 : decode cX1_add 86 = .ok (.bipush 12, 2) := by decide +kernel
theorem dX1_add_88 : decode cX1_add 88 = .ok (.imul, 1) := by decide +kernel
theorem dX1_add_89 : decode cX1_add 89 = .ok (.iload 5, 2) := by decide +kernel
theorem dX1_add_91 : decode cX1_add 91 = .ok (.iadd, 1) := by decide +kernel
theorem dX1_add_92 : decode cX1_add 92 = .ok (.bipush 99, 2) := by decide +kernel
theorem dX1_add_94 : decode cX1_add 94 = .ok (.iload 6, 2) := by decide +kernel
theorem dX1_add_96 : decode cX1_add 96 = .ok (.iconst 1, 1) := by decide +kernel
theorem dX1_add_97 : decode cX1_add 97 = .ok (.iadd, 1) := by decide +kernel
theorem dX1_add_98 : decode cX1_add 98 = .ok (.invokestatic 39, 3) := by decide +kernel
theorem dX1_add_101 : decode cX1_add 101 = .ok (.iastore, 1) := by decide +kernel
theorem dX1_add_102 : decode cX1_add 102 = .ok (.iinc 5 1, 3) := by decide +kernel
theorem dX1_add_105 : decode cX1_add 105 = .ok (.goto (-51), 3) := by decide +kernel
theorem dX1_add_108 : decode cX1_add 108 = .ok (.aload_n 0, 1) := by decide +kernel
theorem dX1_add_109 : decode cX1_add 109 = .ok (.getfield 21, 3) := by decide +kernel
theorem dX1_add_112 : decode cX1_add 112 = .ok (.iload 4, 2) := by decide +kernel
theorem dX1_add_114 : decode cX1_add 114 = .ok (.bipush 12, 2) := by decide +kernel
theorem dX1_add_116 : decode cX1_add 116 = .ok (.imul, 1) := by decide +kernel
theorem dX1_add_117 : decode cX1_add 117 = .ok (.iload 4, 2) := by decide +kernel
theorem dX1_add_119 : decode cX1_add 119 = .ok (.iadd, 1) := by decide +kernel
theorem dX1_add_120 : decode cX1_add 120 = .ok (.iconst 0, 1) := by decide +kernel
theorem dX1_add_121 : decode cX1_add 121 = .ok (.iastore, 1) := by decide +kernel
theorem dX1_add_122 : decode cX1_add 122 = .ok (.iload 4, 2) := by decide +kernel
theorem dX1_add_124 : decode cX1_add 124 = .ok (.ireturn, 1) := by decide +kernel
theorem dX1_stepsTo_0 : decode cX1_stepsTo 0 = .ok (.aload_n 0, 1) := by decide +kernel
theorem dX1_stepsTo_1 : decode cX1_stepsTo 1 = .ok (.iload_n 1, 1) := by decide +kernel
theorem dX1_stepsTo_2 : decode cX1_stepsTo 2 = .ok (.invokevirtual 31, 3) := by decide +kernel
theorem dX1_stepsTo_5 : decode cX1_stepsTo 5 = .ok (.ifCond .eq 17, 3) := by decide +kernel
theorem dX1_stepsTo_8 : decode cX1_stepsTo 8 = .ok (.aload_n 0, 1) := by decide +kernel
theorem dX1_stepsTo_9 : decode cX1_stepsTo 9 = .ok (.getfield 21, 3) := by decide +kernel
theorem dX1_stepsTo_12 : decode cX1_stepsTo 12 = .ok (.iload_n 1, 1) := by decide +kernel
theorem dX1_stepsTo_13 : decode cX1_stepsTo 13 = .ok (.bipush 12, 2) := by decide +kernel
theorem dX1_stepsTo_15 : decode cX1_stepsTo 15 = .ok (.imul, 1) := by decide +kernel
theorem dX1_stepsTo_16 : decode cX1_stepsTo 16 = .ok (.iload_n 2, 1) := by decide +kernel
theorem dX1_stepsTo_17 : decode cX1_stepsTo 17 = .ok (.iadd, 1) := by decide +kernel
theorem dX1_stepsTo_18 : decode cX1_stepsTo 18 = .ok (.iaload, 1) := by decide +kernel
theorem dX1_stepsTo_19 : decode cX1_stepsTo 19 = .ok (.goto 5, 3) := by decide +kernel
theorem dX1_stepsTo_22 : decode cX1_stepsTo 22 = .ok (.bipush 99, 2) := by decide +kernel
theorem dX1_stepsTo_24 : decode cX1_stepsTo 24 = .ok (.ireturn, 1) := by decide +kernel
theorem dX1_degreeOf_0 : decode cX1_degreeOf 0 = .ok (.bipush 99, 2) := by decide +kernel
theorem dX1_degreeOf_2 : decode cX1_degreeOf 2 = .ok (.istore_n 3, 1) := by decide +kernel
theorem dX1_degreeOf_3 : decode cX1_degreeOf 3 = .ok (.iconst 0, 1) := by decide +kernel
theorem dX1_degreeOf_4 : decode cX1_degreeOf 4 = .ok (.istore 4, 2) := by decide +kernel
theorem dX1_degreeOf_6 : decode cX1_degreeOf 6 = .ok (.iload 4, 2) := by decide +kernel
theorem dX1_degreeOf_8 : decode cX1_degreeOf 8 = .ok (.aload_n 0, 1) := by decide +kernel
theorem dX1_degreeOf_9 : decode cX1_degreeOf 9 = .ok (.getfield 27, 3) := by decide +kernel
theorem dX1_degreeOf_12 : decode cX1_degreeOf 12 = .ok (.if_icmp .ge 31, 3) := by decide +kernel
theorem dX1_degreeOf_15 : decode cX1_degreeOf 15 = .ok (.iload_n 3, 1) := by decide +kernel
theorem dX1_degreeOf_16 : decode cX1_degreeOf 16 = .ok (.aload_n 0, 1) := by decide +kernel
theorem dX1_degreeOf_17 : decode cX1_degreeOf 17 = .ok (.iload_n 1, 1) := by decide +kernel
theorem dX1_degreeOf_18 : decode cX1_degreeOf 18 = .ok (.iload 4, 2) := by decide +kernel
theorem dX1_degreeOf_20 : decode cX1_degreeOf 20 = .ok (.invokevirtual 35, 3) := by decide +kernel
theorem dX1_degreeOf_23 : decode cX1_degreeOf 23 = .ok (.aload_n 0, 1) := by decide +kernel
theorem dX1_degreeOf_24 : decode cX1_degreeOf 24 = .ok (.iload_n 2, 1) := by decide +kernel
theorem dX1_degreeOf_25 : decode cX1_degreeOf 25 = .ok (.iload 4, 2) := by decide +kernel
theorem dX1_degreeOf_27 : decode cX1_degreeOf 27 = .ok (.invokevirtual 35, 3) := by decide +kernel
theorem dX1_degreeOf_30 : decode cX1_degreeOf 30 = .ok (.invokestatic 44, 3) := by decide +kernel
theorem dX1_degreeOf_33 : decode cX1_degreeOf 33 = .ok (.invokestatic 39, 3) := by decide +kernel
theorem dX1_degreeOf_36 : decode cX1_degreeOf 36 = .ok (.istore_n 3, 1) := by decide +kernel
theorem dX1_degreeOf_37 : decode cX1_degreeOf 37 = .ok (.iinc 4 1, 3) := by decide +kernel
theorem dX1_degreeOf_40 : decode cX1_degreeOf 40 = .ok (.goto (-34), 3) := by decide +kernel
theorem dX1_degreeOf_43 : decode cX1_degreeOf 43 = .ok (.iload_n 3, 1) := by decide +kernel
theorem dX1_degreeOf_44 : decode cX1_degreeOf 44 = .ok (.ireturn, 1) := by decide +kernel
theorem dX1_gapsOf_0 : decode cX1_gapsOf 0 = .ok (.iconst 0, 1) := by decide +kernel
theorem dX1_gapsOf_1 : decode cX1_gapsOf 1 = .ok (.istore_n 2, 1) := by decide +kernel
theorem dX1_gapsOf_2 : decode cX1_gapsOf 2 = .ok (.aload_n 0, 1) := by decide +kernel
theorem dX1_gapsOf_3 : decode cX1_gapsOf 3 = .ok (.getfield 24, 3) := by decide +kernel
theorem dX1_gapsOf_6 : decode cX1_gapsOf 6 = .ok (.iconst 1, 1) := by decide +kernel
theorem dX1_gapsOf_7 : decode cX1_gapsOf 7 = .ok (.iload_n 1, 1) := by decide +kernel
theorem dX1_gapsOf_8 : decode cX1_gapsOf 8 = .ok (.iastore, 1) := by decide +kernel
theorem dX1_gapsOf_9 : decode cX1_gapsOf 9 = .ok (.iconst 2, 1) := by decide +kernel
theorem dX1_gapsOf_10 : decode cX1_gapsOf 10 = .ok (.istore_n 3, 1) := by decide +kernel
theorem dX1_gapsOf_11 : decode cX1_gapsOf 11 = .ok (.iload_n 3, 1) := by decide +kernel
theorem dX1_gapsOf_12 : decode cX1_gapsOf 12 = .ok (.aload_n 0, 1) := by decide +kernel
theorem dX1_gapsOf_13 : decode cX1_gapsOf 13 = .ok (.getfield 24, 3) := by decide +kernel
theorem dX1_gapsOf_16 : decode cX1_gapsOf 16 = .ok (.arraylength, 1) := by decide +kernel
theorem dX1_gapsOf_17 : decode cX1_gapsOf 17 = .ok (.if_icmp .ge 60, 3) := by decide +kernel
theorem dX1_gapsOf_20 : decode cX1_gapsOf 20 = .ok (.aload_n 0, 1) := by decide +kernel
theorem dX1_gapsOf_21 : decode cX1_gapsOf 21 = .ok (.getfield 24, 3) := by decide +kernel
theorem dX1_gapsOf_24 : decode cX1_gapsOf 24 = .ok (.iload_n 3, 1) := by decide +kernel
theorem dX1_gapsOf_25 : decode cX1_gapsOf 25 = .ok (.iconst 2, 1) := by decide +kernel
theorem dX1_gapsOf_26 : decode cX1_gapsOf 26 = .ok (.idiv, 1) := by decide +kernel
theorem dX1_gapsOf_27 : decode cX1_gapsOf 27 = .ok (.iaload, 1) := by decide +kernel
theorem dX1_gapsOf_28 : decode cX1_gapsOf 28 = .ok (.istore 4, 2) := by decide +kernel
theorem dX1_gapsOf_30 : decode cX1_gapsOf 30 = .ok (.aload_n 0, 1) := by decide +kernel
theorem dX1_gapsOf_31 : decode cX1_gapsOf 31 = .ok (.getfield 24, 3) := by decide +kernel
theorem dX1_gapsOf_34 : decode cX1_gapsOf 34 = .ok (.iload_n 3, 1) := by decide +kernel
theorem dX1_gapsOf_35 : decode cX1_gapsOf 35 = .ok (.aload_n 0, 1) := by decide +kernel
theorem dX1_gapsOf_36 : decode cX1_gapsOf 36 = .ok (.iload 4, 2) := by decide +kernel
theorem dX1_gapsOf_38 : decode cX1_gapsOf 38 = .ok (.invokevirtual 31, 3) := by decide +kernel
theorem dX1_gapsOf_41 : decode cX1_gapsOf 41 = .ok (.ifCond .eq 15, 3) := by decide +kernel
theorem dX1_gapsOf_44 : decode cX1_gapsOf 44 = .ok (.aload_n 0, 1) := by decide +kernel
theorem dX1_gapsOf_45 : decode cX1_gapsOf 45 = .ok (.iload 4, 2) := by decide +kernel
theorem dX1_gapsOf_47 : decode cX1_gapsOf 47 = .ok (.iload_n 3, 1) := by decide +kernel
theorem dX1_gapsOf_48 : decode cX1_gapsOf 48 = .ok (.iconst 2, 1) := by decide +kernel
theorem dX1_gapsOf_49 : decode cX1_gapsOf 49 = .ok (.irem, 1) := by decide +kernel
theorem dX1_gapsOf_50 : decode cX1_gapsOf 50 = .ok (.invokevirtual 47, 3) := by decide +kernel
theorem dX1_gapsOf_53 : decode cX1_gapsOf 53 = .ok (.goto 4, 3) := by decide +kernel
theorem dX1_gapsOf_56 : decode cX1_gapsOf 56 = .ok (.iconst (-1), 1) := by decide +kernel
theorem dX1_gapsOf_57 : decode cX1_gapsOf 57 = .ok (.iastore, 1) := by decide +kernel
theorem dX1_gapsOf_58 : decode cX1_gapsOf 58 = .ok (.aload_n 0, 1) := by decide +kernel
theorem dX1_gapsOf_59 : decode cX1_gapsOf 59 = .ok (.getfield 24, 3) := by decide +kernel
theorem dX1_gapsOf_62 : decode cX1_gapsOf 62 = .ok (.iload_n 3, 1) := by decide +kernel
theorem dX1_gapsOf_63 : decode cX1_gapsOf 63 = .ok (.iaload, 1) := by decide +kernel
theorem dX1_gapsOf_64 : decode cX1_gapsOf 64 = .ok (.iconst (-1), 1) := by decide +kernel
theorem dX1_gapsOf_65 : decode cX1_gapsOf 65 = .ok (.if_icmp .ne 6, 3) := by decide +kernel
theorem dX1_gapsOf_68 : decode cX1_gapsOf 68 = .ok (.iinc 2 1, 3) := by decide +kernel
theorem dX1_gapsOf_71 : decode cX1_gapsOf 71 = .ok (.iinc 3 1, 3) := by decide +kernel
theorem dX1_gapsOf_74 : decode cX1_gapsOf 74 = .ok (.goto (-63), 3) := by decide +kernel
theorem dX1_gapsOf_77 : decode cX1_gapsOf 77 = .ok (.iload_n 2, 1) := by decide +kernel
theorem dX1_gapsOf_78 : decode cX1_gapsOf 78 = .ok (.ireturn, 1) := by decide +kernel
theorem dX1_parentOf_0 : decode cX1_parentOf 0 = .ok (.iload_n 2, 1) := by decide +kernel
theorem dX1_parentOf_1 : decode cX1_parentOf 1 = .ok (.ifCond .ne 12, 3) := by decide +kernel
theorem dX1_parentOf_4 : decode cX1_parentOf 4 = .ok (.aload_n 0, 1) := by decide +kernel
theorem dX1_parentOf_5 : decode cX1_parentOf 5 = .ok (.getfield 9, 3) := by decide +kernel
theorem dX1_parentOf_8 : decode cX1_parentOf 8 = .ok (.iload_n 1, 1) := by decide +kernel
theorem dX1_parentOf_9 : decode cX1_parentOf 9 = .ok (.iaload, 1) := by decide +kernel
theorem dX1_parentOf_10 : decode cX1_parentOf 10 = .ok (.goto 9, 3) := by decide +kernel
theorem dX1_parentOf_13 : decode cX1_parentOf 13 = .ok (.aload_n 0, 1) := by decide +kernel
theorem dX1_parentOf_14 : decode cX1_parentOf 14 = .ok (.getfield 15, 3) := by decide +kernel
theorem dX1_parentOf_17 : decode cX1_parentOf 17 = .ok (.iload_n 1, 1) := by decide +kernel
theorem dX1_parentOf_18 : decode cX1_parentOf 18 = .ok (.iaload, 1) := by decide +kernel
theorem dX1_parentOf_19 : decode cX1_parentOf 19 = .ok (.ireturn, 1) := by decide +kernel
theorem dX2_init_0 : decode cX2_init 0 = .ok (.aload_n 0, 1) := by decide +kernel
theorem dX2_init_1 : decode cX2_init 1 = .ok (.invokespecial 3, 3) := by decide +kernel
theorem dX2_init_4 : decode cX2_init 4 = .ok (.aload_n 0, 1) := by decide +kernel
theorem dX2_init_5 : decode cX2_init 5 = .ok (.bipush 20, 2) := by decide +kernel
theorem dX2_init_7 : decode cX2_init 7 = .ok (.newarray .int, 2) := by decide +kernel
theorem dX2_init_9 : decode cX2_init 9 = .ok (.putfield 9, 3) := by decide +kernel
theorem dX2_init_12 : decode cX2_init 12 = .ok (.aload_n 0, 1) := by decide +kernel
theorem dX2_init_13 : decode cX2_init 13 = .ok (.bipush 20, 2) := by decide +kernel
theorem dX2_init_15 : decode cX2_init 15 = .ok (.newarray .int, 2) := by decide +kernel
theorem dX2_init_17 : decode cX2_init 17 = .ok (.putfield 15, 3) := by decide +kernel
theorem dX2_init_20 : decode cX2_init 20 = .ok (.aload_n 0, 1) := by decide +kernel
theorem dX2_init_21 : decode cX2_init 21 = .ok (.bipush 20, 2) := by decide +kernel
theorem dX2_init_23 : decode cX2_init 23 = .ok (.newarray .int, 2) := by decide +kernel
theorem dX2_init_25 : decode cX2_init 25 = .ok (.putfield 18, 3) := by decide +kernel
theorem dX2_init_28 : decode cX2_init 28 = .ok (.aload_n 0, 1) := by decide +kernel
theorem dX2_init_29 : decode cX2_init 29 = .ok (.iconst 0, 1) := by decide +kernel
theorem dX2_init_30 : decode cX2_init 30 = .ok (.putfield 21, 3) := by decide +kernel
theorem dX2_init_33 : decode cX2_init 33 = .ok (.return_, 1) := by decide +kernel
theorem dX2_add_0 : decode cX2_add 0 = .ok (.aload_n 0, 1) := by decide +kernel
theorem dX2_add_1 : decode cX2_add 1 = .ok (.getfield 21, 3) := by decide +kernel
theorem dX2_add_4 : decode cX2_add 4 = .ok (.bipush 20, 2) := by decide +kernel
theorem dX2_add_6 : decode cX2_add 6 = .ok (.if_icmp .lt 5, 3) := by decide +kernel
theorem dX2_add_9 : decode cX2_add 9 = .ok (.iconst (-1), 1) := by decide +kernel
theorem dX2_add_10 : decode cX2_add 10 = .ok (.ireturn, 1) := by decide +kernel
theorem dX2_add_11 : decode cX2_add 11 = .ok (.aload_n 0, 1) := by decide +kernel
theorem dX2_add_12 : decode cX2_add 12 = .ok (.getfield 9, 3) := by decide +kernel
theorem dX2_add_15 : decode cX2_add 15 = .ok (.aload_n 0, 1) := by decide +kernel
theorem dX2_add_16 : decode cX2_add 16 = .ok (.getfield 21, 3) := by decide +kernel
theorem dX2_add_19 : decode cX2_add 19 = .ok (.iload_n 1, 1) := by decide +kernel
theorem dX2_add_20 : decode cX2_add 20 = .ok (.iastore, 1) := by decide +kernel
theorem dX2_add_21 : decode cX2_add 21 = .ok (.aload_n 0, 1) := by decide +kernel
theorem dX2_add_22 : decode cX2_add 22 = .ok (.getfield 15, 3) := by decide +kernel
theorem dX2_add_25 : decode cX2_add 25 = .ok (.aload_n 0, 1) := by decide +kernel
theorem dX2_add_26 : decode cX2_add 26 = .ok (.getfield 21, 3) := by decide +kernel
theorem dX2_add_29 : decode cX2_add 29 = .ok (.iload_n 2, 1) := by decide +kernel
theorem dX2_add_30 : decode cX2_add 30 = .ok (.iastore, 1) := by decide +kernel
theorem dX2_add_31 : decode cX2_add 31 = .ok (.aload_n 0, 1) := by decide +kernel
theorem dX2_add_32 : decode cX2_add 32 = .ok (.getfield 18, 3) := by decide +kernel
theorem dX2_add_35 : decode cX2_add 35 = .ok (.aload_n 0, 1) := by decide +kernel
theorem dX2_add_36 : decode cX2_add 36 = .ok (.getfield 21, 3) := by decide +kernel
theorem dX2_add_39 : decode cX2_add 39 = .ok (.iload_n 3, 1) := by decide +kernel
theorem dX2_add_40 : decode cX2_add 40 = .ok (.iastore, 1) := by decide +kernel
theorem dX2_add_41 : decode cX2_add 41 = .ok (.aload_n 0, 1) := by decide +kernel
theorem dX2_add_42 : decode cX2_add 42 = .ok (.dup, 1) := by decide +kernel
theorem dX2_add_43 : decode cX2_add 43 = .ok (.getfield 21, 3) := by decide +kernel
theorem dX2_add_46 : decode cX2_add 46 = .ok (.iconst 1, 1) := by decide +kernel
theorem dX2_add_47 : decode cX2_add 47 = .ok (.iadd, 1) := by decide +kernel
theorem dX2_add_48 : decode cX2_add 48 = .ok (.putfield 21, 3) := by decide +kernel
theorem dX2_add_51 : decode cX2_add 51 = .ok (.aload_n 0, 1) := by decide +kernel
theorem dX2_add_52 : decode cX2_add 52 = .ok (.getfield 21, 3) := by decide +kernel
theorem dX2_add_55 : decode cX2_add 55 = .ok (.iconst 1, 1) := by decide +kernel
theorem dX2_add_56 : decode cX2_add 56 = .ok (.isub, 1) := by decide +kernel
theorem dX2_add_57 : decode cX2_add 57 = .ok (.ireturn, 1) := by decide +kernel
theorem dX3_init_0 : decode cX3_init 0 = .ok (.aload_n 0, 1) := by decide +kernel
theorem dX3_init_1 : decode cX3_init 1 = .ok (.invokespecial 3, 3) := by decide +kernel
theorem dX3_init_4 : decode cX3_init 4 = .ok (.aload_n 0, 1) := by decide +kernel
theorem dX3_init_5 : decode cX3_init 5 = .ok (.sipush 400, 3) := by decide +kernel
theorem dX3_init_8 : decode cX3_init 8 = .ok (.newarray .int, 2) := by decide +kernel
theorem dX3_init_10 : decode cX3_init 10 = .ok (.putfield 9, 3) := by decide +kernel
theorem dX3_init_13 : decode cX3_init 13 = .ok (.aload_n 0, 1) := by decide +kernel
theorem dX3_init_14 : decode cX3_init 14 = .ok (.bipush 16, 2) := by decide +kernel
theorem dX3_init_16 : decode cX3_init 16 = .ok (.newarray .int, 2) := by decide +kernel
theorem dX3_init_18 : decode cX3_init 18 = .ok (.putfield 15, 3) := by decide +kernel
theorem dX3_init_21 : decode cX3_init 21 = .ok (.aload_n 0, 1) := by decide +kernel
theorem dX3_init_22 : decode cX3_init 22 = .ok (.iconst 0, 1) := by decide +kernel
theorem dX3_init_23 : decode cX3_init 23 = .ok (.putfield 18, 3) := by decide +kernel
theorem dX3_init_26 : decode cX3_init 26 = .ok (.aload_n 0, 1) := by decide +kernel
theorem dX3_init_27 : decode cX3_init 27 = .ok (.iconst 0, 1) := by decide +kernel
theorem dX3_init_28 : decode cX3_init 28 = .ok (.putfield 22, 3) := by decide +kernel
theorem dX3_init_31 : decode cX3_init 31 = .ok (.aload_n 0, 1) := by decide +kernel
theorem dX3_init_32 : decode cX3_init 32 = .ok (.iconst 0, 1) := by decide +kernel
theorem dX3_init_33 : decode cX3_init 33 = .ok (.putfield 25, 3) := by decide +kernel
theorem dX3_init_36 : decode cX3_init 36 = .ok (.aload_n 0, 1) := by decide +kernel
theorem dX3_init_37 : decode cX3_init 37 = .ok (.iconst 0, 1) := by decide +kernel
theorem dX3_init_38 : decode cX3_init 38 = .ok (.putfield 28, 3) := by decide +kernel
theorem dX3_init_41 : decode cX3_init 41 = .ok (.aload_n 0, 1) := by decide +kernel
theorem dX3_init_42 : decode cX3_init 42 = .ok (.iconst 0, 1) := by decide +kernel
theorem dX3_init_43 : decode cX3_init 43 = .ok (.putfield 31, 3) := by decide +kernel
theorem dX3_init_46 : decode cX3_init 46 = .ok (.return_, 1) := by decide +kernel
theorem dX3_parse_0 : decode cX3_parse 0 = .ok (.aload_n 1, 1) := by decide +kernel
theorem dX3_parse_1 : decode cX3_parse 1 = .ok (.invokevirtual 34, 3) := by decide +kernel
theorem dX3_parse_4 : decode cX3_parse 4 = .ok (.aload_n 0, 1) := by decide +kernel
theorem dX3_parse_5 : decode cX3_parse 5 = .ok (.iconst 0, 1) := by decide +kernel
theorem dX3_parse_6 : decode cX3_parse 6 = .ok (.putfield 18, 3) := by decide +kernel
theorem dX3_parse_9 : decode cX3_parse 9 = .ok (.aload_n 0, 1) := by decide +kernel
theorem dX3_parse_10 : decode cX3_parse 10 = .ok (.iconst 0, 1) := by decide +kernel
theorem dX3_parse_11 : decode cX3_parse 11 = .ok (.putfield 22, 3) := by decide +kernel
theorem dX3_parse_14 : decode cX3_parse 14 = .ok (.aload_n 0, 1) := by decide +kernel
theorem dX3_parse_15 : decode cX3_parse 15 = .ok (.iconst 0, 1) := by decide +kernel
theorem dX3_parse_16 : decode cX3_parse 16 = .ok (.putfield 25, 3) := by decide +kernel
theorem dX3_parse_19 : decode cX3_parse 19 = .ok (.aload_n 0, 1) := by decide +kernel
theorem dX3_parse_20 : decode cX3_parse 20 = .ok (.iconst 0, 1) := by decide +kernel
theorem dX3_parse_21 : decode cX3_parse 21 = .ok (.putfield 31, 3) := by decide +kernel
theorem dX3_parse_24 : decode cX3_parse 24 = .ok (.iconst 0, 1) := by decide +kernel
theorem dX3_parse_25 : decode cX3_parse 25 = .ok (.istore_n 2, 1) := by decide +kernel
theorem dX3_parse_26 : decode cX3_parse 26 = .ok (.iload_n 2, 1) := by decide +kernel
theorem dX3_parse_27 : decode cX3_parse 27 = .ok (.sipush 400, 3) := by decide +kernel
theorem dX3_parse_30 : decode cX3_parse 30 = .ok (.if_icmp .gt 83, 3) := by decide +kernel
theorem dX3_parse_33 : decode cX3_parse 33 = .ok (.aload_n 1, 1) := by decide +kernel
theorem dX3_parse_34 : decode cX3_parse 34 = .ok (.invokevirtual 39, 3) := by decide +kernel
theorem dX3_parse_37 : decode cX3_parse 37 = .ok (.istore_n 3, 1) := by decide +kernel
theorem dX3_parse_38 : decode cX3_parse 38 = .ok (.iload_n 3, 1) := by decide +kernel
theorem dX3_parse_39 : decode cX3_parse 39 = .ok (.iconst (-1), 1) := by decide +kernel
theorem dX3_parse_40 : decode cX3_parse 40 = .ok (.if_icmp .ne 16, 3) := by decide +kernel
theorem dX3_parse_43 : decode cX3_parse 43 = .ok (.aload_n 0, 1) := by decide +kernel
theorem dX3_parse_44 : decode cX3_parse 44 = .ok (.getfield 25, 3) := by decide +kernel
theorem dX3_parse_47 : decode cX3_parse 47 = .ok (.ifCond .ne 7, 3) := by decide +kernel
theorem dX3_parse_50 : decode cX3_parse 50 = .ok (.iconst 0, 1) := by decide +kernel
theorem dX3_parse_51 : decode cX3_parse 51 = .ok (.goto 4, 3) := by decide +kernel
theorem dX3_parse_54 : decode cX3_parse 54 = .ok (.iconst 1, 1) := by decide +kernel
theorem dX3_parse_55 : decode cX3_parse 55 = .ok (.ireturn, 1) := by decide +kernel
theorem dX3_parse_56 : decode cX3_parse 56 = .ok (.aload_n 0, 1) := by decide +kernel
theorem dX3_parse_57 : decode cX3_parse 57 = .ok (.iload_n 3, 1) := by decide +kernel
theorem dX3_parse_58 : decode cX3_parse 58 = .ok (.invokevirtual 43, 3) := by decide +kernel
theorem dX3_parse_61 : decode cX3_parse 61 = .ok (.ifCond .ne 5, 3) := by decide +kernel
theorem dX3_parse_64 : decode cX3_parse 64 = .ok (.iconst 1, 1) := by decide +kernel
theorem dX3_parse_65 : decode cX3_parse 65 = .ok (.ireturn, 1) := by decide +kernel
theorem dX3_parse_66 : decode cX3_parse 66 = .ok (.iload_n 2, 1) := by decide +kernel
theorem dX3_parse_67 : decode cX3_parse 67 = .ok (.sipush 400, 3) := by decide +kernel
theorem dX3_parse_70 : decode cX3_parse 70 = .ok (.if_icmp .ge 21, 3) := by decide +kernel
theorem dX3_parse_73 : decode cX3_parse 73 = .ok (.aload_n 0, 1) := by decide +kernel
theorem dX3_parse_74 : decode cX3_parse 74 = .ok (.getfield 22, 3) := by decide +kernel
theorem dX3_parse_77 : decode cX3_parse 77 = .ok (.bipush 16, 2) := by decide +kernel
theorem dX3_parse_79 : decode cX3_parse 79 = .ok (.if_icmp .gt 12, 3) := by decide +kernel
theorem dX3_parse_82 : decode cX3_parse 82 = .ok (.aload_n 0, 1) := by decide +kernel
theorem dX3_parse_83 : decode cX3_parse 83 = .ok (.getfield 31, 3) := by decide +kernel
theorem dX3_parse_86 : decode cX3_parse 86 = .ok (.bipush 6, 2) := by decide +kernel
theorem dX3_parse_88 : decode cX3_parse 88 = .ok (.if_icmp .le 5, 3) := by decide +kernel
theorem dX3_parse_91 : decode cX3_parse 91 = .ok (.iconst 2, 1) := by decide +kernel
theorem dX3_parse_92 : decode cX3_parse 92 = .ok (.ireturn, 1) := by decide +kernel
theorem dX3_parse_93 : decode cX3_parse 93 = .ok (.aload_n 0, 1) := by decide +kernel
theorem dX3_parse_94 : decode cX3_parse 94 = .ok (.getfield 9, 3) := by decide +kernel
theorem dX3_parse_97 : decode cX3_parse 97 = .ok (.iload_n 2, 1) := by decide +kernel
theorem dX3_parse_98 : decode cX3_parse 98 = .ok (.iload_n 3, 1) := by decide +kernel
theorem dX3_parse_99 : decode cX3_parse 99 = .ok (.iastore, 1) := by decide +kernel
theorem dX3_parse_100 : decode cX3_parse 100 = .ok (.aload_n 0, 1) := by decide +kernel
theorem dX3_parse_101 : decode cX3_parse 101 = .ok (.iload_n 2, 1) := by decide +kernel
theorem dX3_parse_102 : decode cX3_parse 102 = .ok (.iconst 1, 1) := by decide +kernel
theorem dX3_parse_103 : decode cX3_parse 103 = .ok (.iadd, 1) := by decide +kernel
theorem dX3_parse_104 : decode cX3_parse 104 = .ok (.putfield 18, 3) := by decide +kernel
theorem dX3_parse_107 : decode cX3_parse 107 = .ok (.iinc 2 1, 3) := by decide +kernel
theorem dX3_parse_110 : decode cX3_parse 110 = .ok (.goto (-84), 3) := by decide +kernel
theorem dX3_parse_113 : decode cX3_parse 113 = .ok (.iconst 2, 1) := by decide +kernel
theorem dX3_parse_114 : decode cX3_parse 114 = .ok (.ireturn, 1) := by decide +kernel
theorem dX3_toLaw_0 : decode cX3_toLaw 0 = .ok (.aload_n 0, 1) := by decide +kernel
theorem dX3_toLaw_1 : decode cX3_toLaw 1 = .ok (.getfield 15, 3) := by decide +kernel
theorem dX3_toLaw_4 : decode cX3_toLaw 4 = .ok (.aload_n 0, 1) := by decide +kernel
theorem dX3_toLaw_5 : decode cX3_toLaw 5 = .ok (.getfield 22, 3) := by decide +kernel
theorem dX3_toLaw_8 : decode cX3_toLaw 8 = .ok (.bipush 16, 2) := by decide +kernel
theorem dX3_toLaw_10 : decode cX3_toLaw 10 = .ok (.invokestatic 47, 3) := by decide +kernel
theorem dX3_toLaw_13 : decode cX3_toLaw 13 = .ok (.invokestatic 53, 3) := by decide +kernel
theorem dX3_toLaw_16 : decode cX3_toLaw 16 = .ok (.astore_n 3, 1) := by decide +kernel
theorem dX3_toLaw_17 : decode cX3_toLaw 17 = .ok (.new 59, 3) := by decide +kernel
theorem dX3_toLaw_20 : decode cX3_toLaw 20 = .ok (.dup, 1) := by decide +kernel
theorem dX3_toLaw_21 : decode cX3_toLaw 21 = .ok (.iload_n 1, 1) := by decide +kernel
theorem dX3_toLaw_22 : decode cX3_toLaw 22 = .ok (.iload_n 2, 1) := by decide +kernel
theorem dX3_toLaw_23 : decode cX3_toLaw 23 = .ok (.aload_n 0, 1) := by decide +kernel
theorem dX3_toLaw_24 : decode cX3_toLaw 24 = .ok (.getfield 9, 3) := by decide +kernel
theorem dX3_toLaw_27 : decode cX3_toLaw 27 = .ok (.aload_n 0, 1) := by decide +kernel
theorem dX3_toLaw_28 : decode cX3_toLaw 28 = .ok (.getfield 18, 3) := by decide +kernel
theorem dX3_toLaw_31 : decode cX3_toLaw 31 = .ok (.invokestatic 53, 3) := by decide +kernel
theorem dX3_toLaw_34 : decode cX3_toLaw 34 = .ok (.aload_n 3, 1) := by decide +kernel
theorem dX3_toLaw_35 : decode cX3_toLaw 35 = .ok (.invokespecial 61, 3) := by decide +kernel
theorem dX3_toLaw_38 : decode cX3_toLaw 38 = .ok (.areturn, 1) := by decide +kernel
theorem dX3_goesOn_0 : decode cX3_goesOn 0 = .ok (.aload_n 0, 1) := by decide +kernel
theorem dX3_goesOn_1 : decode cX3_goesOn 1 = .ok (.getfield 25, 3) := by decide +kernel
theorem dX3_goesOn_4 : decode cX3_goesOn 4 = .ok (.tableswitch 99 0 4 #[36, 42, 65, 75, 93], 36) := by decide +kernel
theorem dX3_goesOn_40 : decode cX3_goesOn 40 = .ok (.aload_n 0, 1) := by decide +kernel
theorem dX3_goesOn_41 : decode cX3_goesOn 41 = .ok (.iload_n 1, 1) := by decide +kernel
theorem dX3_goesOn_42 : decode cX3_goesOn 42 = .ok (.invokevirtual 64, 3) := by decide +kernel
theorem dX3_goesOn_45 : decode cX3_goesOn 45 = .ok (.ireturn, 1) := by decide +kernel
theorem dX3_goesOn_46 : decode cX3_goesOn 46 = .ok (.aload_n 0, 1) := by decide +kernel
theorem dX3_goesOn_47 : decode cX3_goesOn 47 = .ok (.iconst 0, 1) := by decide +kernel
theorem dX3_goesOn_48 : decode cX3_goesOn 48 = .ok (.putfield 28, 3) := by decide +kernel
theorem dX3_goesOn_51 : decode cX3_goesOn 51 = .ok (.aload_n 0, 1) := by decide +kernel
theorem dX3_goesOn_52 : decode cX3_goesOn 52 = .ok (.iconst 4, 1) := by decide +kernel
theorem dX3_goesOn_53 : decode cX3_goesOn 53 = .ok (.putfield 25, 3) := by decide +kernel
theorem dX3_goesOn_56 : decode cX3_goesOn 56 = .ok (.iload_n 1, 1) := by decide +kernel
theorem dX3_goesOn_57 : decode cX3_goesOn 57 = .ok (.sipush 10005, 3) := by decide +kernel
theorem dX3_goesOn_60 : decode cX3_goesOn 60 = .ok (.if_icmp .ne 7, 3) := by decide +kernel
theorem dX3_goesOn_63 : decode cX3_goesOn 63 = .ok (.iconst 1, 1) := by decide +kernel
theorem dX3_goesOn_64 : decode cX3_goesOn 64 = .ok (.goto 4, 3) := by decide +kernel
theorem dX3_goesOn_67 : decode cX3_goesOn 67 = .ok (.iconst 0, 1) := by decide +kernel
theorem dX3_goesOn_68 : decode cX3_goesOn 68 = .ok (.ireturn, 1) := by decide +kernel
theorem dX3_goesOn_69 : decode cX3_goesOn 69 = .ok (.aload_n 0, 1) := by decide +kernel
theorem dX3_goesOn_70 : decode cX3_goesOn 70 = .ok (.iconst 3, 1) := by decide +kernel
theorem dX3_goesOn_71 : decode cX3_goesOn 71 = .ok (.putfield 25, 3) := by decide +kernel
theorem dX3_goesOn_74 : decode cX3_goesOn 74 = .ok (.iload_n 1, 1) := by decide +kernel
theorem dX3_goesOn_75 : decode cX3_goesOn 75 = .ok (.invokestatic 67, 3) := by decide +kernel
theorem dX3_goesOn_78 : decode cX3_goesOn 78 = .ok (.ireturn, 1) := by decide +kernel
theorem dX3_goesOn_79 : decode cX3_goesOn 79 = .ok (.aload_n 0, 1) := by decide +kernel
theorem dX3_goesOn_80 : decode cX3_goesOn 80 = .ok (.iconst 0, 1) := by decide +kernel
theorem dX3_goesOn_81 : decode cX3_goesOn 81 = .ok (.putfield 25, 3) := by decide +kernel
theorem dX3_goesOn_84 : decode cX3_goesOn 84 = .ok (.iload_n 1, 1) := by decide +kernel
theorem dX3_goesOn_85 : decode cX3_goesOn 85 = .ok (.sipush 10020, 3) := by decide +kernel
theorem dX3_goesOn_88 : decode cX3_goesOn 88 = .ok (.if_icmp .ne 7, 3) := by decide +kernel
theorem dX3_goesOn_91 : decode cX3_goesOn 91 = .ok (.iconst 1, 1) := by decide +kernel
theorem dX3_goesOn_92 : decode cX3_goesOn 92 = .ok (.goto 4, 3) := by decide +kernel
theorem dX3_goesOn_95 : decode cX3_goesOn 95 = .ok (.iconst 0, 1) := by decide +kernel
theorem dX3_goesOn_96 : decode cX3_goesOn 96 = .ok (.ireturn, 1) := by decide +kernel
theorem dX3_goesOn_97 : decode cX3_goesOn 97 = .ok (.aload_n 0, 1) := by decide +kernel
theorem dX3_goesOn_98 : decode cX3_goesOn 98 = .ok (.iload_n 1, 1) := by decide +kernel
theorem dX3_goesOn_99 : decode cX3_goesOn 99 = .ok (.invokevirtual 70, 3) := by decide +kernel
theorem dX3_goesOn_102 : decode cX3_goesOn 102 = .ok (.ireturn, 1) := by decide +kernel
theorem dX3_goesOn_103 : decode cX3_goesOn 103 = .ok (.aload_n 0, 1) := by decide +kernel
theorem dX3_goesOn_104 : decode cX3_goesOn 104 = .ok (.iload_n 1, 1) := by decide +kernel
theorem dX3_goesOn_105 : decode cX3_goesOn 105 = .ok (.invokevirtual 73, 3) := by decide +kernel
theorem dX3_goesOn_108 : decode cX3_goesOn 108 = .ok (.ireturn, 1) := by decide +kernel
theorem dX3_begins_0 : decode cX3_begins 0 = .ok (.aload_n 0, 1) := by decide +kernel
theorem dX3_begins_1 : decode cX3_begins 1 = .ok (.getfield 22, 3) := by decide +kernel
theorem dX3_begins_4 : decode cX3_begins 4 = .ok (.bipush 16, 2) := by decide +kernel
theorem dX3_begins_6 : decode cX3_begins 6 = .ok (.if_icmp .ge 16, 3) := by decide +kernel
theorem dX3_begins_9 : decode cX3_begins 9 = .ok (.aload_n 0, 1) := by decide +kernel
theorem dX3_begins_10 : decode cX3_begins 10 = .ok (.getfield 15, 3) := by decide +kernel
theorem dX3_begins_13 : decode cX3_begins 13 = .ok (.aload_n 0, 1) := by decide +kernel
theorem dX3_begins_14 : decode cX3_begins 14 = .ok (.getfield 22, 3) := by decide +kernel
theorem dX3_begins_17 : decode cX3_begins 17 = .ok (.aload_n 0, 1) := by decide +kernel
theorem dX3_begins_18 : decode cX3_begins 18 = .ok (.getfield 18, 3) := by decide +kernel
theorem dX3_begins_21 : decode cX3_begins 21 = .ok (.iastore, 1) := by decide +kernel
theorem dX3_begins_22 : decode cX3_begins 22 = .ok (.aload_n 0, 1) := by decide +kernel
theorem dX3_begins_23 : decode cX3_begins 23 = .ok (.dup, 1) := by decide +kernel
theorem dX3_begins_24 : decode cX3_begins 24 = .ok (.getfield 22, 3) := by decide +kernel
theorem dX3_begins_27 : decode cX3_begins 27 = .ok (.iconst 1, 1) := by decide +kernel
theorem dX3_begins_28 : decode cX3_begins 28 = .ok (.iadd, 1) := by decide +kernel
theorem dX3_begins_29 : decode cX3_begins 29 = .ok (.putfield 22, 3) := by decide +kernel
theorem dX3_begins_32 : decode cX3_begins 32 = .ok (.iload_n 1, 1) := by decide +kernel
theorem dX3_begins_33 : decode cX3_begins 33 = .ok (.sipush 10003, 3) := by decide +kernel
theorem dX3_begins_36 : decode cX3_begins 36 = .ok (.if_icmp .ne 10, 3) := by decide +kernel
theorem dX3_begins_39 : decode cX3_begins 39 = .ok (.aload_n 0, 1) := by decide +kernel
theorem dX3_begins_40 : decode cX3_begins 40 = .ok (.iconst 2, 1) := by decide +kernel
theorem dX3_begins_41 : decode cX3_begins 41 = .ok (.putfield 25, 3) := by decide +kernel
theorem dX3_begins_44 : decode cX3_begins 44 = .ok (.iconst 1, 1) := by decide +kernel
theorem dX3_begins_45 : decode cX3_begins 45 = .ok (.ireturn, 1) := by decide +kernel
theorem dX3_begins_46 : decode cX3_begins 46 = .ok (.iload_n 1, 1) := by decide +kernel
theorem dX3_begins_47 : decode cX3_begins 47 = .ok (.sipush 10004, 3) := by decide +kernel
theorem dX3_begins_50 : decode cX3_begins 50 = .ok (.if_icmp .ne 15, 3) := by decide +kernel
theorem dX3_begins_53 : decode cX3_begins 53 = .ok (.aload_n 0, 1) := by decide +kernel
theorem dX3_begins_54 : decode cX3_begins 54 = .ok (.iconst 2, 1) := by decide +kernel
theorem dX3_begins_55 : decode cX3_begins 55 = .ok (.putfield 28, 3) := by decide +kernel
theorem dX3_begins_58 : decode cX3_begins 58 = .ok (.aload_n 0, 1) := by decide +kernel
theorem dX3_begins_59 : decode cX3_begins 59 = .ok (.iconst 4, 1) := by decide +kernel
theorem dX3_begins_60 : decode cX3_begins 60 = .ok (.putfield 25, 3) := by decide +kernel
theorem dX3_begins_63 : decode cX3_begins 63 = .ok (.iconst 1, 1) := by decide +kernel
theorem dX3_begins_64 : decode cX3_begins 64 = .ok (.ireturn, 1) := by decide +kernel
theorem dX3_begins_65 : decode cX3_begins 65 = .ok (.aload_n 0, 1) := by decide +kernel
theorem dX3_begins_66 : decode cX3_begins 66 = .ok (.iconst 1, 1) := by decide +kernel
theorem dX3_begins_67 : decode cX3_begins 67 = .ok (.putfield 25, 3) := by decide +kernel
theorem dX3_begins_70 : decode cX3_begins 70 = .ok (.iload_n 1, 1) := by decide +kernel
theorem dX3_begins_71 : decode cX3_begins 71 = .ok (.sipush 10000, 3) := by decide +kernel
theorem dX3_begins_74 : decode cX3_begins 74 = .ok (.if_icmp .eq 17, 3) := by decide +kernel
theorem dX3_begins_77 : decode cX3_begins 77 = .ok (.iload_n 1, 1) := by decide +kernel
theorem dX3_begins_78 : decode cX3_begins 78 = .ok (.sipush 10001, 3) := by decide +kernel
theorem dX3_begins_81 : decode cX3_begins 81 = .ok (.if_icmp .eq 10, 3) := by decide +kernel
theorem dX3_begins_84 : decode cX3_begins 84 = .ok (.iload_n 1, 1) := by decide +kernel
theorem dX3_begins_85 : decode cX3_begins 85 = .ok (.sipush 10002, 3) := by decide +kernel
theorem dX3_begins_88 : decode cX3_begins 88 = .ok (.if_icmp .ne 7, 3) := by decide +kernel
theorem dX3_begins_91 : decode cX3_begins 91 = .ok (.iconst 1, 1) := by decide +kernel
theorem dX3_begins_92 : decode cX3_begins 92 = .ok (.goto 4, 3) := by decide +kernel
theorem dX3_begins_95 : decode cX3_begins 95 = .ok (.iconst 0, 1) := by decide +kernel
theorem dX3_begins_96 : decode cX3_begins 96 = .ok (.ireturn, 1) := by decide +kernel
theorem dX3_isUnit_0 : decode cX3_isUnit 0 = .ok (.iload_n 1, 1) := by decide +kernel
theorem dX3_isUnit_1 : decode cX3_isUnit 1 = .ok (.sipush 10028, 3) := by decide +kernel
theorem dX3_isUnit_4 : decode cX3_isUnit 4 = .ok (.if_icmp .ne 15, 3) := by decide +kernel
theorem dX3_isUnit_7 : decode cX3_isUnit 7 = .ok (.aload_n 0, 1) := by decide +kernel
theorem dX3_isUnit_8 : decode cX3_isUnit 8 = .ok (.dup, 1) := by decide +kernel
theorem dX3_isUnit_9 : decode cX3_isUnit 9 = .ok (.getfield 31, 3) := by decide +kernel
theorem dX3_isUnit_12 : decode cX3_isUnit 12 = .ok (.iconst 1, 1) := by decide +kernel
theorem dX3_isUnit_13 : decode cX3_isUnit 13 = .ok (.iadd, 1) := by decide +kernel
theorem dX3_isUnit_14 : decode cX3_isUnit 14 = .ok (.putfield 31, 3) := by decide +kernel
theorem dX3_isUnit_17 : decode cX3_isUnit 17 = .ok (.iconst 1, 1) := by decide +kernel
theorem dX3_isUnit_18 : decode cX3_isUnit 18 = .ok (.ireturn, 1) := by decide +kernel
theorem dX3_isUnit_19 : decode cX3_isUnit 19 = .ok (.aload_n 0, 1) := by decide +kernel
theorem dX3_isUnit_20 : decode cX3_isUnit 20 = .ok (.iconst 5, 1) := by decide +kernel
theorem dX3_isUnit_21 : decode cX3_isUnit 21 = .ok (.putfield 25, 3) := by decide +kernel
theorem dX3_isUnit_24 : decode cX3_isUnit 24 = .ok (.iload_n 1, 1) := by decide +kernel
theorem dX3_isUnit_25 : decode cX3_isUnit 25 = .ok (.invokestatic 67, 3) := by decide +kernel
theorem dX3_isUnit_28 : decode cX3_isUnit 28 = .ok (.ifCond .ne 10, 3) := by decide +kernel
theorem dX3_isUnit_31 : decode cX3_isUnit 31 = .ok (.iload_n 1, 1) := by decide +kernel
theorem dX3_isUnit_32 : decode cX3_isUnit 32 = .ok (.invokestatic 76, 3) := by decide +kernel
theorem dX3_isUnit_35 : decode cX3_isUnit 35 = .ok (.ifCond .eq 7, 3) := by decide +kernel
theorem dX3_isUnit_38 : decode cX3_isUnit 38 = .ok (.iconst 1, 1) := by decide +kernel
theorem dX3_isUnit_39 : decode cX3_isUnit 39 = .ok (.goto 4, 3) := by decide +kernel
theorem dX3_isUnit_42 : decode cX3_isUnit 42 = .ok (.iconst 0, 1) := by decide +kernel
theorem dX3_isUnit_43 : decode cX3_isUnit 43 = .ok (.ireturn, 1) := by decide +kernel
theorem dX3_goesBehindUnit_0 : decode cX3_goesBehindUnit 0 = .ok (.iload_n 1, 1) := by decide +kernel
theorem dX3_goesBehindUnit_1 : decode cX3_goesBehindUnit 1 = .ok (.sipush 10029, 3) := by decide +kernel
theorem dX3_goesBehindUnit_4 : decode cX3_goesBehindUnit 4 = .ok (.if_icmp .ne 26, 3) := by decide +kernel
theorem dX3_goesBehindUnit_7 : decode cX3_goesBehindUnit 7 = .ok (.aload_n 0, 1) := by decide +kernel
theorem dX3_goesBehindUnit_8 : decode cX3_goesBehindUnit 8 = .ok (.dup, 1) := by decide +kernel
theorem dX3_goesBehindUnit_9 : decode cX3_goesBehindUnit 9 = .ok (.getfield 31, 3) := by decide +kernel
theorem dX3_goesBehindUnit_12 : decode cX3_goesBehindUnit 12 = .ok (.iconst 1, 1) := by decide +kernel
theorem dX3_goesBehindUnit_13 : decode cX3_goesBehindUnit 13 = .ok (.isub, 1) := by decide +kernel
theorem dX3_goesBehindUnit_14 : decode cX3_goesBehindUnit 14 = .ok (.putfield 31, 3) := by decide +kernel
theorem dX3_goesBehindUnit_17 : decode cX3_goesBehindUnit 17 = .ok (.aload_n 0, 1) := by decide +kernel
theorem dX3_goesBehindUnit_18 : decode cX3_goesBehindUnit 18 = .ok (.getfield 31, 3) := by decide +kernel
theorem dX3_goesBehindUnit_21 : decode cX3_goesBehindUnit 21 = .ok (.ifCond .lt 7, 3) := by decide +kernel
theorem dX3_goesBehindUnit_24 : decode cX3_goesBehindUnit 24 = .ok (.iconst 1, 1) := by decide +kernel
theorem dX3_goesBehindUnit_25 : decode cX3_goesBehindUnit 25 = .ok (.goto 4, 3) := by decide +kernel
theorem dX3_goesBehindUnit_28 : decode cX3_goesBehindUnit 28 = .ok (.iconst 0, 1) := by decide +kernel
theorem dX3_goesBehindUnit_29 : decode cX3_goesBehindUnit 29 = .ok (.ireturn, 1) := by decide +kernel
theorem dX3_goesBehindUnit_30 : decode cX3_goesBehindUnit 30 = .ok (.iload_n 1, 1) := by decide +kernel
theorem dX3_goesBehindUnit_31 : decode cX3_goesBehindUnit 31 = .ok (.sipush 10021, 3) := by decide +kernel
theorem dX3_goesBehindUnit_34 : decode cX3_goesBehindUnit 34 = .ok (.if_icmp .eq 17, 3) := by decide +kernel
theorem dX3_goesBehindUnit_37 : decode cX3_goesBehindUnit 37 = .ok (.iload_n 1, 1) := by decide +kernel
theorem dX3_goesBehindUnit_38 : decode cX3_goesBehindUnit 38 = .ok (.sipush 10022, 3) := by decide +kernel
theorem dX3_goesBehindUnit_41 : decode cX3_goesBehindUnit 41 = .ok (.if_icmp .eq 10, 3) := by decide +kernel
theorem dX3_goesBehindUnit_44 : decode cX3_goesBehindUnit 44 = .ok (.iload_n 1, 1) := by decide +kernel
theorem dX3_goesBehindUnit_45 : decode cX3_goesBehindUnit 45 = .ok (.sipush 10023, 3) := by decide +kernel
theorem dX3_goesBehindUnit_48 : decode cX3_goesBehindUnit 48 = .ok (.if_icmp .ne 10, 3) := by decide +kernel
theorem dX3_goesBehindUnit_51 : decode cX3_goesBehindUnit 51 = .ok (.aload_n 0, 1) := by decide +kernel
theorem dX3_goesBehindUnit_52 : decode cX3_goesBehindUnit 52 = .ok (.iconst 4, 1) := by decide +kernel
theorem dX3_goesBehindUnit_53 : decode cX3_goesBehindUnit 53 = .ok (.putfield 25, 3) := by decide +kernel
theorem dX3_goesBehindUnit_56 : decode cX3_goesBehindUnit 56 = .ok (.iconst 1, 1) := by decide +kernel
theorem dX3_goesBehindUnit_57 : decode cX3_goesBehindUnit 57 = .ok (.ireturn, 1) := by decide +kernel
theorem dX3_goesBehindUnit_58 : decode cX3_goesBehindUnit 58 = .ok (.aload_n 0, 1) := by decide +kernel
theorem dX3_goesBehindUnit_59 : decode cX3_goesBehindUnit 59 = .ok (.getfield 31, 3) := by decide +kernel
theorem dX3_goesBehindUnit_62 : decode cX3_goesBehindUnit 62 = .ok (.ifCond .ne 15, 3) := by decide +kernel
theorem dX3_goesBehindUnit_65 : decode cX3_goesBehindUnit 65 = .ok (.aload_n 0, 1) := by decide +kernel
theorem dX3_goesBehindUnit_66 : decode cX3_goesBehindUnit 66 = .ok (.iload_n 1, 1) := by decide +kernel
theorem dX3_goesBehindUnit_67 : decode cX3_goesBehindUnit 67 = .ok (.invokevirtual 79, 3) := by decide +kernel
theorem dX3_goesBehindUnit_70 : decode cX3_goesBehindUnit 70 = .ok (.ifCond .eq 7, 3) := by decide +kernel
theorem dX3_goesBehindUnit_73 : decode cX3_goesBehindUnit 73 = .ok (.iconst 1, 1) := by decide +kernel
theorem dX3_goesBehindUnit_74 : decode cX3_goesBehindUnit 74 = .ok (.goto 4, 3) := by decide +kernel
theorem dX3_goesBehindUnit_77 : decode cX3_goesBehindUnit 77 = .ok (.iconst 0, 1) := by decide +kernel
theorem dX3_goesBehindUnit_78 : decode cX3_goesBehindUnit 78 = .ok (.ireturn, 1) := by decide +kernel
theorem dX3_goesBehindE_0 : decode cX3_goesBehindE 0 = .ok (.iload_n 1, 1) := by decide +kernel
theorem dX3_goesBehindE_1 : decode cX3_goesBehindE 1 = .ok (.sipush 10020, 3) := by decide +kernel
theorem dX3_goesBehindE_4 : decode cX3_goesBehindE 4 = .ok (.if_icmp .ne 21, 3) := by decide +kernel
theorem dX3_goesBehindE_7 : decode cX3_goesBehindE 7 = .ok (.aload_n 0, 1) := by decide +kernel
theorem dX3_goesBehindE_8 : decode cX3_goesBehindE 8 = .ok (.iconst 0, 1) := by decide +kernel
theorem dX3_goesBehindE_9 : decode cX3_goesBehindE 9 = .ok (.putfield 25, 3) := by decide +kernel
theorem dX3_goesBehindE_12 : decode cX3_goesBehindE 12 = .ok (.aload_n 0, 1) := by decide +kernel
theorem dX3_goesBehindE_13 : decode cX3_goesBehindE 13 = .ok (.getfield 28, 3) := by decide +kernel
theorem dX3_goesBehindE_16 : decode cX3_goesBehindE 16 = .ok (.ifCond .eq 7, 3) := by decide +kernel
theorem dX3_goesBehindE_19 : decode cX3_goesBehindE 19 = .ok (.iconst 1, 1) := by decide +kernel
theorem dX3_goesBehindE_20 : decode cX3_goesBehindE 20 = .ok (.goto 4, 3) := by decide +kernel
theorem dX3_goesBehindE_23 : decode cX3_goesBehindE 23 = .ok (.iconst 0, 1) := by decide +kernel
theorem dX3_goesBehindE_24 : decode cX3_goesBehindE 24 = .ok (.ireturn, 1) := by decide +kernel
theorem dX3_goesBehindE_25 : decode cX3_goesBehindE 25 = .ok (.aload_n 0, 1) := by decide +kernel
theorem dX3_goesBehindE_26 : decode cX3_goesBehindE 26 = .ok (.iconst 4, 1) := by decide +kernel
theorem dX3_goesBehindE_27 : decode cX3_goesBehindE 27 = .ok (.putfield 25, 3) := by decide +kernel
theorem dX3_goesBehindE_30 : decode cX3_goesBehindE 30 = .ok (.aload_n 0, 1) := by decide +kernel
theorem dX3_goesBehindE_31 : decode cX3_goesBehindE 31 = .ok (.getfield 28, 3) := by decide +kernel
theorem dX3_goesBehindE_34 : decode cX3_goesBehindE 34 = .ok (.ifCond .ne 28, 3) := by decide +kernel
theorem dX3_goesBehindE_37 : decode cX3_goesBehindE 37 = .ok (.aload_n 0, 1) := by decide +kernel
theorem dX3_goesBehindE_38 : decode cX3_goesBehindE 38 = .ok (.iconst 1, 1) := by decide +kernel
theorem dX3_goesBehindE_39 : decode cX3_goesBehindE 39 = .ok (.putfield 28, 3) := by decide +kernel
theorem dX3_goesBehindE_42 : decode cX3_goesBehindE 42 = .ok (.iload_n 1, 1) := by decide +kernel
theorem dX3_goesBehindE_43 : decode cX3_goesBehindE 43 = .ok (.sipush 10024, 3) := by decide +kernel
theorem dX3_goesBehindE_46 : decode cX3_goesBehindE 46 = .ok (.if_icmp .lt 14, 3) := by decide +kernel
theorem dX3_goesBehindE_49 : decode cX3_goesBehindE 49 = .ok (.iload_n 1, 1) := by decide +kernel
theorem dX3_goesBehindE_50 : decode cX3_goesBehindE 50 = .ok (.sipush 10027, 3) := by decide +kernel
theorem dX3_goesBehindE_53 : decode cX3_goesBehindE 53 = .ok (.if_icmp .gt 7, 3) := by decide +kernel
theorem dX3_goesBehindE_56 : decode cX3_goesBehindE 56 = .ok (.iconst 1, 1) := by decide +kernel
theorem dX3_goesBehindE_57 : decode cX3_goesBehindE 57 = .ok (.goto 4, 3) := by decide +kernel
theorem dX3_goesBehindE_60 : decode cX3_goesBehindE 60 = .ok (.iconst 0, 1) := by decide +kernel
theorem dX3_goesBehindE_61 : decode cX3_goesBehindE 61 = .ok (.ireturn, 1) := by decide +kernel
theorem dX3_goesBehindE_62 : decode cX3_goesBehindE 62 = .ok (.aload_n 0, 1) := by decide +kernel
theorem dX3_goesBehindE_63 : decode cX3_goesBehindE 63 = .ok (.getfield 28, 3) := by decide +kernel
theorem dX3_goesBehindE_66 : decode cX3_goesBehindE 66 = .ok (.iconst 2, 1) := by decide +kernel
theorem dX3_goesBehindE_67 : decode cX3_goesBehindE 67 = .ok (.if_icmp .ne 7, 3) := by decide +kernel
theorem dX3_goesBehindE_70 : decode cX3_goesBehindE 70 = .ok (.iconst 1, 1) := by decide +kernel
theorem dX3_goesBehindE_71 : decode cX3_goesBehindE 71 = .ok (.goto 4, 3) := by decide +kernel
theorem dX3_goesBehindE_74 : decode cX3_goesBehindE 74 = .ok (.iconst 0, 1) := by decide +kernel
theorem dX3_goesBehindE_75 : decode cX3_goesBehindE 75 = .ok (.istore_n 2, 1) := by decide +kernel
theorem dX3_goesBehindE_76 : decode cX3_goesBehindE 76 = .ok (.aload_n 0, 1) := by decide +kernel
theorem dX3_goesBehindE_77 : decode cX3_goesBehindE 77 = .ok (.iconst 0, 1) := by decide +kernel
theorem dX3_goesBehindE_78 : decode cX3_goesBehindE 78 = .ok (.putfield 28, 3) := by decide +kernel
theorem dX3_goesBehindE_81 : decode cX3_goesBehindE 81 = .ok (.iload_n 2, 1) := by decide +kernel
theorem dX3_goesBehindE_82 : decode cX3_goesBehindE 82 = .ok (.ifCond .eq 18, 3) := by decide +kernel
theorem dX3_goesBehindE_85 : decode cX3_goesBehindE 85 = .ok (.iload_n 1, 1) := by decide +kernel
theorem dX3_goesBehindE_86 : decode cX3_goesBehindE 86 = .ok (.sipush 10005, 3) := by decide +kernel
theorem dX3_goesBehindE_89 : decode cX3_goesBehindE 89 = .ok (.if_icmp .ne 7, 3) := by decide +kernel
theorem dX3_goesBehindE_92 : decode cX3_goesBehindE 92 = .ok (.iconst 1, 1) := by decide +kernel
theorem dX3_goesBehindE_93 : decode cX3_goesBehindE 93 = .ok (.goto 26, 3) := by decide +kernel
theorem dX3_goesBehindE_96 : decode cX3_goesBehindE 96 = .ok (.iconst 0, 1) := by decide +kernel
theorem dX3_goesBehindE_97 : decode cX3_goesBehindE 97 = .ok (.goto 22, 3) := by decide +kernel
theorem dX3_goesBehindE_100 : decode cX3_goesBehindE 100 = .ok (.iload_n 1, 1) := by decide +kernel
theorem dX3_goesBehindE_101 : decode cX3_goesBehindE 101 = .ok (.sipush 10007, 3) := by decide +kernel
theorem dX3_goesBehindE_104 : decode cX3_goesBehindE 104 = .ok (.if_icmp .eq 10, 3) := by decide +kernel
theorem dX3_goesBehindE_107 : decode cX3_goesBehindE 107 = .ok (.iload_n 1, 1) := by decide +kernel
theorem dX3_goesBehindE_108 : decode cX3_goesBehindE 108 = .ok (.sipush 10006, 3) := by decide +kernel
theorem dX3_goesBehindE_111 : decode cX3_goesBehindE 111 = .ok (.if_icmp .ne 7, 3) := by decide +kernel
theorem dX3_goesBehindE_114 : decode cX3_goesBehindE 114 = .ok (.iconst 1, 1) := by decide +kernel
theorem dX3_goesBehindE_115 : decode cX3_goesBehindE 115 = .ok (.goto 4, 3) := by decide +kernel
theorem dX3_goesBehindE_118 : decode cX3_goesBehindE 118 = .ok (.iconst 0, 1) := by decide +kernel
theorem dX3_goesBehindE_119 : decode cX3_goesBehindE 119 = .ok (.ireturn, 1) := by decide +kernel
end
section
theorem dX4_init_0 : decode cX4_init 0 = .ok (.aload_n 0, 1) := by decide +kernel
theorem dX4_init_1 : decode cX4_init 1 = .ok (.invokespecial 3, 3) := by decide +kernel
theorem dX4_init_4 : decode cX4_init 4 = .ok (.aload_n 0, 1) := by decide +kernel
theorem dX4_init_5 : decode cX4_init 5 = .ok (.new 9, 3) := by decide +kernel
theorem dX4_init_8 : decode cX4_init 8 = .ok (.dup, 1) := by decide +kernel
theorem dX4_init_9 : decode cX4_init 9 = .ok (.invokespecial 11, 3) := by decide +kernel
theorem dX4_init_12 : decode cX4_init 12 = .ok (.putfield 12, 3) := by decide +kernel
theorem dX4_init_15 : decode cX4_init 15 = .ok (.aload_n 0, 1) := by decide +kernel
theorem dX4_init_16 : decode cX4_init 16 = .ok (.bipush 32, 2) := by decide +kernel
theorem dX4_init_18 : decode cX4_init 18 = .ok (.newarray .int, 2) := by decide +kernel
theorem dX4_init_20 : decode cX4_init 20 = .ok (.putfield 18, 3) := by decide +kernel
theorem dX4_init_23 : decode cX4_init 23 = .ok (.aload_n 0, 1) := by decide +kernel
theorem dX4_init_24 : decode cX4_init 24 = .ok (.bipush 10, 2) := by decide +kernel
theorem dX4_init_26 : decode cX4_init 26 = .ok (.newarray .int, 2) := by decide +kernel
theorem dX4_init_28 : decode cX4_init 28 = .ok (.putfield 22, 3) := by decide +kernel
theorem dX4_init_31 : decode cX4_init 31 = .ok (.aload_n 0, 1) := by decide +kernel
theorem dX4_init_32 : decode cX4_init 32 = .ok (.bipush 10, 2) := by decide +kernel
theorem dX4_init_34 : decode cX4_init 34 = .ok (.newarray .int, 2) := by decide +kernel
theorem dX4_init_36 : decode cX4_init 36 = .ok (.putfield 25, 3) := by decide +kernel
theorem dX4_init_39 : decode cX4_init 39 = .ok (.aload_n 0, 1) := by decide +kernel
theorem dX4_init_40 : decode cX4_init 40 = .ok (.bipush 10, 2) := by decide +kernel
theorem dX4_init_42 : decode cX4_init 42 = .ok (.newarray .int, 2) := by decide +kernel
theorem dX4_init_44 : decode cX4_init 44 = .ok (.putfield 28, 3) := by decide +kernel
theorem dX4_init_47 : decode cX4_init 47 = .ok (.aload_n 0, 1) := by decide +kernel
theorem dX4_init_48 : decode cX4_init 48 = .ok (.bipush 10, 2) := by decide +kernel
theorem dX4_init_50 : decode cX4_init 50 = .ok (.newarray .int, 2) := by decide +kernel
theorem dX4_init_52 : decode cX4_init 52 = .ok (.putfield 31, 3) := by decide +kernel
theorem dX4_init_55 : decode cX4_init 55 = .ok (.aload_n 0, 1) := by decide +kernel
theorem dX4_init_56 : decode cX4_init 56 = .ok (.bipush 10, 2) := by decide +kernel
theorem dX4_init_58 : decode cX4_init 58 = .ok (.newarray .int, 2) := by decide +kernel
theorem dX4_init_60 : decode cX4_init 60 = .ok (.putfield 34, 3) := by decide +kernel
theorem dX4_init_63 : decode cX4_init 63 = .ok (.aload_n 0, 1) := by decide +kernel
theorem dX4_init_64 : decode cX4_init 64 = .ok (.bipush 10, 2) := by decide +kernel
theorem dX4_init_66 : decode cX4_init 66 = .ok (.newarray .int, 2) := by decide +kernel
theorem dX4_init_68 : decode cX4_init 68 = .ok (.putfield 37, 3) := by decide +kernel
theorem dX4_init_71 : decode cX4_init 71 = .ok (.aload_n 0, 1) := by decide +kernel
theorem dX4_init_72 : decode cX4_init 72 = .ok (.bipush 10, 2) := by decide +kernel
theorem dX4_init_74 : decode cX4_init 74 = .ok (.newarray .int, 2) := by decide +kernel
theorem dX4_init_76 : decode cX4_init 76 = .ok (.putfield 40, 3) := by decide +kernel
theorem dX4_init_79 : decode cX4_init 79 = .ok (.aload_n 0, 1) := by decide +kernel
theorem dX4_init_80 : decode cX4_init 80 = .ok (.bipush 10, 2) := by decide +kernel
theorem dX4_init_82 : decode cX4_init 82 = .ok (.newarray .int, 2) := by decide +kernel
theorem dX4_init_84 : decode cX4_init 84 = .ok (.putfield 43, 3) := by decide +kernel
theorem dX4_init_87 : decode cX4_init 87 = .ok (.aload_n 0, 1) := by decide +kernel
theorem dX4_init_88 : decode cX4_init 88 = .ok (.bipush 10, 2) := by decide +kernel
theorem dX4_init_90 : decode cX4_init 90 = .ok (.newarray .int, 2) := by decide +kernel
theorem dX4_init_92 : decode cX4_init 92 = .ok (.putfield 46, 3) := by decide +kernel
theorem dX4_init_95 : decode cX4_init 95 = .ok (.aload_n 0, 1) := by decide +kernel
theorem dX4_init_96 : decode cX4_init 96 = .ok (.aload_n 1, 1) := by decide +kernel
theorem dX4_init_97 : decode cX4_init 97 = .ok (.putfield 49, 3) := by decide +kernel
theorem dX4_init_100 : decode cX4_init 100 = .ok (.aload_n 0, 1) := by decide +kernel
theorem dX4_init_101 : decode cX4_init 101 = .ok (.aload_n 2, 1) := by decide +kernel
theorem dX4_init_102 : decode cX4_init 102 = .ok (.putfield 53, 3) := by decide +kernel
theorem dX4_init_105 : decode cX4_init 105 = .ok (.aload_n 0, 1) := by decide +kernel
theorem dX4_init_106 : decode cX4_init 106 = .ok (.aload_n 3, 1) := by decide +kernel
theorem dX4_init_107 : decode cX4_init 107 = .ok (.putfield 57, 3) := by decide +kernel
theorem dX4_init_110 : decode cX4_init 110 = .ok (.aload_n 0, 1) := by decide +kernel
theorem dX4_init_111 : decode cX4_init 111 = .ok (.aload 4, 2) := by decide +kernel
theorem dX4_init_113 : decode cX4_init 113 = .ok (.putfield 61, 3) := by decide +kernel
theorem dX4_init_116 : decode cX4_init 116 = .ok (.return_, 1) := by decide +kernel
theorem dX4_hear_0 : decode cX4_hear 0 = .ok (.aload_n 0, 1) := by decide +kernel
theorem dX4_hear_1 : decode cX4_hear 1 = .ok (.getfield 61, 3) := by decide +kernel
theorem dX4_hear_4 : decode cX4_hear 4 = .ok (.iload_n 1, 1) := by decide +kernel
theorem dX4_hear_5 : decode cX4_hear 5 = .ok (.invokevirtual 65, 3) := by decide +kernel
theorem dX4_hear_8 : decode cX4_hear 8 = .ok (.iconst 0, 1) := by decide +kernel
theorem dX4_hear_9 : decode cX4_hear 9 = .ok (.istore_n 2, 1) := by decide +kernel
theorem dX4_hear_10 : decode cX4_hear 10 = .ok (.iload_n 2, 1) := by decide +kernel
theorem dX4_hear_11 : decode cX4_hear 11 = .ok (.aload_n 0, 1) := by decide +kernel
theorem dX4_hear_12 : decode cX4_hear 12 = .ok (.getfield 57, 3) := by decide +kernel
theorem dX4_hear_15 : decode cX4_hear 15 = .ok (.getfield 71, 3) := by decide +kernel
theorem dX4_hear_18 : decode cX4_hear 18 = .ok (.if_icmp .ge 14, 3) := by decide +kernel
theorem dX4_hear_21 : decode cX4_hear 21 = .ok (.aload_n 0, 1) := by decide +kernel
theorem dX4_hear_22 : decode cX4_hear 22 = .ok (.iload_n 2, 1) := by decide +kernel
theorem dX4_hear_23 : decode cX4_hear 23 = .ok (.invokevirtual 77, 3) := by decide +kernel
theorem dX4_hear_26 : decode cX4_hear 26 = .ok (.iinc 2 1, 3) := by decide +kernel
theorem dX4_hear_29 : decode cX4_hear 29 = .ok (.goto (-19), 3) := by decide +kernel
theorem dX4_hear_32 : decode cX4_hear 32 = .ok (.iconst 0, 1) := by decide +kernel
theorem dX4_hear_33 : decode cX4_hear 33 = .ok (.istore_n 2, 1) := by decide +kernel
theorem dX4_hear_34 : decode cX4_hear 34 = .ok (.iload_n 2, 1) := by decide +kernel
theorem dX4_hear_35 : decode cX4_hear 35 = .ok (.aload_n 0, 1) := by decide +kernel
theorem dX4_hear_36 : decode cX4_hear 36 = .ok (.getfield 57, 3) := by decide +kernel
theorem dX4_hear_39 : decode cX4_hear 39 = .ok (.getfield 71, 3) := by decide +kernel
theorem dX4_hear_42 : decode cX4_hear 42 = .ok (.if_icmp .ge 25, 3) := by decide +kernel
theorem dX4_hear_45 : decode cX4_hear 45 = .ok (.aload_n 0, 1) := by decide +kernel
theorem dX4_hear_46 : decode cX4_hear 46 = .ok (.invokevirtual 80, 3) := by decide +kernel
theorem dX4_hear_49 : decode cX4_hear 49 = .ok (.istore_n 3, 1) := by decide +kernel
theorem dX4_hear_50 : decode cX4_hear 50 = .ok (.iload_n 3, 1) := by decide +kernel
theorem dX4_hear_51 : decode cX4_hear 51 = .ok (.iconst (-1), 1) := by decide +kernel
theorem dX4_hear_52 : decode cX4_hear 52 = .ok (.if_icmp .ne 4, 3) := by decide +kernel
theorem dX4_hear_55 : decode cX4_hear 55 = .ok (.return_, 1) := by decide +kernel
theorem dX4_hear_56 : decode cX4_hear 56 = .ok (.aload_n 0, 1) := by decide +kernel
theorem dX4_hear_57 : decode cX4_hear 57 = .ok (.iload_n 3, 1) := by decide +kernel
theorem dX4_hear_58 : decode cX4_hear 58 = .ok (.invokevirtual 84, 3) := by decide +kernel
theorem dX4_hear_61 : decode cX4_hear 61 = .ok (.iinc 2 1, 3) := by decide +kernel
theorem dX4_hear_64 : decode cX4_hear 64 = .ok (.goto (-30), 3) := by decide +kernel
theorem dX4_hear_67 : decode cX4_hear 67 = .ok (.return_, 1) := by decide +kernel
theorem dX4_stateOn_0 : decode cX4_stateOn 0 = .ok (.aload_n 0, 1) := by decide +kernel
theorem dX4_stateOn_1 : decode cX4_stateOn 1 = .ok (.getfield 28, 3) := by decide +kernel
theorem dX4_stateOn_4 : decode cX4_stateOn 4 = .ok (.iload_n 1, 1) := by decide +kernel
theorem dX4_stateOn_5 : decode cX4_stateOn 5 = .ok (.iaload, 1) := by decide +kernel
theorem dX4_stateOn_6 : decode cX4_stateOn 6 = .ok (.ifCond .ne 5, 3) := by decide +kernel
theorem dX4_stateOn_9 : decode cX4_stateOn 9 = .ok (.iconst 0, 1) := by decide +kernel
theorem dX4_stateOn_10 : decode cX4_stateOn 10 = .ok (.ireturn, 1) := by decide +kernel
theorem dX4_stateOn_11 : decode cX4_stateOn 11 = .ok (.iload_n 2, 1) := by decide +kernel
theorem dX4_stateOn_12 : decode cX4_stateOn 12 = .ok (.aload_n 0, 1) := by decide +kernel
theorem dX4_stateOn_13 : decode cX4_stateOn 13 = .ok (.getfield 25, 3) := by decide +kernel
theorem dX4_stateOn_16 : decode cX4_stateOn 16 = .ok (.iload_n 1, 1) := by decide +kernel
theorem dX4_stateOn_17 : decode cX4_stateOn 17 = .ok (.iaload, 1) := by decide +kernel
theorem dX4_stateOn_18 : decode cX4_stateOn 18 = .ok (.if_icmp .ge 22, 3) := by decide +kernel
theorem dX4_stateOn_21 : decode cX4_stateOn 21 = .ok (.aload_n 0, 1) := by decide +kernel
theorem dX4_stateOn_22 : decode cX4_stateOn 22 = .ok (.getfield 57, 3) := by decide +kernel
theorem dX4_stateOn_25 : decode cX4_stateOn 25 = .ok (.getfield 87, 3) := by decide +kernel
theorem dX4_stateOn_28 : decode cX4_stateOn 28 = .ok (.iload_n 1, 1) := by decide +kernel
theorem dX4_stateOn_29 : decode cX4_stateOn 29 = .ok (.iaload, 1) := by decide +kernel
theorem dX4_stateOn_30 : decode cX4_stateOn 30 = .ok (.iconst (-1), 1) := by decide +kernel
theorem dX4_stateOn_31 : decode cX4_stateOn 31 = .ok (.if_icmp .ne 7, 3) := by decide +kernel
theorem dX4_stateOn_34 : decode cX4_stateOn 34 = .ok (.iconst 1, 1) := by decide +kernel
theorem dX4_stateOn_35 : decode cX4_stateOn 35 = .ok (.goto 4, 3) := by decide +kernel
theorem dX4_stateOn_38 : decode cX4_stateOn 38 = .ok (.iconst 2, 1) := by decide +kernel
theorem dX4_stateOn_39 : decode cX4_stateOn 39 = .ok (.ireturn, 1) := by decide +kernel
theorem dX4_stateOn_40 : decode cX4_stateOn 40 = .ok (.aload_n 0, 1) := by decide +kernel
theorem dX4_stateOn_41 : decode cX4_stateOn 41 = .ok (.getfield 28, 3) := by decide +kernel
theorem dX4_stateOn_44 : decode cX4_stateOn 44 = .ok (.iload_n 1, 1) := by decide +kernel
theorem dX4_stateOn_45 : decode cX4_stateOn 45 = .ok (.iaload, 1) := by decide +kernel
theorem dX4_stateOn_46 : decode cX4_stateOn 46 = .ok (.bipush 6, 2) := by decide +kernel
theorem dX4_stateOn_48 : decode cX4_stateOn 48 = .ok (.if_icmp .ne 20, 3) := by decide +kernel
theorem dX4_stateOn_51 : decode cX4_stateOn 51 = .ok (.aload_n 0, 1) := by decide +kernel
theorem dX4_stateOn_52 : decode cX4_stateOn 52 = .ok (.getfield 37, 3) := by decide +kernel
theorem dX4_stateOn_55 : decode cX4_stateOn 55 = .ok (.iload_n 1, 1) := by decide +kernel
theorem dX4_stateOn_56 : decode cX4_stateOn 56 = .ok (.iaload, 1) := by decide +kernel
theorem dX4_stateOn_57 : decode cX4_stateOn 57 = .ok (.iload_n 2, 1) := by decide +kernel
theorem dX4_stateOn_58 : decode cX4_stateOn 58 = .ok (.if_icmp .gt 10, 3) := by decide +kernel
theorem dX4_stateOn_61 : decode cX4_stateOn 61 = .ok (.aload_n 0, 1) := by decide +kernel
theorem dX4_stateOn_62 : decode cX4_stateOn 62 = .ok (.getfield 40, 3) := by decide +kernel
theorem dX4_stateOn_65 : decode cX4_stateOn 65 = .ok (.iload_n 1, 1) := by decide +kernel
theorem dX4_stateOn_66 : decode cX4_stateOn 66 = .ok (.iaload, 1) := by decide +kernel
theorem dX4_stateOn_67 : decode cX4_stateOn 67 = .ok (.ireturn, 1) := by decide +kernel
theorem dX4_stateOn_68 : decode cX4_stateOn 68 = .ok (.aload_n 0, 1) := by decide +kernel
theorem dX4_stateOn_69 : decode cX4_stateOn 69 = .ok (.getfield 28, 3) := by decide +kernel
theorem dX4_stateOn_72 : decode cX4_stateOn 72 = .ok (.iload_n 1, 1) := by decide +kernel
theorem dX4_stateOn_73 : decode cX4_stateOn 73 = .ok (.iaload, 1) := by decide +kernel
theorem dX4_stateOn_74 : decode cX4_stateOn 74 = .ok (.ireturn, 1) := by decide +kernel
theorem dX4_wasInForce_0 : decode cX4_wasInForce 0 = .ok (.aload_n 0, 1) := by decide +kernel
theorem dX4_wasInForce_1 : decode cX4_wasInForce 1 = .ok (.getfield 28, 3) := by decide +kernel
theorem dX4_wasInForce_4 : decode cX4_wasInForce 4 = .ok (.iload_n 1, 1) := by decide +kernel
theorem dX4_wasInForce_5 : decode cX4_wasInForce 5 = .ok (.iaload, 1) := by decide +kernel
theorem dX4_wasInForce_6 : decode cX4_wasInForce 6 = .ok (.bipush 6, 2) := by decide +kernel
theorem dX4_wasInForce_8 : decode cX4_wasInForce 8 = .ok (.if_icmp .ne 22, 3) := by decide +kernel
theorem dX4_wasInForce_11 : decode cX4_wasInForce 11 = .ok (.aload_n 0, 1) := by decide +kernel
theorem dX4_wasInForce_12 : decode cX4_wasInForce 12 = .ok (.getfield 37, 3) := by decide +kernel
theorem dX4_wasInForce_15 : decode cX4_wasInForce 15 = .ok (.iload_n 1, 1) := by decide +kernel
theorem dX4_wasInForce_16 : decode cX4_wasInForce 16 = .ok (.iaload, 1) := by decide +kernel
theorem dX4_wasInForce_17 : decode cX4_wasInForce 17 = .ok (.aload_n 0, 1) := by decide +kernel
theorem dX4_wasInForce_18 : decode cX4_wasInForce 18 = .ok (.getfield 25, 3) := by decide +kernel
theorem dX4_wasInForce_21 : decode cX4_wasInForce 21 = .ok (.iload_n 1, 1) := by decide +kernel
theorem dX4_wasInForce_22 : decode cX4_wasInForce 22 = .ok (.iaload, 1) := by decide +kernel
theorem dX4_wasInForce_23 : decode cX4_wasInForce 23 = .ok (.if_icmp .le 7, 3) := by decide +kernel
theorem dX4_wasInForce_26 : decode cX4_wasInForce 26 = .ok (.iconst 1, 1) := by decide +kernel
theorem dX4_wasInForce_27 : decode cX4_wasInForce 27 = .ok (.goto 4, 3) := by decide +kernel
theorem dX4_wasInForce_30 : decode cX4_wasInForce 30 = .ok (.iconst 0, 1) := by decide +kernel
theorem dX4_wasInForce_31 : decode cX4_wasInForce 31 = .ok (.ireturn, 1) := by decide +kernel
theorem dX4_shareBack_0 : decode cX4_shareBack 0 = .ok (.aload_n 0, 1) := by decide +kernel
theorem dX4_shareBack_1 : decode cX4_shareBack 1 = .ok (.iload_n 1, 1) := by decide +kernel
theorem dX4_shareBack_2 : decode cX4_shareBack 2 = .ok (.iload_n 3, 1) := by decide +kernel
theorem dX4_shareBack_3 : decode cX4_shareBack 3 = .ok (.invokevirtual 90, 3) := by decide +kernel
theorem dX4_shareBack_6 : decode cX4_shareBack 6 = .ok (.istore 4, 2) := by decide +kernel
theorem dX4_shareBack_8 : decode cX4_shareBack 8 = .ok (.iload 4, 2) := by decide +kernel
theorem dX4_shareBack_10 : decode cX4_shareBack 10 = .ok (.iconst 3, 1) := by decide +kernel
theorem dX4_shareBack_11 : decode cX4_shareBack 11 = .ok (.if_icmp .lt 10, 3) := by decide +kernel
theorem dX4_shareBack_14 : decode cX4_shareBack 14 = .ok (.iload 4, 2) := by decide +kernel
theorem dX4_shareBack_16 : decode cX4_shareBack 16 = .ok (.bipush 6, 2) := by decide +kernel
theorem dX4_shareBack_18 : decode cX4_shareBack 18 = .ok (.if_icmp .ne 5, 3) := by decide +kernel
theorem dX4_shareBack_21 : decode cX4_shareBack 21 = .ok (.iconst 0, 1) := by decide +kernel
theorem dX4_shareBack_22 : decode cX4_shareBack 22 = .ok (.ireturn, 1) := by decide +kernel
theorem dX4_shareBack_23 : decode cX4_shareBack 23 = .ok (.aload_n 0, 1) := by decide +kernel
theorem dX4_shareBack_24 : decode cX4_shareBack 24 = .ok (.getfield 12, 3) := by decide +kernel
theorem dX4_shareBack_27 : decode cX4_shareBack 27 = .ok (.invokevirtual 94, 3) := by decide +kernel
theorem dX4_shareBack_30 : decode cX4_shareBack 30 = .ok (.aload_n 0, 1) := by decide +kernel
theorem dX4_shareBack_31 : decode cX4_shareBack 31 = .ok (.getfield 12, 3) := by decide +kernel
theorem dX4_shareBack_34 : decode cX4_shareBack 34 = .ok (.getfield 97, 3) := by decide +kernel
theorem dX4_shareBack_37 : decode cX4_shareBack 37 = .ok (.bipush 10, 2) := by decide +kernel
theorem dX4_shareBack_39 : decode cX4_shareBack 39 = .ok (.iload 4, 2) := by decide +kernel
theorem dX4_shareBack_41 : decode cX4_shareBack 41 = .ok (.bipush 9, 2) := by decide +kernel
theorem dX4_shareBack_43 : decode cX4_shareBack 43 = .ok (.if_icmp .ne 12, 3) := by decide +kernel
theorem dX4_shareBack_46 : decode cX4_shareBack 46 = .ok (.aload_n 0, 1) := by decide +kernel
theorem dX4_shareBack_47 : decode cX4_shareBack 47 = .ok (.iload_n 1, 1) := by decide +kernel
theorem dX4_shareBack_48 : decode cX4_shareBack 48 = .ok (.iload_n 2, 1) := by decide +kernel
theorem dX4_shareBack_49 : decode cX4_shareBack 49 = .ok (.invokevirtual 100, 3) := by decide +kernel
theorem dX4_shareBack_52 : decode cX4_shareBack 52 = .ok (.goto 5, 3) := by decide +kernel
theorem dX4_shareBack_55 : decode cX4_shareBack 55 = .ok (.iload 4, 2) := by decide +kernel
theorem dX4_shareBack_57 : decode cX4_shareBack 57 = .ok (.iastore, 1) := by decide +kernel
theorem dX4_shareBack_58 : decode cX4_shareBack 58 = .ok (.aload_n 0, 1) := by decide +kernel
theorem dX4_shareBack_59 : decode cX4_shareBack 59 = .ok (.getfield 12, 3) := by decide +kernel
theorem dX4_shareBack_62 : decode cX4_shareBack 62 = .ok (.getfield 97, 3) := by decide +kernel
theorem dX4_shareBack_65 : decode cX4_shareBack 65 = .ok (.iconst 4, 1) := by decide +kernel
theorem dX4_shareBack_66 : decode cX4_shareBack 66 = .ok (.aload_n 0, 1) := by decide +kernel
theorem dX4_shareBack_67 : decode cX4_shareBack 67 = .ok (.getfield 57, 3) := by decide +kernel
theorem dX4_shareBack_70 : decode cX4_shareBack 70 = .ok (.getfield 103, 3) := by decide +kernel
theorem dX4_shareBack_73 : decode cX4_shareBack 73 = .ok (.iload_n 1, 1) := by decide +kernel
theorem dX4_shareBack_74 : decode cX4_shareBack 74 = .ok (.iaload, 1) := by decide +kernel
theorem dX4_shareBack_75 : decode cX4_shareBack 75 = .ok (.iastore, 1) := by decide +kernel
theorem dX4_shareBack_76 : decode cX4_shareBack 76 = .ok (.aload_n 0, 1) := by decide +kernel
theorem dX4_shareBack_77 : decode cX4_shareBack 77 = .ok (.getfield 12, 3) := by decide +kernel
theorem dX4_shareBack_80 : decode cX4_shareBack 80 = .ok (.getfield 97, 3) := by decide +kernel
theorem dX4_shareBack_83 : decode cX4_shareBack 83 = .ok (.bipush 11, 2) := by decide +kernel
theorem dX4_shareBack_85 : decode cX4_shareBack 85 = .ok (.iload 4, 2) := by decide +kernel
theorem dX4_shareBack_87 : decode cX4_shareBack 87 = .ok (.bipush 6, 2) := by decide +kernel
theorem dX4_shareBack_89 : decode cX4_shareBack 89 = .ok (.if_icmp .le 19, 3) := by decide +kernel
theorem dX4_shareBack_92 : decode cX4_shareBack 92 = .ok (.aload_n 0, 1) := by decide +kernel
theorem dX4_shareBack_93 : decode cX4_shareBack 93 = .ok (.getfield 37, 3) := by decide +kernel
theorem dX4_shareBack_96 : decode cX4_shareBack 96 = .ok (.iload_n 1, 1) := by decide +kernel
theorem dX4_shareBack_97 : decode cX4_shareBack 97 = .ok (.iaload, 1) := by decide +kernel
theorem dX4_shareBack_98 : decode cX4_shareBack 98 = .ok (.aload_n 0, 1) := by decide +kernel
theorem dX4_shareBack_99 : decode cX4_shareBack 99 = .ok (.getfield 25, 3) := by decide +kernel
theorem dX4_shareBack_102 : decode cX4_shareBack 102 = .ok (.iload_n 1, 1) := by decide +kernel
theorem dX4_shareBack_103 : decode cX4_shareBack 103 = .ok (.iaload, 1) := by decide +kernel
theorem dX4_shareBack_104 : decode cX4_shareBack 104 = .ok (.isub, 1) := by decide +kernel
theorem dX4_shareBack_105 : decode cX4_shareBack 105 = .ok (.goto 4, 3) := by decide +kernel
theorem dX4_shareBack_108 : decode cX4_shareBack 108 = .ok (.iconst 0, 1) := by decide +kernel
theorem dX4_shareBack_109 : decode cX4_shareBack 109 = .ok (.iastore, 1) := by decide +kernel
theorem dX4_shareBack_110 : decode cX4_shareBack 110 = .ok (.aload_n 0, 1) := by decide +kernel
theorem dX4_shareBack_111 : decode cX4_shareBack 111 = .ok (.iload_n 1, 1) := by decide +kernel
theorem dX4_shareBack_112 : decode cX4_shareBack 112 = .ok (.invokevirtual 106, 3) := by decide +kernel
theorem dX4_shareBack_115 : decode cX4_shareBack 115 = .ok (.aload_n 0, 1) := by decide +kernel
theorem dX4_shareBack_116 : decode cX4_shareBack 116 = .ok (.getfield 12, 3) := by decide +kernel
theorem dX4_shareBack_119 : decode cX4_shareBack 119 = .ok (.invokevirtual 110, 3) := by decide +kernel
theorem dX4_shareBack_122 : decode cX4_shareBack 122 = .ok (.ireturn, 1) := by decide +kernel
theorem dX4_breachFor_0 : decode cX4_breachFor 0 = .ok (.aload_n 0, 1) := by decide +kernel
theorem dX4_breachFor_1 : decode cX4_breachFor 1 = .ok (.getfield 46, 3) := by decide +kernel
theorem dX4_breachFor_4 : decode cX4_breachFor 4 = .ok (.iload_n 1, 1) := by decide +kernel
theorem dX4_breachFor_5 : decode cX4_breachFor 5 = .ok (.iaload, 1) := by decide +kernel
theorem dX4_breachFor_6 : decode cX4_breachFor 6 = .ok (.iload_n 2, 1) := by decide +kernel
theorem dX4_breachFor_7 : decode cX4_breachFor 7 = .ok (.iconst 1, 1) := by decide +kernel
theorem dX4_breachFor_8 : decode cX4_breachFor 8 = .ok (.iadd, 1) := by decide +kernel
theorem dX4_breachFor_9 : decode cX4_breachFor 9 = .ok (.if_icmp .ne 6, 3) := by decide +kernel
theorem dX4_breachFor_12 : decode cX4_breachFor 12 = .ok (.bipush 9, 2) := by decide +kernel
theorem dX4_breachFor_14 : decode cX4_breachFor 14 = .ok (.ireturn, 1) := by decide +kernel
theorem dX4_breachFor_15 : decode cX4_breachFor 15 = .ok (.aload_n 0, 1) := by decide +kernel
theorem dX4_breachFor_16 : decode cX4_breachFor 16 = .ok (.getfield 46, 3) := by decide +kernel
theorem dX4_breachFor_19 : decode cX4_breachFor 19 = .ok (.iload_n 1, 1) := by decide +kernel
theorem dX4_breachFor_20 : decode cX4_breachFor 20 = .ok (.iaload, 1) := by decide +kernel
theorem dX4_breachFor_21 : decode cX4_breachFor 21 = .ok (.iconst 2, 1) := by decide +kernel
theorem dX4_breachFor_22 : decode cX4_breachFor 22 = .ok (.iload_n 2, 1) := by decide +kernel
theorem dX4_breachFor_23 : decode cX4_breachFor 23 = .ok (.isub, 1) := by decide +kernel
theorem dX4_breachFor_24 : decode cX4_breachFor 24 = .ok (.if_icmp .ne 8, 3) := by decide +kernel
theorem dX4_breachFor_27 : decode cX4_breachFor 27 = .ok (.bipush 10, 2) := by decide +kernel
theorem dX4_breachFor_29 : decode cX4_breachFor 29 = .ok (.goto 5, 3) := by decide +kernel
theorem dX4_breachFor_32 : decode cX4_breachFor 32 = .ok (.bipush 11, 2) := by decide +kernel
theorem dX4_breachFor_34 : decode cX4_breachFor 34 = .ok (.ireturn, 1) := by decide +kernel
theorem dX4_lawOf_0 : decode cX4_lawOf 0 = .ok (.aload_n 0, 1) := by decide +kernel
theorem dX4_lawOf_1 : decode cX4_lawOf 1 = .ok (.getfield 49, 3) := by decide +kernel
theorem dX4_lawOf_4 : decode cX4_lawOf 4 = .ok (.aload_n 0, 1) := by decide +kernel
theorem dX4_lawOf_5 : decode cX4_lawOf 5 = .ok (.getfield 57, 3) := by decide +kernel
theorem dX4_lawOf_8 : decode cX4_lawOf 8 = .ok (.getfield 116, 3) := by decide +kernel
theorem dX4_lawOf_11 : decode cX4_lawOf 11 = .ok (.iload_n 1, 1) := by decide +kernel
theorem dX4_lawOf_12 : decode cX4_lawOf 12 = .ok (.iaload, 1) := by decide +kernel
theorem dX4_lawOf_13 : decode cX4_lawOf 13 = .ok (.aload_n 0, 1) := by decide +kernel
theorem dX4_lawOf_14 : decode cX4_lawOf 14 = .ok (.getfield 57, 3) := by decide +kernel
theorem dX4_lawOf_17 : decode cX4_lawOf 17 = .ok (.getfield 119, 3) := by decide +kernel
theorem dX4_lawOf_20 : decode cX4_lawOf 20 = .ok (.iload_n 1, 1) := by decide +kernel
theorem dX4_lawOf_21 : decode cX4_lawOf 21 = .ok (.iaload, 1) := by decide +kernel
theorem dX4_lawOf_22 : decode cX4_lawOf 22 = .ok (.invokevirtual 122, 3) := by decide +kernel
theorem dX4_lawOf_25 : decode cX4_lawOf 25 = .ok (.areturn, 1) := by decide +kernel
theorem dX4_prepare_0 : decode cX4_prepare 0 = .ok (.aload_n 0, 1) := by decide +kernel
theorem dX4_prepare_1 : decode cX4_prepare 1 = .ok (.getfield 31, 3) := by decide +kernel
theorem dX4_prepare_4 : decode cX4_prepare 4 = .ok (.iload_n 1, 1) := by decide +kernel
theorem dX4_prepare_5 : decode cX4_prepare 5 = .ok (.iconst (-1), 1) := by decide +kernel
theorem dX4_prepare_6 : decode cX4_prepare 6 = .ok (.iastore, 1) := by decide +kernel
theorem dX4_prepare_7 : decode cX4_prepare 7 = .ok (.aload_n 0, 1) := by decide +kernel
theorem dX4_prepare_8 : decode cX4_prepare 8 = .ok (.getfield 34, 3) := by decide +kernel
theorem dX4_prepare_11 : decode cX4_prepare 11 = .ok (.iload_n 1, 1) := by decide +kernel
theorem dX4_prepare_12 : decode cX4_prepare 12 = .ok (.iconst (-1), 1) := by decide +kernel
theorem dX4_prepare_13 : decode cX4_prepare 13 = .ok (.iastore, 1) := by decide +kernel
theorem dX4_prepare_14 : decode cX4_prepare 14 = .ok (.aload_n 0, 1) := by decide +kernel
theorem dX4_prepare_15 : decode cX4_prepare 15 = .ok (.getfield 37, 3) := by decide +kernel
theorem dX4_prepare_18 : decode cX4_prepare 18 = .ok (.iload_n 1, 1) := by decide +kernel
theorem dX4_prepare_19 : decode cX4_prepare 19 = .ok (.sipush 10000, 3) := by decide +kernel
theorem dX4_prepare_22 : decode cX4_prepare 22 = .ok (.iastore, 1) := by decide +kernel
theorem dX4_prepare_23 : decode cX4_prepare 23 = .ok (.aload_n 0, 1) := by decide +kernel
theorem dX4_prepare_24 : decode cX4_prepare 24 = .ok (.getfield 40, 3) := by decide +kernel
theorem dX4_prepare_27 : decode cX4_prepare 27 = .ok (.iload_n 1, 1) := by decide +kernel
theorem dX4_prepare_28 : decode cX4_prepare 28 = .ok (.iconst 0, 1) := by decide +kernel
theorem dX4_prepare_29 : decode cX4_prepare 29 = .ok (.iastore, 1) := by decide +kernel
theorem dX4_prepare_30 : decode cX4_prepare 30 = .ok (.aload_n 0, 1) := by decide +kernel
theorem dX4_prepare_31 : decode cX4_prepare 31 = .ok (.getfield 43, 3) := by decide +kernel
theorem dX4_prepare_34 : decode cX4_prepare 34 = .ok (.iload_n 1, 1) := by decide +kernel
theorem dX4_prepare_35 : decode cX4_prepare 35 = .ok (.iconst (-1), 1) := by decide +kernel
theorem dX4_prepare_36 : decode cX4_prepare 36 = .ok (.iastore, 1) := by decide +kernel
theorem dX4_prepare_37 : decode cX4_prepare 37 = .ok (.aload_n 0, 1) := by decide +kernel
theorem dX4_prepare_38 : decode cX4_prepare 38 = .ok (.getfield 46, 3) := by decide +kernel
theorem dX4_prepare_41 : decode cX4_prepare 41 = .ok (.iload_n 1, 1) := by decide +kernel
theorem dX4_prepare_42 : decode cX4_prepare 42 = .ok (.iconst 0, 1) := by decide +kernel
theorem dX4_prepare_43 : decode cX4_prepare 43 = .ok (.iastore, 1) := by decide +kernel
theorem dX4_prepare_44 : decode cX4_prepare 44 = .ok (.aload_n 0, 1) := by decide +kernel
theorem dX4_prepare_45 : decode cX4_prepare 45 = .ok (.iload_n 1, 1) := by decide +kernel
theorem dX4_prepare_46 : decode cX4_prepare 46 = .ok (.invokevirtual 128, 3) := by decide +kernel
theorem dX4_prepare_49 : decode cX4_prepare 49 = .ok (.aload_n 0, 1) := by decide +kernel
theorem dX4_prepare_50 : decode cX4_prepare 50 = .ok (.iload_n 1, 1) := by decide +kernel
theorem dX4_prepare_51 : decode cX4_prepare 51 = .ok (.invokevirtual 131, 3) := by decide +kernel
theorem dX4_prepare_54 : decode cX4_prepare 54 = .ok (.aload_n 0, 1) := by decide +kernel
theorem dX4_prepare_55 : decode cX4_prepare 55 = .ok (.getfield 22, 3) := by decide +kernel
theorem dX4_prepare_58 : decode cX4_prepare 58 = .ok (.iload_n 1, 1) := by decide +kernel
theorem dX4_prepare_59 : decode cX4_prepare 59 = .ok (.aload_n 0, 1) := by decide +kernel
theorem dX4_prepare_60 : decode cX4_prepare 60 = .ok (.iload_n 1, 1) := by decide +kernel
theorem dX4_prepare_61 : decode cX4_prepare 61 = .ok (.invokevirtual 106, 3) := by decide +kernel
theorem dX4_prepare_64 : decode cX4_prepare 64 = .ok (.sipush 10000, 3) := by decide +kernel
theorem dX4_prepare_67 : decode cX4_prepare 67 = .ok (.aload_n 0, 1) := by decide +kernel
theorem dX4_prepare_68 : decode cX4_prepare 68 = .ok (.getfield 12, 3) := by decide +kernel
theorem dX4_prepare_71 : decode cX4_prepare 71 = .ok (.invokevirtual 134, 3) := by decide +kernel
theorem dX4_prepare_74 : decode cX4_prepare 74 = .ok (.iastore, 1) := by decide +kernel
theorem dX4_prepare_75 : decode cX4_prepare 75 = .ok (.aload_n 0, 1) := by decide +kernel
theorem dX4_prepare_76 : decode cX4_prepare 76 = .ok (.getfield 22, 3) := by decide +kernel
theorem dX4_prepare_79 : decode cX4_prepare 79 = .ok (.iload_n 1, 1) := by decide +kernel
theorem dX4_prepare_80 : decode cX4_prepare 80 = .ok (.iaload, 1) := by decide +kernel
theorem dX4_prepare_81 : decode cX4_prepare 81 = .ok (.iconst (-1), 1) := by decide +kernel
theorem dX4_prepare_82 : decode cX4_prepare 82 = .ok (.if_icmp .ne 10, 3) := by decide +kernel
theorem dX4_prepare_85 : decode cX4_prepare 85 = .ok (.aload_n 0, 1) := by decide +kernel
theorem dX4_prepare_86 : decode cX4_prepare 86 = .ok (.getfield 28, 3) := by decide +kernel
theorem dX4_prepare_89 : decode cX4_prepare 89 = .ok (.iload_n 1, 1) := by decide +kernel
theorem dX4_prepare_90 : decode cX4_prepare 90 = .ok (.iconst 0, 1) := by decide +kernel
theorem dX4_prepare_91 : decode cX4_prepare 91 = .ok (.iastore, 1) := by decide +kernel
theorem dX4_prepare_92 : decode cX4_prepare 92 = .ok (.return_, 1) := by decide +kernel
theorem dX4_findEffect_0 : decode cX4_findEffect 0 = .ok (.aload_n 0, 1) := by decide +kernel
theorem dX4_findEffect_1 : decode cX4_findEffect 1 = .ok (.getfield 25, 3) := by decide +kernel
theorem dX4_findEffect_4 : decode cX4_findEffect 4 = .ok (.iload_n 1, 1) := by decide +kernel
theorem dX4_findEffect_5 : decode cX4_findEffect 5 = .ok (.aload_n 0, 1) := by decide +kernel
theorem dX4_findEffect_6 : decode cX4_findEffect 6 = .ok (.getfield 57, 3) := by decide +kernel
theorem dX4_findEffect_9 : decode cX4_findEffect 9 = .ok (.getfield 119, 3) := by decide +kernel
theorem dX4_findEffect_12 : decode cX4_findEffect 12 = .ok (.iload_n 1, 1) := by decide +kernel
theorem dX4_findEffect_13 : decode cX4_findEffect 13 = .ok (.iaload, 1) := by decide +kernel
theorem dX4_findEffect_14 : decode cX4_findEffect 14 = .ok (.iastore, 1) := by decide +kernel
theorem dX4_findEffect_15 : decode cX4_findEffect 15 = .ok (.aload_n 0, 1) := by decide +kernel
theorem dX4_findEffect_16 : decode cX4_findEffect 16 = .ok (.getfield 28, 3) := by decide +kernel
theorem dX4_findEffect_19 : decode cX4_findEffect 19 = .ok (.iload_n 1, 1) := by decide +kernel
theorem dX4_findEffect_20 : decode cX4_findEffect 20 = .ok (.iconst (-1), 1) := by decide +kernel
theorem dX4_findEffect_21 : decode cX4_findEffect 21 = .ok (.iastore, 1) := by decide +kernel
theorem dX4_findEffect_22 : decode cX4_findEffect 22 = .ok (.aload_n 0, 1) := by decide +kernel
theorem dX4_findEffect_23 : decode cX4_findEffect 23 = .ok (.getfield 57, 3) := by decide +kernel
theorem dX4_findEffect_26 : decode cX4_findEffect 26 = .ok (.getfield 87, 3) := by decide +kernel
theorem dX4_findEffect_29 : decode cX4_findEffect 29 = .ok (.iload_n 1, 1) := by decide +kernel
theorem dX4_findEffect_30 : decode cX4_findEffect 30 = .ok (.iaload, 1) := by decide +kernel
theorem dX4_findEffect_31 : decode cX4_findEffect 31 = .ok (.iconst (-1), 1) := by decide +kernel
theorem dX4_findEffect_32 : decode cX4_findEffect 32 = .ok (.if_icmp .ne 4, 3) := by decide +kernel
theorem dX4_findEffect_35 : decode cX4_findEffect 35 = .ok (.return_, 1) := by decide +kernel
theorem dX4_findEffect_36 : decode cX4_findEffect 36 = .ok (.aload_n 0, 1) := by decide +kernel
theorem dX4_findEffect_37 : decode cX4_findEffect 37 = .ok (.getfield 61, 3) := by decide +kernel
theorem dX4_findEffect_40 : decode cX4_findEffect 40 = .ok (.aload_n 0, 1) := by decide +kernel
theorem dX4_findEffect_41 : decode cX4_findEffect 41 = .ok (.getfield 57, 3) := by decide +kernel
theorem dX4_findEffect_44 : decode cX4_findEffect 44 = .ok (.getfield 87, 3) := by decide +kernel
theorem dX4_findEffect_47 : decode cX4_findEffect 47 = .ok (.iload_n 1, 1) := by decide +kernel
theorem dX4_findEffect_48 : decode cX4_findEffect 48 = .ok (.iaload, 1) := by decide +kernel
theorem dX4_findEffect_49 : decode cX4_findEffect 49 = .ok (.invokevirtual 138, 3) := by decide +kernel
theorem dX4_findEffect_52 : decode cX4_findEffect 52 = .ok (.istore_n 2, 1) := by decide +kernel
theorem dX4_findEffect_53 : decode cX4_findEffect 53 = .ok (.iload_n 2, 1) := by decide +kernel
theorem dX4_findEffect_54 : decode cX4_findEffect 54 = .ok (.iconst (-1), 1) := by decide +kernel
theorem dX4_findEffect_55 : decode cX4_findEffect 55 = .ok (.if_icmp .ne 20, 3) := by decide +kernel
theorem dX4_findEffect_58 : decode cX4_findEffect 58 = .ok (.aload_n 0, 1) := by decide +kernel
theorem dX4_findEffect_59 : decode cX4_findEffect 59 = .ok (.getfield 25, 3) := by decide +kernel
theorem dX4_findEffect_62 : decode cX4_findEffect 62 = .ok (.iload_n 1, 1) := by decide +kernel
theorem dX4_findEffect_63 : decode cX4_findEffect 63 = .ok (.sipush 10000, 3) := by decide +kernel
theorem dX4_findEffect_66 : decode cX4_findEffect 66 = .ok (.iastore, 1) := by decide +kernel
theorem dX4_findEffect_67 : decode cX4_findEffect 67 = .ok (.aload_n 0, 1) := by decide +kernel
theorem dX4_findEffect_68 : decode cX4_findEffect 68 = .ok (.getfield 28, 3) := by decide +kernel
theorem dX4_findEffect_71 : decode cX4_findEffect 71 = .ok (.iload_n 1, 1) := by decide +kernel
theorem dX4_findEffect_72 : decode cX4_findEffect 72 = .ok (.iconst 2, 1) := by decide +kernel
theorem dX4_findEffect_73 : decode cX4_findEffect 73 = .ok (.iastore, 1) := by decide +kernel
theorem dX4_findEffect_74 : decode cX4_findEffect 74 = .ok (.return_, 1) := by decide +kernel
theorem dX4_findEffect_75 : decode cX4_findEffect 75 = .ok (.aload_n 0, 1) := by decide +kernel
theorem dX4_findEffect_76 : decode cX4_findEffect 76 = .ok (.getfield 25, 3) := by decide +kernel
theorem dX4_findEffect_79 : decode cX4_findEffect 79 = .ok (.iload_n 1, 1) := by decide +kernel
theorem dX4_findEffect_80 : decode cX4_findEffect 80 = .ok (.aload_n 0, 1) := by decide +kernel
theorem dX4_findEffect_81 : decode cX4_findEffect 81 = .ok (.getfield 25, 3) := by decide +kernel
theorem dX4_findEffect_84 : decode cX4_findEffect 84 = .ok (.iload_n 1, 1) := by decide +kernel
theorem dX4_findEffect_85 : decode cX4_findEffect 85 = .ok (.iaload, 1) := by decide +kernel
theorem dX4_findEffect_86 : decode cX4_findEffect 86 = .ok (.aload_n 0, 1) := by decide +kernel
theorem dX4_findEffect_87 : decode cX4_findEffect 87 = .ok (.getfield 61, 3) := by decide +kernel
theorem dX4_findEffect_90 : decode cX4_findEffect 90 = .ok (.getfield 142, 3) := by decide +kernel
theorem dX4_findEffect_93 : decode cX4_findEffect 93 = .ok (.iload_n 2, 1) := by decide +kernel
theorem dX4_findEffect_94 : decode cX4_findEffect 94 = .ok (.iaload, 1) := by decide +kernel
theorem dX4_findEffect_95 : decode cX4_findEffect 95 = .ok (.invokestatic 143, 3) := by decide +kernel
theorem dX4_findEffect_98 : decode cX4_findEffect 98 = .ok (.iastore, 1) := by decide +kernel
theorem dX4_findEffect_99 : decode cX4_findEffect 99 = .ok (.aload_n 0, 1) := by decide +kernel
theorem dX4_findEffect_100 : decode cX4_findEffect 100 = .ok (.getfield 61, 3) := by decide +kernel
theorem dX4_findEffect_103 : decode cX4_findEffect 103 = .ok (.getfield 148, 3) := by decide +kernel
theorem dX4_findEffect_106 : decode cX4_findEffect 106 = .ok (.iload_n 2, 1) := by decide +kernel
theorem dX4_findEffect_107 : decode cX4_findEffect 107 = .ok (.iaload, 1) := by decide +kernel
theorem dX4_findEffect_108 : decode cX4_findEffect 108 = .ok (.bipush 6, 2) := by decide +kernel
theorem dX4_findEffect_110 : decode cX4_findEffect 110 = .ok (.if_icmp .ne 10, 3) := by decide +kernel
theorem dX4_findEffect_113 : decode cX4_findEffect 113 = .ok (.aload_n 0, 1) := by decide +kernel
theorem dX4_findEffect_114 : decode cX4_findEffect 114 = .ok (.getfield 28, 3) := by decide +kernel
theorem dX4_findEffect_117 : decode cX4_findEffect 117 = .ok (.iload_n 1, 1) := by decide +kernel
theorem dX4_findEffect_118 : decode cX4_findEffect 118 = .ok (.iconst 3, 1) := by decide +kernel
theorem dX4_findEffect_119 : decode cX4_findEffect 119 = .ok (.iastore, 1) := by decide +kernel
theorem dX4_findEffect_120 : decode cX4_findEffect 120 = .ok (.return_, 1) := by decide +kernel
theorem dX4_weighWords_0 : decode cX4_weighWords 0 = .ok (.aload_n 0, 1) := by decide +kernel
theorem dX4_weighWords_1 : decode cX4_weighWords 1 = .ok (.getfield 12, 3) := by decide +kernel
theorem dX4_weighWords_4 : decode cX4_weighWords 4 = .ok (.getfield 97, 3) := by decide +kernel
theorem dX4_weighWords_7 : decode cX4_weighWords 7 = .ok (.astore_n 2, 1) := by decide +kernel
theorem dX4_weighWords_8 : decode cX4_weighWords 8 = .ok (.aload_n 0, 1) := by decide +kernel
theorem dX4_weighWords_9 : decode cX4_weighWords 9 = .ok (.getfield 12, 3) := by decide +kernel
theorem dX4_weighWords_12 : decode cX4_weighWords 12 = .ok (.invokevirtual 94, 3) := by decide +kernel
theorem dX4_weighWords_15 : decode cX4_weighWords 15 = .ok (.aload_n 2, 1) := by decide +kernel
theorem dX4_weighWords_16 : decode cX4_weighWords 16 = .ok (.iconst 3, 1) := by decide +kernel
theorem dX4_weighWords_17 : decode cX4_weighWords 17 = .ok (.aload_n 0, 1) := by decide +kernel
theorem dX4_weighWords_18 : decode cX4_weighWords 18 = .ok (.getfield 61, 3) := by decide +kernel
theorem dX4_weighWords_21 : decode cX4_weighWords 21 = .ok (.iload_n 1, 1) := by decide +kernel
theorem dX4_weighWords_22 : decode cX4_weighWords 22 = .ok (.invokevirtual 151, 3) := by decide +kernel
theorem dX4_weighWords_25 : decode cX4_weighWords 25 = .ok (.iastore, 1) := by decide +kernel
theorem dX4_weighWords_26 : decode cX4_weighWords 26 = .ok (.aload_n 2, 1) := by decide +kernel
theorem dX4_weighWords_27 : decode cX4_weighWords 27 = .ok (.iconst 4, 1) := by decide +kernel
theorem dX4_weighWords_28 : decode cX4_weighWords 28 = .ok (.aload_n 0, 1) := by decide +kernel
theorem dX4_weighWords_29 : decode cX4_weighWords 29 = .ok (.getfield 57, 3) := by decide +kernel
theorem dX4_weighWords_32 : decode cX4_weighWords 32 = .ok (.getfield 103, 3) := by decide +kernel
theorem dX4_weighWords_35 : decode cX4_weighWords 35 = .ok (.iload_n 1, 1) := by decide +kernel
theorem dX4_weighWords_36 : decode cX4_weighWords 36 = .ok (.iaload, 1) := by decide +kernel
theorem dX4_weighWords_37 : decode cX4_weighWords 37 = .ok (.iastore, 1) := by decide +kernel
theorem dX4_weighWords_38 : decode cX4_weighWords 38 = .ok (.aload_n 0, 1) := by decide +kernel
theorem dX4_weighWords_39 : decode cX4_weighWords 39 = .ok (.getfield 61, 3) := by decide +kernel
theorem dX4_weighWords_42 : decode cX4_weighWords 42 = .ok (.iload_n 1, 1) := by decide +kernel
theorem dX4_weighWords_43 : decode cX4_weighWords 43 = .ok (.aload_n 0, 1) := by decide +kernel
theorem dX4_weighWords_44 : decode cX4_weighWords 44 = .ok (.getfield 18, 3) := by decide +kernel
theorem dX4_weighWords_47 : decode cX4_weighWords 47 = .ok (.invokevirtual 154, 3) := by decide +kernel
theorem dX4_weighWords_50 : decode cX4_weighWords 50 = .ok (.iconst 0, 1) := by decide +kernel
theorem dX4_weighWords_51 : decode cX4_weighWords 51 = .ok (.istore_n 3, 1) := by decide +kernel
theorem dX4_weighWords_52 : decode cX4_weighWords 52 = .ok (.iload_n 3, 1) := by decide +kernel
theorem dX4_weighWords_53 : decode cX4_weighWords 53 = .ok (.bipush 32, 2) := by decide +kernel
theorem dX4_weighWords_55 : decode cX4_weighWords 55 = .ok (.if_icmp .ge 77, 3) := by decide +kernel
theorem dX4_weighWords_58 : decode cX4_weighWords 58 = .ok (.aload_n 0, 1) := by decide +kernel
theorem dX4_weighWords_59 : decode cX4_weighWords 59 = .ok (.getfield 18, 3) := by decide +kernel
theorem dX4_weighWords_62 : decode cX4_weighWords 62 = .ok (.iload_n 3, 1) := by decide +kernel
theorem dX4_weighWords_63 : decode cX4_weighWords 63 = .ok (.iaload, 1) := by decide +kernel
theorem dX4_weighWords_64 : decode cX4_weighWords 64 = .ok (.iconst (-1), 1) := by decide +kernel
theorem dX4_weighWords_65 : decode cX4_weighWords 65 = .ok (.if_icmp .eq 61, 3) := by decide +kernel
theorem dX4_weighWords_68 : decode cX4_weighWords 68 = .ok (.aload_n 0, 1) := by decide +kernel
theorem dX4_weighWords_69 : decode cX4_weighWords 69 = .ok (.getfield 18, 3) := by decide +kernel
theorem dX4_weighWords_72 : decode cX4_weighWords 72 = .ok (.iload_n 3, 1) := by decide +kernel
theorem dX4_weighWords_73 : decode cX4_weighWords 73 = .ok (.iaload, 1) := by decide +kernel
theorem dX4_weighWords_74 : decode cX4_weighWords 74 = .ok (.bipush 7, 2) := by decide +kernel
theorem dX4_weighWords_76 : decode cX4_weighWords 76 = .ok (.if_icmp .ne 7, 3) := by decide +kernel
theorem dX4_weighWords_79 : decode cX4_weighWords 79 = .ok (.iconst 1, 1) := by decide +kernel
theorem dX4_weighWords_80 : decode cX4_weighWords 80 = .ok (.goto 4, 3) := by decide +kernel
theorem dX4_weighWords_83 : decode cX4_weighWords 83 = .ok (.iconst 0, 1) := by decide +kernel
theorem dX4_weighWords_84 : decode cX4_weighWords 84 = .ok (.istore 4, 2) := by decide +kernel
theorem dX4_weighWords_86 : decode cX4_weighWords 86 = .ok (.aload_n 0, 1) := by decide +kernel
theorem dX4_weighWords_87 : decode cX4_weighWords 87 = .ok (.iload_n 3, 1) := by decide +kernel
theorem dX4_weighWords_88 : decode cX4_weighWords 88 = .ok (.iload_n 1, 1) := by decide +kernel
theorem dX4_weighWords_89 : decode cX4_weighWords 89 = .ok (.invokevirtual 158, 3) := by decide +kernel
theorem dX4_weighWords_92 : decode cX4_weighWords 92 = .ok (.ifCond .ne 22, 3) := by decide +kernel
theorem dX4_weighWords_95 : decode cX4_weighWords 95 = .ok (.aload_n 2, 1) := by decide +kernel
theorem dX4_weighWords_96 : decode cX4_weighWords 96 = .ok (.iload 4, 2) := by decide +kernel
theorem dX4_weighWords_98 : decode cX4_weighWords 98 = .ok (.ifCond .eq 7, 3) := by decide +kernel
theorem dX4_weighWords_101 : decode cX4_weighWords 101 = .ok (.iconst 0, 1) := by decide +kernel
theorem dX4_weighWords_102 : decode cX4_weighWords 102 = .ok (.goto 4, 3) := by decide +kernel
theorem dX4_weighWords_105 : decode cX4_weighWords 105 = .ok (.iconst 1, 1) := by decide +kernel
theorem dX4_weighWords_106 : decode cX4_weighWords 106 = .ok (.dup2, 1) := by decide +kernel
theorem dX4_weighWords_107 : decode cX4_weighWords 107 = .ok (.iaload, 1) := by decide +kernel
theorem dX4_weighWords_108 : decode cX4_weighWords 108 = .ok (.iconst 1, 1) := by decide +kernel
theorem dX4_weighWords_109 : decode cX4_weighWords 109 = .ok (.iadd, 1) := by decide +kernel
theorem dX4_weighWords_110 : decode cX4_weighWords 110 = .ok (.iastore, 1) := by decide +kernel
theorem dX4_weighWords_111 : decode cX4_weighWords 111 = .ok (.goto 15, 3) := by decide +kernel
theorem dX4_weighWords_114 : decode cX4_weighWords 114 = .ok (.iload 4, 2) := by decide +kernel
theorem dX4_weighWords_116 : decode cX4_weighWords 116 = .ok (.ifCond .eq 10, 3) := by decide +kernel
theorem dX4_weighWords_119 : decode cX4_weighWords 119 = .ok (.aload_n 2, 1) := by decide +kernel
theorem dX4_weighWords_120 : decode cX4_weighWords 120 = .ok (.iconst 2, 1) := by decide +kernel
theorem dX4_weighWords_121 : decode cX4_weighWords 121 = .ok (.dup2, 1) := by decide +kernel
theorem dX4_weighWords_122 : decode cX4_weighWords 122 = .ok (.iaload, 1) := by decide +kernel
theorem dX4_weighWords_123 : decode cX4_weighWords 123 = .ok (.iconst 1, 1) := by decide +kernel
theorem dX4_weighWords_124 : decode cX4_weighWords 124 = .ok (.iadd, 1) := by decide +kernel
theorem dX4_weighWords_125 : decode cX4_weighWords 125 = .ok (.iastore, 1) := by decide +kernel
theorem dX4_weighWords_126 : decode cX4_weighWords 126 = .ok (.iinc 3 1, 3) := by decide +kernel
theorem dX4_weighWords_129 : decode cX4_weighWords 129 = .ok (.goto (-77), 3) := by decide +kernel
theorem dX4_weighWords_132 : decode cX4_weighWords 132 = .ok (.return_, 1) := by decide +kernel
theorem dX4_isKin_0 : decode cX4_isKin 0 = .ok (.aload_n 0, 1) := by decide +kernel
theorem dX4_isKin_1 : decode cX4_isKin 1 = .ok (.getfield 53, 3) := by decide +kernel
theorem dX4_isKin_4 : decode cX4_isKin 4 = .ok (.iload_n 1, 1) := by decide +kernel
theorem dX4_isKin_5 : decode cX4_isKin 5 = .ok (.invokevirtual 162, 3) := by decide +kernel
theorem dX4_isKin_8 : decode cX4_isKin 8 = .ok (.ifCond .eq 49, 3) := by decide +kernel
theorem dX4_isKin_11 : decode cX4_isKin 11 = .ok (.aload_n 0, 1) := by decide +kernel
theorem dX4_isKin_12 : decode cX4_isKin 12 = .ok (.getfield 53, 3) := by decide +kernel
theorem dX4_isKin_15 : decode cX4_isKin 15 = .ok (.iload_n 1, 1) := by decide +kernel
theorem dX4_isKin_16 : decode cX4_isKin 16 = .ok (.aload_n 0, 1) := by decide +kernel
theorem dX4_isKin_17 : decode cX4_isKin 17 = .ok (.getfield 57, 3) := by decide +kernel
theorem dX4_isKin_20 : decode cX4_isKin 20 = .ok (.getfield 168, 3) := by decide +kernel
theorem dX4_isKin_23 : decode cX4_isKin 23 = .ok (.iload_n 2, 1) := by decide +kernel
theorem dX4_isKin_24 : decode cX4_isKin 24 = .ok (.iaload, 1) := by decide +kernel
theorem dX4_isKin_25 : decode cX4_isKin 25 = .ok (.invokevirtual 171, 3) := by decide +kernel
theorem dX4_isKin_28 : decode cX4_isKin 28 = .ok (.iconst 4, 1) := by decide +kernel
theorem dX4_isKin_29 : decode cX4_isKin 29 = .ok (.if_icmp .le 24, 3) := by decide +kernel
theorem dX4_isKin_32 : decode cX4_isKin 32 = .ok (.aload_n 0, 1) := by decide +kernel
theorem dX4_isKin_33 : decode cX4_isKin 33 = .ok (.getfield 53, 3) := by decide +kernel
theorem dX4_isKin_36 : decode cX4_isKin 36 = .ok (.iload_n 1, 1) := by decide +kernel
theorem dX4_isKin_37 : decode cX4_isKin 37 = .ok (.aload_n 0, 1) := by decide +kernel
theorem dX4_isKin_38 : decode cX4_isKin 38 = .ok (.getfield 57, 3) := by decide +kernel
theorem dX4_isKin_41 : decode cX4_isKin 41 = .ok (.getfield 174, 3) := by decide +kernel
theorem dX4_isKin_44 : decode cX4_isKin 44 = .ok (.iload_n 2, 1) := by decide +kernel
theorem dX4_isKin_45 : decode cX4_isKin 45 = .ok (.iaload, 1) := by decide +kernel
theorem dX4_isKin_46 : decode cX4_isKin 46 = .ok (.invokevirtual 171, 3) := by decide +kernel
theorem dX4_isKin_49 : decode cX4_isKin 49 = .ok (.iconst 4, 1) := by decide +kernel
theorem dX4_isKin_50 : decode cX4_isKin 50 = .ok (.if_icmp .gt 7, 3) := by decide +kernel
theorem dX4_isKin_53 : decode cX4_isKin 53 = .ok (.iconst 1, 1) := by decide +kernel
theorem dX4_isKin_54 : decode cX4_isKin 54 = .ok (.goto 4, 3) := by decide +kernel
theorem dX4_isKin_57 : decode cX4_isKin 57 = .ok (.iconst 0, 1) := by decide +kernel
theorem dX4_isKin_58 : decode cX4_isKin 58 = .ok (.ireturn, 1) := by decide +kernel
theorem dX4_nextWaiting_0 : decode cX4_nextWaiting 0 = .ok (.iconst (-1), 1) := by decide +kernel
theorem dX4_nextWaiting_1 : decode cX4_nextWaiting 1 = .ok (.istore_n 1, 1) := by decide +kernel
theorem dX4_nextWaiting_2 : decode cX4_nextWaiting 2 = .ok (.iconst 0, 1) := by decide +kernel
theorem dX4_nextWaiting_3 : decode cX4_nextWaiting 3 = .ok (.istore_n 2, 1) := by decide +kernel
theorem dX4_nextWaiting_4 : decode cX4_nextWaiting 4 = .ok (.iload_n 2, 1) := by decide +kernel
theorem dX4_nextWaiting_5 : decode cX4_nextWaiting 5 = .ok (.aload_n 0, 1) := by decide +kernel
theorem dX4_nextWaiting_6 : decode cX4_nextWaiting 6 = .ok (.getfield 57, 3) := by decide +kernel
theorem dX4_nextWaiting_9 : decode cX4_nextWaiting 9 = .ok (.getfield 71, 3) := by decide +kernel
theorem dX4_nextWaiting_12 : decode cX4_nextWaiting 12 = .ok (.if_icmp .ge 41, 3) := by decide +kernel
theorem dX4_nextWaiting_15 : decode cX4_nextWaiting 15 = .ok (.aload_n 0, 1) := by decide +kernel
theorem dX4_nextWaiting_16 : decode cX4_nextWaiting 16 = .ok (.getfield 28, 3) := by decide +kernel
theorem dX4_nextWaiting_19 : decode cX4_nextWaiting 19 = .ok (.iload_n 2, 1) := by decide +kernel
theorem dX4_nextWaiting_20 : decode cX4_nextWaiting 20 = .ok (.iaload, 1) := by decide +kernel
theorem dX4_nextWaiting_21 : decode cX4_nextWaiting 21 = .ok (.iconst (-1), 1) := by decide +kernel
theorem dX4_nextWaiting_22 : decode cX4_nextWaiting 22 = .ok (.if_icmp .ne 25, 3) := by decide +kernel
theorem dX4_nextWaiting_25 : decode cX4_nextWaiting 25 = .ok (.iload_n 1, 1) := by decide +kernel
theorem dX4_nextWaiting_26 : decode cX4_nextWaiting 26 = .ok (.iconst (-1), 1) := by decide +kernel
theorem dX4_nextWaiting_27 : decode cX4_nextWaiting 27 = .ok (.if_icmp .eq 18, 3) := by decide +kernel
theorem dX4_nextWaiting_30 : decode cX4_nextWaiting 30 = .ok (.aload_n 0, 1) := by decide +kernel
theorem dX4_nextWaiting_31 : decode cX4_nextWaiting 31 = .ok (.getfield 25, 3) := by decide +kernel
theorem dX4_nextWaiting_34 : decode cX4_nextWaiting 34 = .ok (.iload_n 2, 1) := by decide +kernel
theorem dX4_nextWaiting_35 : decode cX4_nextWaiting 35 = .ok (.iaload, 1) := by decide +kernel
theorem dX4_nextWaiting_36 : decode cX4_nextWaiting 36 = .ok (.aload_n 0, 1) := by decide +kernel
theorem dX4_nextWaiting_37 : decode cX4_nextWaiting 37 = .ok (.getfield 25, 3) := by decide +kernel
theorem dX4_nextWaiting_40 : decode cX4_nextWaiting 40 = .ok (.iload_n 1, 1) := by decide +kernel
theorem dX4_nextWaiting_41 : decode cX4_nextWaiting 41 = .ok (.iaload, 1) := by decide +kernel
theorem dX4_nextWaiting_42 : decode cX4_nextWaiting 42 = .ok (.if_icmp .ge 5, 3) := by decide +kernel
theorem dX4_nextWaiting_45 : decode cX4_nextWaiting 45 = .ok (.iload_n 2, 1) := by decide +kernel
theorem dX4_nextWaiting_46 : decode cX4_nextWaiting 46 = .ok (.istore_n 1, 1) := by decide +kernel
theorem dX4_nextWaiting_47 : decode cX4_nextWaiting 47 = .ok (.iinc 2 1, 3) := by decide +kernel
theorem dX4_nextWaiting_50 : decode cX4_nextWaiting 50 = .ok (.goto (-46), 3) := by decide +kernel
theorem dX4_nextWaiting_53 : decode cX4_nextWaiting 53 = .ok (.iload_n 1, 1) := by decide +kernel
theorem dX4_nextWaiting_54 : decode cX4_nextWaiting 54 = .ok (.ireturn, 1) := by decide +kernel
theorem dX4_settle_0 : decode cX4_settle 0 = .ok (.aload_n 0, 1) := by decide +kernel
theorem dX4_settle_1 : decode cX4_settle 1 = .ok (.getfield 31, 3) := by decide +kernel
theorem dX4_settle_4 : decode cX4_settle 4 = .ok (.iload_n 1, 1) := by decide +kernel
theorem dX4_settle_5 : decode cX4_settle 5 = .ok (.aload_n 0, 1) := by decide +kernel
theorem dX4_settle_6 : decode cX4_settle 6 = .ok (.iload_n 1, 1) := by decide +kernel
theorem dX4_settle_7 : decode cX4_settle 7 = .ok (.invokevirtual 177, 3) := by decide +kernel
theorem dX4_settle_10 : decode cX4_settle 10 = .ok (.iastore, 1) := by decide +kernel
theorem dX4_settle_11 : decode cX4_settle 11 = .ok (.aload_n 0, 1) := by decide +kernel
theorem dX4_settle_12 : decode cX4_settle 12 = .ok (.getfield 31, 3) := by decide +kernel
theorem dX4_settle_15 : decode cX4_settle 15 = .ok (.iload_n 1, 1) := by decide +kernel
theorem dX4_settle_16 : decode cX4_settle 16 = .ok (.iaload, 1) := by decide +kernel
theorem dX4_settle_17 : decode cX4_settle 17 = .ok (.iconst (-1), 1) := by decide +kernel
theorem dX4_settle_18 : decode cX4_settle 18 = .ok (.if_icmp .eq 11, 3) := by decide +kernel
theorem dX4_settle_21 : decode cX4_settle 21 = .ok (.aload_n 0, 1) := by decide +kernel
theorem dX4_settle_22 : decode cX4_settle 22 = .ok (.getfield 28, 3) := by decide +kernel
theorem dX4_settle_25 : decode cX4_settle 25 = .ok (.iload_n 1, 1) := by decide +kernel
theorem dX4_settle_26 : decode cX4_settle 26 = .ok (.iconst 4, 1) := by decide +kernel
theorem dX4_settle_27 : decode cX4_settle 27 = .ok (.iastore, 1) := by decide +kernel
theorem dX4_settle_28 : decode cX4_settle 28 = .ok (.return_, 1) := by decide +kernel
theorem dX4_settle_29 : decode cX4_settle 29 = .ok (.aload_n 0, 1) := by decide +kernel
theorem dX4_settle_30 : decode cX4_settle 30 = .ok (.getfield 34, 3) := by decide +kernel
theorem dX4_settle_33 : decode cX4_settle 33 = .ok (.iload_n 1, 1) := by decide +kernel
theorem dX4_settle_34 : decode cX4_settle 34 = .ok (.aload_n 0, 1) := by decide +kernel
theorem dX4_settle_35 : decode cX4_settle 35 = .ok (.iload_n 1, 1) := by decide +kernel
theorem dX4_settle_36 : decode cX4_settle 36 = .ok (.invokevirtual 180, 3) := by decide +kernel
theorem dX4_settle_39 : decode cX4_settle 39 = .ok (.iastore, 1) := by decide +kernel
theorem dX4_settle_40 : decode cX4_settle 40 = .ok (.aload_n 0, 1) := by decide +kernel
theorem dX4_settle_41 : decode cX4_settle 41 = .ok (.getfield 34, 3) := by decide +kernel
theorem dX4_settle_44 : decode cX4_settle 44 = .ok (.iload_n 1, 1) := by decide +kernel
theorem dX4_settle_45 : decode cX4_settle 45 = .ok (.iaload, 1) := by decide +kernel
theorem dX4_settle_46 : decode cX4_settle 46 = .ok (.iconst (-1), 1) := by decide +kernel
theorem dX4_settle_47 : decode cX4_settle 47 = .ok (.if_icmp .eq 11, 3) := by decide +kernel
theorem dX4_settle_50 : decode cX4_settle 50 = .ok (.aload_n 0, 1) := by decide +kernel
theorem dX4_settle_51 : decode cX4_settle 51 = .ok (.getfield 28, 3) := by decide +kernel
theorem dX4_settle_54 : decode cX4_settle 54 = .ok (.iload_n 1, 1) := by decide +kernel
theorem dX4_settle_55 : decode cX4_settle 55 = .ok (.iconst 5, 1) := by decide +kernel
theorem dX4_settle_56 : decode cX4_settle 56 = .ok (.iastore, 1) := by decide +kernel
theorem dX4_settle_57 : decode cX4_settle 57 = .ok (.return_, 1) := by decide +kernel
theorem dX4_settle_58 : decode cX4_settle 58 = .ok (.aload_n 0, 1) := by decide +kernel
theorem dX4_settle_59 : decode cX4_settle 59 = .ok (.iload_n 1, 1) := by decide +kernel
theorem dX4_settle_60 : decode cX4_settle 60 = .ok (.invokevirtual 183, 3) := by decide +kernel
theorem dX4_settle_63 : decode cX4_settle 63 = .ok (.aload_n 0, 1) := by decide +kernel
theorem dX4_settle_64 : decode cX4_settle 64 = .ok (.getfield 28, 3) := by decide +kernel
theorem dX4_settle_67 : decode cX4_settle 67 = .ok (.iload_n 1, 1) := by decide +kernel
theorem dX4_settle_68 : decode cX4_settle 68 = .ok (.bipush 6, 2) := by decide +kernel
theorem dX4_settle_70 : decode cX4_settle 70 = .ok (.iastore, 1) := by decide +kernel
theorem dX4_settle_71 : decode cX4_settle 71 = .ok (.aload_n 0, 1) := by decide +kernel
theorem dX4_settle_72 : decode cX4_settle 72 = .ok (.iload_n 1, 1) := by decide +kernel
theorem dX4_settle_73 : decode cX4_settle 73 = .ok (.invokevirtual 186, 3) := by decide +kernel
theorem dX4_settle_76 : decode cX4_settle 76 = .ok (.return_, 1) := by decide +kernel
theorem dX4_firstBar_0 : decode cX4_firstBar 0 = .ok (.aload_n 0, 1) := by decide +kernel
theorem dX4_firstBar_1 : decode cX4_firstBar 1 = .ok (.getfield 57, 3) := by decide +kernel
theorem dX4_firstBar_4 : decode cX4_firstBar 4 = .ok (.getfield 168, 3) := by decide +kernel
theorem dX4_firstBar_7 : decode cX4_firstBar 7 = .ok (.iload_n 1, 1) := by decide +kernel
theorem dX4_firstBar_8 : decode cX4_firstBar 8 = .ok (.iaload, 1) := by decide +kernel
theorem dX4_firstBar_9 : decode cX4_firstBar 9 = .ok (.istore_n 2, 1) := by decide +kernel
theorem dX4_firstBar_10 : decode cX4_firstBar 10 = .ok (.aload_n 0, 1) := by decide +kernel
theorem dX4_firstBar_11 : decode cX4_firstBar 11 = .ok (.getfield 57, 3) := by decide +kernel
theorem dX4_firstBar_14 : decode cX4_firstBar 14 = .ok (.getfield 174, 3) := by decide +kernel
theorem dX4_firstBar_17 : decode cX4_firstBar 17 = .ok (.iload_n 1, 1) := by decide +kernel
theorem dX4_firstBar_18 : decode cX4_firstBar 18 = .ok (.iaload, 1) := by decide +kernel
theorem dX4_firstBar_19 : decode cX4_firstBar 19 = .ok (.istore_n 3, 1) := by decide +kernel
theorem dX4_firstBar_20 : decode cX4_firstBar 20 = .ok (.aload_n 0, 1) := by decide +kernel
theorem dX4_firstBar_21 : decode cX4_firstBar 21 = .ok (.iconst 0, 1) := by decide +kernel
theorem dX4_firstBar_22 : decode cX4_firstBar 22 = .ok (.iload_n 1, 1) := by decide +kernel
theorem dX4_firstBar_23 : decode cX4_firstBar 23 = .ok (.invokevirtual 189, 3) := by decide +kernel
theorem dX4_firstBar_26 : decode cX4_firstBar 26 = .ok (.aload_n 0, 1) := by decide +kernel
theorem dX4_firstBar_27 : decode cX4_firstBar 27 = .ok (.getfield 25, 3) := by decide +kernel
theorem dX4_firstBar_30 : decode cX4_firstBar 30 = .ok (.iload_n 1, 1) := by decide +kernel
theorem dX4_firstBar_31 : decode cX4_firstBar 31 = .ok (.iaload, 1) := by decide +kernel
theorem dX4_firstBar_32 : decode cX4_firstBar 32 = .ok (.if_icmp .gt 6, 3) := by decide +kernel
theorem dX4_firstBar_35 : decode cX4_firstBar 35 = .ok (.bipush (-2), 2) := by decide +kernel
theorem dX4_firstBar_37 : decode cX4_firstBar 37 = .ok (.ireturn, 1) := by decide +kernel
theorem dX4_firstBar_38 : decode cX4_firstBar 38 = .ok (.aload_n 0, 1) := by decide +kernel
theorem dX4_firstBar_39 : decode cX4_firstBar 39 = .ok (.getfield 12, 3) := by decide +kernel
theorem dX4_firstBar_42 : decode cX4_firstBar 42 = .ok (.getfield 97, 3) := by decide +kernel
theorem dX4_firstBar_45 : decode cX4_firstBar 45 = .ok (.astore 4, 2) := by decide +kernel
theorem dX4_firstBar_47 : decode cX4_firstBar 47 = .ok (.aload_n 0, 1) := by decide +kernel
theorem dX4_firstBar_48 : decode cX4_firstBar 48 = .ok (.getfield 12, 3) := by decide +kernel
theorem dX4_firstBar_51 : decode cX4_firstBar 51 = .ok (.invokevirtual 94, 3) := by decide +kernel
theorem dX4_firstBar_54 : decode cX4_firstBar 54 = .ok (.aload 4, 2) := by decide +kernel
theorem dX4_firstBar_56 : decode cX4_firstBar 56 = .ok (.bipush 6, 2) := by decide +kernel
theorem dX4_firstBar_58 : decode cX4_firstBar 58 = .ok (.aload_n 0, 1) := by decide +kernel
theorem dX4_firstBar_59 : decode cX4_firstBar 59 = .ok (.getfield 53, 3) := by decide +kernel
theorem dX4_firstBar_62 : decode cX4_firstBar 62 = .ok (.iload_n 2, 1) := by decide +kernel
theorem dX4_firstBar_63 : decode cX4_firstBar 63 = .ok (.iload_n 3, 1) := by decide +kernel
theorem dX4_firstBar_64 : decode cX4_firstBar 64 = .ok (.invokevirtual 171, 3) := by decide +kernel
theorem dX4_firstBar_67 : decode cX4_firstBar 67 = .ok (.iastore, 1) := by decide +kernel
theorem dX4_firstBar_68 : decode cX4_firstBar 68 = .ok (.aload 4, 2) := by decide +kernel
theorem dX4_firstBar_70 : decode cX4_firstBar 70 = .ok (.bipush 7, 2) := by decide +kernel
theorem dX4_firstBar_72 : decode cX4_firstBar 72 = .ok (.aload_n 0, 1) := by decide +kernel
theorem dX4_firstBar_73 : decode cX4_firstBar 73 = .ok (.iload_n 2, 1) := by decide +kernel
theorem dX4_firstBar_74 : decode cX4_firstBar 74 = .ok (.aload_n 0, 1) := by decide +kernel
theorem dX4_firstBar_75 : decode cX4_firstBar 75 = .ok (.getfield 25, 3) := by decide +kernel
theorem dX4_firstBar_78 : decode cX4_firstBar 78 = .ok (.iload_n 1, 1) := by decide +kernel
theorem dX4_firstBar_79 : decode cX4_firstBar 79 = .ok (.iaload, 1) := by decide +kernel
theorem dX4_firstBar_80 : decode cX4_firstBar 80 = .ok (.invokevirtual 192, 3) := by decide +kernel
theorem dX4_firstBar_83 : decode cX4_firstBar 83 = .ok (.aload_n 0, 1) := by decide +kernel
theorem dX4_firstBar_84 : decode cX4_firstBar 84 = .ok (.iload_n 3, 1) := by decide +kernel
theorem dX4_firstBar_85 : decode cX4_firstBar 85 = .ok (.aload_n 0, 1) := by decide +kernel
theorem dX4_firstBar_86 : decode cX4_firstBar 86 = .ok (.getfield 25, 3) := by decide +kernel
theorem dX4_firstBar_89 : decode cX4_firstBar 89 = .ok (.iload_n 1, 1) := by decide +kernel
theorem dX4_firstBar_90 : decode cX4_firstBar 90 = .ok (.iaload, 1) := by decide +kernel
theorem dX4_firstBar_91 : decode cX4_firstBar 91 = .ok (.invokevirtual 192, 3) := by decide +kernel
theorem dX4_firstBar_94 : decode cX4_firstBar 94 = .ok (.iadd, 1) := by decide +kernel
theorem dX4_firstBar_95 : decode cX4_firstBar 95 = .ok (.iastore, 1) := by decide +kernel
theorem dX4_firstBar_96 : decode cX4_firstBar 96 = .ok (.aload 4, 2) := by decide +kernel
theorem dX4_firstBar_98 : decode cX4_firstBar 98 = .ok (.bipush 8, 2) := by decide +kernel
theorem dX4_firstBar_100 : decode cX4_firstBar 100 = .ok (.aload_n 0, 1) := by decide +kernel
theorem dX4_firstBar_101 : decode cX4_firstBar 101 = .ok (.getfield 61, 3) := by decide +kernel
theorem dX4_firstBar_104 : decode cX4_firstBar 104 = .ok (.iload_n 2, 1) := by decide +kernel
theorem dX4_firstBar_105 : decode cX4_firstBar 105 = .ok (.iload_n 3, 1) := by decide +kernel
theorem dX4_firstBar_106 : decode cX4_firstBar 106 = .ok (.invokevirtual 195, 3) := by decide +kernel
theorem dX4_firstBar_109 : decode cX4_firstBar 109 = .ok (.aload_n 0, 1) := by decide +kernel
theorem dX4_firstBar_110 : decode cX4_firstBar 110 = .ok (.getfield 25, 3) := by decide +kernel
theorem dX4_firstBar_113 : decode cX4_firstBar 113 = .ok (.iload_n 1, 1) := by decide +kernel
theorem dX4_firstBar_114 : decode cX4_firstBar 114 = .ok (.iaload, 1) := by decide +kernel
theorem dX4_firstBar_115 : decode cX4_firstBar 115 = .ok (.if_icmp .gt 7, 3) := by decide +kernel
theorem dX4_firstBar_118 : decode cX4_firstBar 118 = .ok (.iconst 1, 1) := by decide +kernel
theorem dX4_firstBar_119 : decode cX4_firstBar 119 = .ok (.goto 4, 3) := by decide +kernel
theorem dX4_firstBar_122 : decode cX4_firstBar 122 = .ok (.iconst 0, 1) := by decide +kernel
theorem dX4_firstBar_123 : decode cX4_firstBar 123 = .ok (.iastore, 1) := by decide +kernel
theorem dX4_firstBar_124 : decode cX4_firstBar 124 = .ok (.aload_n 0, 1) := by decide +kernel
theorem dX4_firstBar_125 : decode cX4_firstBar 125 = .ok (.getfield 25, 3) := by decide +kernel
theorem dX4_firstBar_128 : decode cX4_firstBar 128 = .ok (.iload_n 1, 1) := by decide +kernel
theorem dX4_firstBar_129 : decode cX4_firstBar 129 = .ok (.iaload, 1) := by decide +kernel
theorem dX4_firstBar_130 : decode cX4_firstBar 130 = .ok (.aload_n 0, 1) := by decide +kernel
theorem dX4_firstBar_131 : decode cX4_firstBar 131 = .ok (.getfield 53, 3) := by decide +kernel
theorem dX4_firstBar_134 : decode cX4_firstBar 134 = .ok (.getfield 198, 3) := by decide +kernel
theorem dX4_firstBar_137 : decode cX4_firstBar 137 = .ok (.iload_n 2, 1) := by decide +kernel
theorem dX4_firstBar_138 : decode cX4_firstBar 138 = .ok (.iaload, 1) := by decide +kernel
theorem dX4_firstBar_139 : decode cX4_firstBar 139 = .ok (.aload_n 0, 1) := by decide +kernel
theorem dX4_firstBar_140 : decode cX4_firstBar 140 = .ok (.getfield 53, 3) := by decide +kernel
theorem dX4_firstBar_143 : decode cX4_firstBar 143 = .ok (.getfield 198, 3) := by decide +kernel
theorem dX4_firstBar_146 : decode cX4_firstBar 146 = .ok (.iload_n 3, 1) := by decide +kernel
theorem dX4_firstBar_147 : decode cX4_firstBar 147 = .ok (.iaload, 1) := by decide +kernel
theorem dX4_firstBar_148 : decode cX4_firstBar 148 = .ok (.invokestatic 143, 3) := by decide +kernel
theorem dX4_firstBar_151 : decode cX4_firstBar 151 = .ok (.isub, 1) := by decide +kernel
theorem dX4_firstBar_152 : decode cX4_firstBar 152 = .ok (.istore 5, 2) := by decide +kernel
theorem dX4_firstBar_154 : decode cX4_firstBar 154 = .ok (.aload 4, 2) := by decide +kernel
theorem dX4_firstBar_156 : decode cX4_firstBar 156 = .ok (.iconst 5, 1) := by decide +kernel
theorem dX4_firstBar_157 : decode cX4_firstBar 157 = .ok (.iconst 0, 1) := by decide +kernel
theorem dX4_firstBar_158 : decode cX4_firstBar 158 = .ok (.iload 5, 2) := by decide +kernel
theorem dX4_firstBar_160 : decode cX4_firstBar 160 = .ok (.invokestatic 143, 3) := by decide +kernel
theorem dX4_firstBar_163 : decode cX4_firstBar 163 = .ok (.sipush 365, 3) := by decide +kernel
theorem dX4_firstBar_166 : decode cX4_firstBar 166 = .ok (.idiv, 1) := by decide +kernel
theorem dX4_firstBar_167 : decode cX4_firstBar 167 = .ok (.iastore, 1) := by decide +kernel
theorem dX4_firstBar_168 : decode cX4_firstBar 168 = .ok (.aload 4, 2) := by decide +kernel
theorem dX4_firstBar_170 : decode cX4_firstBar 170 = .ok (.iconst 4, 1) := by decide +kernel
theorem dX4_firstBar_171 : decode cX4_firstBar 171 = .ok (.aload_n 0, 1) := by decide +kernel
theorem dX4_firstBar_172 : decode cX4_firstBar 172 = .ok (.getfield 57, 3) := by decide +kernel
theorem dX4_firstBar_175 : decode cX4_firstBar 175 = .ok (.getfield 103, 3) := by decide +kernel
theorem dX4_firstBar_178 : decode cX4_firstBar 178 = .ok (.iload_n 1, 1) := by decide +kernel
theorem dX4_firstBar_179 : decode cX4_firstBar 179 = .ok (.iaload, 1) := by decide +kernel
theorem dX4_firstBar_180 : decode cX4_firstBar 180 = .ok (.iastore, 1) := by decide +kernel
theorem dX4_firstBar_181 : decode cX4_firstBar 181 = .ok (.aload_n 0, 1) := by decide +kernel
theorem dX4_firstBar_182 : decode cX4_firstBar 182 = .ok (.iload_n 1, 1) := by decide +kernel
theorem dX4_firstBar_183 : decode cX4_firstBar 183 = .ok (.invokevirtual 106, 3) := by decide +kernel
theorem dX4_firstBar_186 : decode cX4_firstBar 186 = .ok (.sipush 10001, 3) := by decide +kernel
theorem dX4_firstBar_189 : decode cX4_firstBar 189 = .ok (.aload_n 0, 1) := by decide +kernel
theorem dX4_firstBar_190 : decode cX4_firstBar 190 = .ok (.getfield 12, 3) := by decide +kernel
theorem dX4_firstBar_193 : decode cX4_firstBar 193 = .ok (.invokevirtual 134, 3) := by decide +kernel
theorem dX4_firstBar_196 : decode cX4_firstBar 196 = .ok (.ireturn, 1) := by decide +kernel
theorem dX4_firstOfBoth_0 : decode cX4_firstOfBoth 0 = .ok (.aload_n 0, 1) := by decide +kernel
end
section
theorem dX4_firstOfBoth_1 : decode cX4_firstOfBoth 1 = .ok (.getfield 61, 3) := by decide +kernel
theorem dX4_firstOfBoth_4 : decode cX4_firstOfBoth 4 = .ok (.iload_n 1, 1) := by decide +kernel
theorem dX4_firstOfBoth_5 : decode cX4_firstOfBoth 5 = .ok (.aload_n 0, 1) := by decide +kernel
theorem dX4_firstOfBoth_6 : decode cX4_firstOfBoth 6 = .ok (.getfield 57, 3) := by decide +kernel
theorem dX4_firstOfBoth_9 : decode cX4_firstOfBoth 9 = .ok (.getfield 168, 3) := by decide +kernel
theorem dX4_firstOfBoth_12 : decode cX4_firstOfBoth 12 = .ok (.iload_n 2, 1) := by decide +kernel
theorem dX4_firstOfBoth_13 : decode cX4_firstOfBoth 13 = .ok (.iaload, 1) := by decide +kernel
theorem dX4_firstOfBoth_14 : decode cX4_firstOfBoth 14 = .ok (.invokevirtual 201, 3) := by decide +kernel
theorem dX4_firstOfBoth_17 : decode cX4_firstOfBoth 17 = .ok (.aload_n 0, 1) := by decide +kernel
theorem dX4_firstOfBoth_18 : decode cX4_firstOfBoth 18 = .ok (.getfield 61, 3) := by decide +kernel
theorem dX4_firstOfBoth_21 : decode cX4_firstOfBoth 21 = .ok (.iload_n 1, 1) := by decide +kernel
theorem dX4_firstOfBoth_22 : decode cX4_firstOfBoth 22 = .ok (.aload_n 0, 1) := by decide +kernel
theorem dX4_firstOfBoth_23 : decode cX4_firstOfBoth 23 = .ok (.getfield 57, 3) := by decide +kernel
theorem dX4_firstOfBoth_26 : decode cX4_firstOfBoth 26 = .ok (.getfield 174, 3) := by decide +kernel
theorem dX4_firstOfBoth_29 : decode cX4_firstOfBoth 29 = .ok (.iload_n 2, 1) := by decide +kernel
theorem dX4_firstOfBoth_30 : decode cX4_firstOfBoth 30 = .ok (.iaload, 1) := by decide +kernel
theorem dX4_firstOfBoth_31 : decode cX4_firstOfBoth 31 = .ok (.invokevirtual 201, 3) := by decide +kernel
theorem dX4_firstOfBoth_34 : decode cX4_firstOfBoth 34 = .ok (.invokestatic 204, 3) := by decide +kernel
theorem dX4_firstOfBoth_37 : decode cX4_firstOfBoth 37 = .ok (.ireturn, 1) := by decide +kernel
theorem dX4_vowed_0 : decode cX4_vowed 0 = .ok (.aload_n 0, 1) := by decide +kernel
theorem dX4_vowed_1 : decode cX4_vowed 1 = .ok (.getfield 61, 3) := by decide +kernel
theorem dX4_vowed_4 : decode cX4_vowed 4 = .ok (.iconst 1, 1) := by decide +kernel
theorem dX4_vowed_5 : decode cX4_vowed 5 = .ok (.iload_n 1, 1) := by decide +kernel
theorem dX4_vowed_6 : decode cX4_vowed 6 = .ok (.invokevirtual 201, 3) := by decide +kernel
theorem dX4_vowed_9 : decode cX4_vowed 9 = .ok (.iload_n 2, 1) := by decide +kernel
theorem dX4_vowed_10 : decode cX4_vowed 10 = .ok (.if_icmp .gt 7, 3) := by decide +kernel
theorem dX4_vowed_13 : decode cX4_vowed 13 = .ok (.iconst 1, 1) := by decide +kernel
theorem dX4_vowed_14 : decode cX4_vowed 14 = .ok (.goto 4, 3) := by decide +kernel
theorem dX4_vowed_17 : decode cX4_vowed 17 = .ok (.iconst 0, 1) := by decide +kernel
theorem dX4_vowed_18 : decode cX4_vowed 18 = .ok (.ireturn, 1) := by decide +kernel
theorem dX4_isRival_0 : decode cX4_isRival 0 = .ok (.aload_n 0, 1) := by decide +kernel
theorem dX4_isRival_1 : decode cX4_isRival 1 = .ok (.getfield 28, 3) := by decide +kernel
theorem dX4_isRival_4 : decode cX4_isRival 4 = .ok (.iload_n 1, 1) := by decide +kernel
theorem dX4_isRival_5 : decode cX4_isRival 5 = .ok (.iaload, 1) := by decide +kernel
theorem dX4_isRival_6 : decode cX4_isRival 6 = .ok (.bipush 6, 2) := by decide +kernel
theorem dX4_isRival_8 : decode cX4_isRival 8 = .ok (.if_icmp .ne 34, 3) := by decide +kernel
theorem dX4_isRival_11 : decode cX4_isRival 11 = .ok (.aload_n 0, 1) := by decide +kernel
theorem dX4_isRival_12 : decode cX4_isRival 12 = .ok (.getfield 37, 3) := by decide +kernel
theorem dX4_isRival_15 : decode cX4_isRival 15 = .ok (.iload_n 1, 1) := by decide +kernel
theorem dX4_isRival_16 : decode cX4_isRival 16 = .ok (.iaload, 1) := by decide +kernel
theorem dX4_isRival_17 : decode cX4_isRival 17 = .ok (.aload_n 0, 1) := by decide +kernel
theorem dX4_isRival_18 : decode cX4_isRival 18 = .ok (.getfield 25, 3) := by decide +kernel
theorem dX4_isRival_21 : decode cX4_isRival 21 = .ok (.iload_n 2, 1) := by decide +kernel
theorem dX4_isRival_22 : decode cX4_isRival 22 = .ok (.iaload, 1) := by decide +kernel
theorem dX4_isRival_23 : decode cX4_isRival 23 = .ok (.if_icmp .le 19, 3) := by decide +kernel
theorem dX4_isRival_26 : decode cX4_isRival 26 = .ok (.aload_n 0, 1) := by decide +kernel
theorem dX4_isRival_27 : decode cX4_isRival 27 = .ok (.getfield 57, 3) := by decide +kernel
theorem dX4_isRival_30 : decode cX4_isRival 30 = .ok (.iload_n 1, 1) := by decide +kernel
theorem dX4_isRival_31 : decode cX4_isRival 31 = .ok (.iload_n 2, 1) := by decide +kernel
theorem dX4_isRival_32 : decode cX4_isRival 32 = .ok (.invokevirtual 207, 3) := by decide +kernel
theorem dX4_isRival_35 : decode cX4_isRival 35 = .ok (.ifCond .eq 7, 3) := by decide +kernel
theorem dX4_isRival_38 : decode cX4_isRival 38 = .ok (.iconst 1, 1) := by decide +kernel
theorem dX4_isRival_39 : decode cX4_isRival 39 = .ok (.goto 4, 3) := by decide +kernel
theorem dX4_isRival_42 : decode cX4_isRival 42 = .ok (.iconst 0, 1) := by decide +kernel
theorem dX4_isRival_43 : decode cX4_isRival 43 = .ok (.ireturn, 1) := by decide +kernel
theorem dX4_firstUnyielding_0 : decode cX4_firstUnyielding 0 = .ok (.aload_n 0, 1) := by decide +kernel
theorem dX4_firstUnyielding_1 : decode cX4_firstUnyielding 1 = .ok (.iload_n 1, 1) := by decide +kernel
theorem dX4_firstUnyielding_2 : decode cX4_firstUnyielding 2 = .ok (.invokevirtual 106, 3) := by decide +kernel
theorem dX4_firstUnyielding_5 : decode cX4_firstUnyielding 5 = .ok (.astore_n 2, 1) := by decide +kernel
theorem dX4_firstUnyielding_6 : decode cX4_firstUnyielding 6 = .ok (.iconst 0, 1) := by decide +kernel
theorem dX4_firstUnyielding_7 : decode cX4_firstUnyielding 7 = .ok (.istore_n 3, 1) := by decide +kernel
theorem dX4_firstUnyielding_8 : decode cX4_firstUnyielding 8 = .ok (.iload_n 3, 1) := by decide +kernel
theorem dX4_firstUnyielding_9 : decode cX4_firstUnyielding 9 = .ok (.aload_n 0, 1) := by decide +kernel
theorem dX4_firstUnyielding_10 : decode cX4_firstUnyielding 10 = .ok (.getfield 57, 3) := by decide +kernel
theorem dX4_firstUnyielding_13 : decode cX4_firstUnyielding 13 = .ok (.getfield 71, 3) := by decide +kernel
theorem dX4_firstUnyielding_16 : decode cX4_firstUnyielding 16 = .ok (.if_icmp .ge 115, 3) := by decide +kernel
theorem dX4_firstUnyielding_19 : decode cX4_firstUnyielding 19 = .ok (.aload_n 0, 1) := by decide +kernel
theorem dX4_firstUnyielding_20 : decode cX4_firstUnyielding 20 = .ok (.iload_n 3, 1) := by decide +kernel
theorem dX4_firstUnyielding_21 : decode cX4_firstUnyielding 21 = .ok (.iload_n 1, 1) := by decide +kernel
theorem dX4_firstUnyielding_22 : decode cX4_firstUnyielding 22 = .ok (.invokevirtual 210, 3) := by decide +kernel
theorem dX4_firstUnyielding_25 : decode cX4_firstUnyielding 25 = .ok (.ifCond .eq 100, 3) := by decide +kernel
theorem dX4_firstUnyielding_28 : decode cX4_firstUnyielding 28 = .ok (.aload_n 0, 1) := by decide +kernel
theorem dX4_firstUnyielding_29 : decode cX4_firstUnyielding 29 = .ok (.getfield 57, 3) := by decide +kernel
theorem dX4_firstUnyielding_32 : decode cX4_firstUnyielding 32 = .ok (.iload_n 3, 1) := by decide +kernel
theorem dX4_firstUnyielding_33 : decode cX4_firstUnyielding 33 = .ok (.iload_n 1, 1) := by decide +kernel
theorem dX4_firstUnyielding_34 : decode cX4_firstUnyielding 34 = .ok (.invokevirtual 207, 3) := by decide +kernel
theorem dX4_firstUnyielding_37 : decode cX4_firstUnyielding 37 = .ok (.iconst 3, 1) := by decide +kernel
theorem dX4_firstUnyielding_38 : decode cX4_firstUnyielding 38 = .ok (.if_icmp .eq 87, 3) := by decide +kernel
theorem dX4_firstUnyielding_41 : decode cX4_firstUnyielding 41 = .ok (.aload_n 0, 1) := by decide +kernel
theorem dX4_firstUnyielding_42 : decode cX4_firstUnyielding 42 = .ok (.getfield 12, 3) := by decide +kernel
theorem dX4_firstUnyielding_45 : decode cX4_firstUnyielding 45 = .ok (.invokevirtual 94, 3) := by decide +kernel
theorem dX4_firstUnyielding_48 : decode cX4_firstUnyielding 48 = .ok (.aload_n 0, 1) := by decide +kernel
theorem dX4_firstUnyielding_49 : decode cX4_firstUnyielding 49 = .ok (.getfield 12, 3) := by decide +kernel
theorem dX4_firstUnyielding_52 : decode cX4_firstUnyielding 52 = .ok (.getfield 97, 3) := by decide +kernel
theorem dX4_firstUnyielding_55 : decode cX4_firstUnyielding 55 = .ok (.bipush 9, 2) := by decide +kernel
theorem dX4_firstUnyielding_57 : decode cX4_firstUnyielding 57 = .ok (.aload_n 0, 1) := by decide +kernel
theorem dX4_firstUnyielding_58 : decode cX4_firstUnyielding 58 = .ok (.getfield 57, 3) := by decide +kernel
theorem dX4_firstUnyielding_61 : decode cX4_firstUnyielding 61 = .ok (.getfield 103, 3) := by decide +kernel
theorem dX4_firstUnyielding_64 : decode cX4_firstUnyielding 64 = .ok (.iload_n 3, 1) := by decide +kernel
theorem dX4_firstUnyielding_65 : decode cX4_firstUnyielding 65 = .ok (.iaload, 1) := by decide +kernel
theorem dX4_firstUnyielding_66 : decode cX4_firstUnyielding 66 = .ok (.iastore, 1) := by decide +kernel
theorem dX4_firstUnyielding_67 : decode cX4_firstUnyielding 67 = .ok (.aload_n 0, 1) := by decide +kernel
theorem dX4_firstUnyielding_68 : decode cX4_firstUnyielding 68 = .ok (.getfield 12, 3) := by decide +kernel
theorem dX4_firstUnyielding_71 : decode cX4_firstUnyielding 71 = .ok (.getfield 97, 3) := by decide +kernel
theorem dX4_firstUnyielding_74 : decode cX4_firstUnyielding 74 = .ok (.iconst 4, 1) := by decide +kernel
theorem dX4_firstUnyielding_75 : decode cX4_firstUnyielding 75 = .ok (.aload_n 0, 1) := by decide +kernel
theorem dX4_firstUnyielding_76 : decode cX4_firstUnyielding 76 = .ok (.getfield 57, 3) := by decide +kernel
theorem dX4_firstUnyielding_79 : decode cX4_firstUnyielding 79 = .ok (.getfield 103, 3) := by decide +kernel
theorem dX4_firstUnyielding_82 : decode cX4_firstUnyielding 82 = .ok (.iload_n 1, 1) := by decide +kernel
theorem dX4_firstUnyielding_83 : decode cX4_firstUnyielding 83 = .ok (.iaload, 1) := by decide +kernel
theorem dX4_firstUnyielding_84 : decode cX4_firstUnyielding 84 = .ok (.iastore, 1) := by decide +kernel
theorem dX4_firstUnyielding_85 : decode cX4_firstUnyielding 85 = .ok (.aload_n 0, 1) := by decide +kernel
theorem dX4_firstUnyielding_86 : decode cX4_firstUnyielding 86 = .ok (.getfield 12, 3) := by decide +kernel
theorem dX4_firstUnyielding_89 : decode cX4_firstUnyielding 89 = .ok (.getfield 97, 3) := by decide +kernel
theorem dX4_firstUnyielding_92 : decode cX4_firstUnyielding 92 = .ok (.bipush 11, 2) := by decide +kernel
theorem dX4_firstUnyielding_94 : decode cX4_firstUnyielding 94 = .ok (.aload_n 0, 1) := by decide +kernel
theorem dX4_firstUnyielding_95 : decode cX4_firstUnyielding 95 = .ok (.getfield 25, 3) := by decide +kernel
theorem dX4_firstUnyielding_98 : decode cX4_firstUnyielding 98 = .ok (.iload_n 1, 1) := by decide +kernel
theorem dX4_firstUnyielding_99 : decode cX4_firstUnyielding 99 = .ok (.iaload, 1) := by decide +kernel
theorem dX4_firstUnyielding_100 : decode cX4_firstUnyielding 100 = .ok (.aload_n 0, 1) := by decide +kernel
theorem dX4_firstUnyielding_101 : decode cX4_firstUnyielding 101 = .ok (.getfield 25, 3) := by decide +kernel
theorem dX4_firstUnyielding_104 : decode cX4_firstUnyielding 104 = .ok (.iload_n 3, 1) := by decide +kernel
theorem dX4_firstUnyielding_105 : decode cX4_firstUnyielding 105 = .ok (.iaload, 1) := by decide +kernel
theorem dX4_firstUnyielding_106 : decode cX4_firstUnyielding 106 = .ok (.isub, 1) := by decide +kernel
theorem dX4_firstUnyielding_107 : decode cX4_firstUnyielding 107 = .ok (.iastore, 1) := by decide +kernel
theorem dX4_firstUnyielding_108 : decode cX4_firstUnyielding 108 = .ok (.aload_n 2, 1) := by decide +kernel
theorem dX4_firstUnyielding_109 : decode cX4_firstUnyielding 109 = .ok (.sipush 10002, 3) := by decide +kernel
theorem dX4_firstUnyielding_112 : decode cX4_firstUnyielding 112 = .ok (.aload_n 0, 1) := by decide +kernel
theorem dX4_firstUnyielding_113 : decode cX4_firstUnyielding 113 = .ok (.getfield 12, 3) := by decide +kernel
theorem dX4_firstUnyielding_116 : decode cX4_firstUnyielding 116 = .ok (.invokevirtual 134, 3) := by decide +kernel
theorem dX4_firstUnyielding_119 : decode cX4_firstUnyielding 119 = .ok (.iconst (-1), 1) := by decide +kernel
theorem dX4_firstUnyielding_120 : decode cX4_firstUnyielding 120 = .ok (.if_icmp .ne 5, 3) := by decide +kernel
theorem dX4_firstUnyielding_123 : decode cX4_firstUnyielding 123 = .ok (.iload_n 3, 1) := by decide +kernel
theorem dX4_firstUnyielding_124 : decode cX4_firstUnyielding 124 = .ok (.ireturn, 1) := by decide +kernel
theorem dX4_firstUnyielding_125 : decode cX4_firstUnyielding 125 = .ok (.iinc 3 1, 3) := by decide +kernel
theorem dX4_firstUnyielding_128 : decode cX4_firstUnyielding 128 = .ok (.goto (-120), 3) := by decide +kernel
theorem dX4_firstUnyielding_131 : decode cX4_firstUnyielding 131 = .ok (.iconst (-1), 1) := by decide +kernel
theorem dX4_firstUnyielding_132 : decode cX4_firstUnyielding 132 = .ok (.ireturn, 1) := by decide +kernel
theorem dX4_endRivals_0 : decode cX4_endRivals 0 = .ok (.iconst 0, 1) := by decide +kernel
theorem dX4_endRivals_1 : decode cX4_endRivals 1 = .ok (.istore_n 2, 1) := by decide +kernel
theorem dX4_endRivals_2 : decode cX4_endRivals 2 = .ok (.iload_n 2, 1) := by decide +kernel
theorem dX4_endRivals_3 : decode cX4_endRivals 3 = .ok (.aload_n 0, 1) := by decide +kernel
theorem dX4_endRivals_4 : decode cX4_endRivals 4 = .ok (.getfield 57, 3) := by decide +kernel
theorem dX4_endRivals_7 : decode cX4_endRivals 7 = .ok (.getfield 71, 3) := by decide +kernel
theorem dX4_endRivals_10 : decode cX4_endRivals 10 = .ok (.if_icmp .ge 71, 3) := by decide +kernel
theorem dX4_endRivals_13 : decode cX4_endRivals 13 = .ok (.aload_n 0, 1) := by decide +kernel
theorem dX4_endRivals_14 : decode cX4_endRivals 14 = .ok (.iload_n 2, 1) := by decide +kernel
theorem dX4_endRivals_15 : decode cX4_endRivals 15 = .ok (.iload_n 1, 1) := by decide +kernel
theorem dX4_endRivals_16 : decode cX4_endRivals 16 = .ok (.invokevirtual 210, 3) := by decide +kernel
theorem dX4_endRivals_19 : decode cX4_endRivals 19 = .ok (.ifCond .eq 56, 3) := by decide +kernel
theorem dX4_endRivals_22 : decode cX4_endRivals 22 = .ok (.aload_n 0, 1) := by decide +kernel
theorem dX4_endRivals_23 : decode cX4_endRivals 23 = .ok (.getfield 57, 3) := by decide +kernel
theorem dX4_endRivals_26 : decode cX4_endRivals 26 = .ok (.iload_n 2, 1) := by decide +kernel
theorem dX4_endRivals_27 : decode cX4_endRivals 27 = .ok (.iload_n 1, 1) := by decide +kernel
theorem dX4_endRivals_28 : decode cX4_endRivals 28 = .ok (.invokevirtual 207, 3) := by decide +kernel
theorem dX4_endRivals_31 : decode cX4_endRivals 31 = .ok (.istore_n 3, 1) := by decide +kernel
theorem dX4_endRivals_32 : decode cX4_endRivals 32 = .ok (.aload_n 0, 1) := by decide +kernel
theorem dX4_endRivals_33 : decode cX4_endRivals 33 = .ok (.getfield 37, 3) := by decide +kernel
theorem dX4_endRivals_36 : decode cX4_endRivals 36 = .ok (.iload_n 2, 1) := by decide +kernel
theorem dX4_endRivals_37 : decode cX4_endRivals 37 = .ok (.aload_n 0, 1) := by decide +kernel
theorem dX4_endRivals_38 : decode cX4_endRivals 38 = .ok (.getfield 25, 3) := by decide +kernel
theorem dX4_endRivals_41 : decode cX4_endRivals 41 = .ok (.iload_n 1, 1) := by decide +kernel
theorem dX4_endRivals_42 : decode cX4_endRivals 42 = .ok (.iaload, 1) := by decide +kernel
theorem dX4_endRivals_43 : decode cX4_endRivals 43 = .ok (.iastore, 1) := by decide +kernel
theorem dX4_endRivals_44 : decode cX4_endRivals 44 = .ok (.aload_n 0, 1) := by decide +kernel
theorem dX4_endRivals_45 : decode cX4_endRivals 45 = .ok (.getfield 40, 3) := by decide +kernel
theorem dX4_endRivals_48 : decode cX4_endRivals 48 = .ok (.iload_n 2, 1) := by decide +kernel
theorem dX4_endRivals_49 : decode cX4_endRivals 49 = .ok (.bipush 9, 2) := by decide +kernel
theorem dX4_endRivals_51 : decode cX4_endRivals 51 = .ok (.iastore, 1) := by decide +kernel
theorem dX4_endRivals_52 : decode cX4_endRivals 52 = .ok (.aload_n 0, 1) := by decide +kernel
theorem dX4_endRivals_53 : decode cX4_endRivals 53 = .ok (.getfield 43, 3) := by decide +kernel
theorem dX4_endRivals_56 : decode cX4_endRivals 56 = .ok (.iload_n 2, 1) := by decide +kernel
theorem dX4_endRivals_57 : decode cX4_endRivals 57 = .ok (.iload_n 1, 1) := by decide +kernel
theorem dX4_endRivals_58 : decode cX4_endRivals 58 = .ok (.iastore, 1) := by decide +kernel
theorem dX4_endRivals_59 : decode cX4_endRivals 59 = .ok (.aload_n 0, 1) := by decide +kernel
theorem dX4_endRivals_60 : decode cX4_endRivals 60 = .ok (.getfield 46, 3) := by decide +kernel
theorem dX4_endRivals_63 : decode cX4_endRivals 63 = .ok (.iload_n 2, 1) := by decide +kernel
theorem dX4_endRivals_64 : decode cX4_endRivals 64 = .ok (.iload_n 3, 1) := by decide +kernel
theorem dX4_endRivals_65 : decode cX4_endRivals 65 = .ok (.iconst 3, 1) := by decide +kernel
theorem dX4_endRivals_66 : decode cX4_endRivals 66 = .ok (.if_icmp .ne 7, 3) := by decide +kernel
theorem dX4_endRivals_69 : decode cX4_endRivals 69 = .ok (.iconst 0, 1) := by decide +kernel
theorem dX4_endRivals_70 : decode cX4_endRivals 70 = .ok (.goto 4, 3) := by decide +kernel
theorem dX4_endRivals_73 : decode cX4_endRivals 73 = .ok (.iload_n 3, 1) := by decide +kernel
theorem dX4_endRivals_74 : decode cX4_endRivals 74 = .ok (.iastore, 1) := by decide +kernel
theorem dX4_endRivals_75 : decode cX4_endRivals 75 = .ok (.iinc 2 1, 3) := by decide +kernel
theorem dX4_endRivals_78 : decode cX4_endRivals 78 = .ok (.goto (-76), 3) := by decide +kernel
theorem dX4_endRivals_81 : decode cX4_endRivals 81 = .ok (.return_, 1) := by decide +kernel
theorem dX4_findEnd_0 : decode cX4_findEnd 0 = .ok (.aload_n 0, 1) := by decide +kernel
theorem dX4_findEnd_1 : decode cX4_findEnd 1 = .ok (.iconst 0, 1) := by decide +kernel
theorem dX4_findEnd_2 : decode cX4_findEnd 2 = .ok (.iload_n 1, 1) := by decide +kernel
theorem dX4_findEnd_3 : decode cX4_findEnd 3 = .ok (.invokevirtual 189, 3) := by decide +kernel
theorem dX4_findEnd_6 : decode cX4_findEnd 6 = .ok (.istore_n 2, 1) := by decide +kernel
theorem dX4_findEnd_7 : decode cX4_findEnd 7 = .ok (.iload_n 2, 1) := by decide +kernel
theorem dX4_findEnd_8 : decode cX4_findEnd 8 = .ok (.sipush 10000, 3) := by decide +kernel
theorem dX4_findEnd_11 : decode cX4_findEnd 11 = .ok (.if_icmp .ge 18, 3) := by decide +kernel
theorem dX4_findEnd_14 : decode cX4_findEnd 14 = .ok (.aload_n 0, 1) := by decide +kernel
theorem dX4_findEnd_15 : decode cX4_findEnd 15 = .ok (.getfield 37, 3) := by decide +kernel
theorem dX4_findEnd_18 : decode cX4_findEnd 18 = .ok (.iload_n 1, 1) := by decide +kernel
theorem dX4_findEnd_19 : decode cX4_findEnd 19 = .ok (.iload_n 2, 1) := by decide +kernel
theorem dX4_findEnd_20 : decode cX4_findEnd 20 = .ok (.iastore, 1) := by decide +kernel
theorem dX4_findEnd_21 : decode cX4_findEnd 21 = .ok (.aload_n 0, 1) := by decide +kernel
theorem dX4_findEnd_22 : decode cX4_findEnd 22 = .ok (.getfield 40, 3) := by decide +kernel
theorem dX4_findEnd_25 : decode cX4_findEnd 25 = .ok (.iload_n 1, 1) := by decide +kernel
theorem dX4_findEnd_26 : decode cX4_findEnd 26 = .ok (.bipush 7, 2) := by decide +kernel
theorem dX4_findEnd_28 : decode cX4_findEnd 28 = .ok (.iastore, 1) := by decide +kernel
theorem dX4_findEnd_29 : decode cX4_findEnd 29 = .ok (.aload_n 0, 1) := by decide +kernel
theorem dX4_findEnd_30 : decode cX4_findEnd 30 = .ok (.iload_n 1, 1) := by decide +kernel
theorem dX4_findEnd_31 : decode cX4_findEnd 31 = .ok (.invokevirtual 106, 3) := by decide +kernel
theorem dX4_findEnd_34 : decode cX4_findEnd 34 = .ok (.invokevirtual 213, 3) := by decide +kernel
theorem dX4_findEnd_37 : decode cX4_findEnd 37 = .ok (.istore_n 3, 1) := by decide +kernel
theorem dX4_findEnd_38 : decode cX4_findEnd 38 = .ok (.iload_n 3, 1) := by decide +kernel
theorem dX4_findEnd_39 : decode cX4_findEnd 39 = .ok (.iconst (-1), 1) := by decide +kernel
theorem dX4_findEnd_40 : decode cX4_findEnd 40 = .ok (.if_icmp .ne 4, 3) := by decide +kernel
theorem dX4_findEnd_43 : decode cX4_findEnd 43 = .ok (.return_, 1) := by decide +kernel
theorem dX4_findEnd_44 : decode cX4_findEnd 44 = .ok (.aload_n 0, 1) := by decide +kernel
theorem dX4_findEnd_45 : decode cX4_findEnd 45 = .ok (.getfield 61, 3) := by decide +kernel
theorem dX4_findEnd_48 : decode cX4_findEnd 48 = .ok (.aload_n 0, 1) := by decide +kernel
theorem dX4_findEnd_49 : decode cX4_findEnd 49 = .ok (.getfield 57, 3) := by decide +kernel
theorem dX4_findEnd_52 : decode cX4_findEnd 52 = .ok (.getfield 168, 3) := by decide +kernel
theorem dX4_findEnd_55 : decode cX4_findEnd 55 = .ok (.iload_n 1, 1) := by decide +kernel
theorem dX4_findEnd_56 : decode cX4_findEnd 56 = .ok (.iaload, 1) := by decide +kernel
theorem dX4_findEnd_57 : decode cX4_findEnd 57 = .ok (.iload_n 3, 1) := by decide +kernel
theorem dX4_findEnd_58 : decode cX4_findEnd 58 = .ok (.aload_n 0, 1) := by decide +kernel
theorem dX4_findEnd_59 : decode cX4_findEnd 59 = .ok (.getfield 25, 3) := by decide +kernel
theorem dX4_findEnd_62 : decode cX4_findEnd 62 = .ok (.iload_n 1, 1) := by decide +kernel
theorem dX4_findEnd_63 : decode cX4_findEnd 63 = .ok (.iaload, 1) := by decide +kernel
theorem dX4_findEnd_64 : decode cX4_findEnd 64 = .ok (.invokevirtual 216, 3) := by decide +kernel
theorem dX4_findEnd_67 : decode cX4_findEnd 67 = .ok (.aload_n 0, 1) := by decide +kernel
theorem dX4_findEnd_68 : decode cX4_findEnd 68 = .ok (.getfield 61, 3) := by decide +kernel
theorem dX4_findEnd_71 : decode cX4_findEnd 71 = .ok (.aload_n 0, 1) := by decide +kernel
theorem dX4_findEnd_72 : decode cX4_findEnd 72 = .ok (.getfield 57, 3) := by decide +kernel
theorem dX4_findEnd_75 : decode cX4_findEnd 75 = .ok (.getfield 174, 3) := by decide +kernel
theorem dX4_findEnd_78 : decode cX4_findEnd 78 = .ok (.iload_n 1, 1) := by decide +kernel
theorem dX4_findEnd_79 : decode cX4_findEnd 79 = .ok (.iaload, 1) := by decide +kernel
theorem dX4_findEnd_80 : decode cX4_findEnd 80 = .ok (.iload_n 3, 1) := by decide +kernel
theorem dX4_findEnd_81 : decode cX4_findEnd 81 = .ok (.aload_n 0, 1) := by decide +kernel
theorem dX4_findEnd_82 : decode cX4_findEnd 82 = .ok (.getfield 25, 3) := by decide +kernel
theorem dX4_findEnd_85 : decode cX4_findEnd 85 = .ok (.iload_n 1, 1) := by decide +kernel
theorem dX4_findEnd_86 : decode cX4_findEnd 86 = .ok (.iaload, 1) := by decide +kernel
theorem dX4_findEnd_87 : decode cX4_findEnd 87 = .ok (.invokevirtual 216, 3) := by decide +kernel
theorem dX4_findEnd_90 : decode cX4_findEnd 90 = .ok (.invokestatic 204, 3) := by decide +kernel
theorem dX4_findEnd_93 : decode cX4_findEnd 93 = .ok (.istore 4, 2) := by decide +kernel
theorem dX4_findEnd_95 : decode cX4_findEnd 95 = .ok (.iload 4, 2) := by decide +kernel
theorem dX4_findEnd_97 : decode cX4_findEnd 97 = .ok (.aload_n 0, 1) := by decide +kernel
theorem dX4_findEnd_98 : decode cX4_findEnd 98 = .ok (.getfield 37, 3) := by decide +kernel
theorem dX4_findEnd_101 : decode cX4_findEnd 101 = .ok (.iload_n 1, 1) := by decide +kernel
theorem dX4_findEnd_102 : decode cX4_findEnd 102 = .ok (.iaload, 1) := by decide +kernel
theorem dX4_findEnd_103 : decode cX4_findEnd 103 = .ok (.if_icmp .ge 19, 3) := by decide +kernel
theorem dX4_findEnd_106 : decode cX4_findEnd 106 = .ok (.aload_n 0, 1) := by decide +kernel
theorem dX4_findEnd_107 : decode cX4_findEnd 107 = .ok (.getfield 37, 3) := by decide +kernel
theorem dX4_findEnd_110 : decode cX4_findEnd 110 = .ok (.iload_n 1, 1) := by decide +kernel
theorem dX4_findEnd_111 : decode cX4_findEnd 111 = .ok (.iload 4, 2) := by decide +kernel
theorem dX4_findEnd_113 : decode cX4_findEnd 113 = .ok (.iastore, 1) := by decide +kernel
theorem dX4_findEnd_114 : decode cX4_findEnd 114 = .ok (.aload_n 0, 1) := by decide +kernel
theorem dX4_findEnd_115 : decode cX4_findEnd 115 = .ok (.getfield 40, 3) := by decide +kernel
theorem dX4_findEnd_118 : decode cX4_findEnd 118 = .ok (.iload_n 1, 1) := by decide +kernel
theorem dX4_findEnd_119 : decode cX4_findEnd 119 = .ok (.bipush 8, 2) := by decide +kernel
theorem dX4_findEnd_121 : decode cX4_findEnd 121 = .ok (.iastore, 1) := by decide +kernel
theorem dX4_findEnd_122 : decode cX4_findEnd 122 = .ok (.return_, 1) := by decide +kernel
theorem dX5_init_0 : decode cX5_init 0 = .ok (.aload_n 0, 1) := by decide +kernel
theorem dX5_init_1 : decode cX5_init 1 = .ok (.invokespecial 3, 3) := by decide +kernel
theorem dX5_init_4 : decode cX5_init 4 = .ok (.aload_n 0, 1) := by decide +kernel
theorem dX5_init_5 : decode cX5_init 5 = .ok (.iload_n 1, 1) := by decide +kernel
theorem dX5_init_6 : decode cX5_init 6 = .ok (.putfield 9, 3) := by decide +kernel
theorem dX5_init_9 : decode cX5_init 9 = .ok (.aload_n 0, 1) := by decide +kernel
theorem dX5_init_10 : decode cX5_init 10 = .ok (.iload_n 2, 1) := by decide +kernel
theorem dX5_init_11 : decode cX5_init 11 = .ok (.putfield 15, 3) := by decide +kernel
theorem dX5_init_14 : decode cX5_init 14 = .ok (.aload_n 0, 1) := by decide +kernel
theorem dX5_init_15 : decode cX5_init 15 = .ok (.aload_n 3, 1) := by decide +kernel
theorem dX5_init_16 : decode cX5_init 16 = .ok (.putfield 18, 3) := by decide +kernel
theorem dX5_init_19 : decode cX5_init 19 = .ok (.aload_n 0, 1) := by decide +kernel
theorem dX5_init_20 : decode cX5_init 20 = .ok (.aload 4, 2) := by decide +kernel
theorem dX5_init_22 : decode cX5_init 22 = .ok (.putfield 22, 3) := by decide +kernel
theorem dX5_init_25 : decode cX5_init 25 = .ok (.return_, 1) := by decide +kernel
theorem dX5_tokenAt_0 : decode cX5_tokenAt 0 = .ok (.iload_n 1, 1) := by decide +kernel
theorem dX5_tokenAt_1 : decode cX5_tokenAt 1 = .ok (.ifCond .lt 21, 3) := by decide +kernel
theorem dX5_tokenAt_4 : decode cX5_tokenAt 4 = .ok (.iload_n 1, 1) := by decide +kernel
theorem dX5_tokenAt_5 : decode cX5_tokenAt 5 = .ok (.aload_n 0, 1) := by decide +kernel
theorem dX5_tokenAt_6 : decode cX5_tokenAt 6 = .ok (.getfield 18, 3) := by decide +kernel
theorem dX5_tokenAt_9 : decode cX5_tokenAt 9 = .ok (.arraylength, 1) := by decide +kernel
theorem dX5_tokenAt_10 : decode cX5_tokenAt 10 = .ok (.if_icmp .ge 12, 3) := by decide +kernel
theorem dX5_tokenAt_13 : decode cX5_tokenAt 13 = .ok (.aload_n 0, 1) := by decide +kernel
theorem dX5_tokenAt_14 : decode cX5_tokenAt 14 = .ok (.getfield 18, 3) := by decide +kernel
theorem dX5_tokenAt_17 : decode cX5_tokenAt 17 = .ok (.iload_n 1, 1) := by decide +kernel
theorem dX5_tokenAt_18 : decode cX5_tokenAt 18 = .ok (.iaload, 1) := by decide +kernel
theorem dX5_tokenAt_19 : decode cX5_tokenAt 19 = .ok (.goto 4, 3) := by decide +kernel
theorem dX5_tokenAt_22 : decode cX5_tokenAt 22 = .ok (.iconst (-1), 1) := by decide +kernel
theorem dX5_tokenAt_23 : decode cX5_tokenAt 23 = .ok (.ireturn, 1) := by decide +kernel
theorem dX5_firstHolding_0 : decode cX5_firstHolding 0 = .ok (.iconst 0, 1) := by decide +kernel
theorem dX5_firstHolding_1 : decode cX5_firstHolding 1 = .ok (.istore_n 3, 1) := by decide +kernel
theorem dX5_firstHolding_2 : decode cX5_firstHolding 2 = .ok (.iload_n 3, 1) := by decide +kernel
theorem dX5_firstHolding_3 : decode cX5_firstHolding 3 = .ok (.aload_n 0, 1) := by decide +kernel
theorem dX5_firstHolding_4 : decode cX5_firstHolding 4 = .ok (.getfield 22, 3) := by decide +kernel
theorem dX5_firstHolding_7 : decode cX5_firstHolding 7 = .ok (.arraylength, 1) := by decide +kernel
theorem dX5_firstHolding_8 : decode cX5_firstHolding 8 = .ok (.if_icmp .ge 41, 3) := by decide +kernel
theorem dX5_firstHolding_11 : decode cX5_firstHolding 11 = .ok (.aload_n 0, 1) := by decide +kernel
theorem dX5_firstHolding_12 : decode cX5_firstHolding 12 = .ok (.aload_n 0, 1) := by decide +kernel
theorem dX5_firstHolding_13 : decode cX5_firstHolding 13 = .ok (.getfield 22, 3) := by decide +kernel
theorem dX5_firstHolding_16 : decode cX5_firstHolding 16 = .ok (.iload_n 3, 1) := by decide +kernel
theorem dX5_firstHolding_17 : decode cX5_firstHolding 17 = .ok (.iaload, 1) := by decide +kernel
theorem dX5_firstHolding_18 : decode cX5_firstHolding 18 = .ok (.invokevirtual 25, 3) := by decide +kernel
theorem dX5_firstHolding_21 : decode cX5_firstHolding 21 = .ok (.iload_n 1, 1) := by decide +kernel
theorem dX5_firstHolding_22 : decode cX5_firstHolding 22 = .ok (.if_icmp .ne 21, 3) := by decide +kernel
theorem dX5_firstHolding_25 : decode cX5_firstHolding 25 = .ok (.aload_n 2, 1) := by decide +kernel
theorem dX5_firstHolding_26 : decode cX5_firstHolding 26 = .ok (.aload_n 0, 1) := by decide +kernel
theorem dX5_firstHolding_27 : decode cX5_firstHolding 27 = .ok (.aload_n 0, 1) := by decide +kernel
theorem dX5_firstHolding_28 : decode cX5_firstHolding 28 = .ok (.getfield 22, 3) := by decide +kernel
theorem dX5_firstHolding_31 : decode cX5_firstHolding 31 = .ok (.iload_n 3, 1) := by decide +kernel
theorem dX5_firstHolding_32 : decode cX5_firstHolding 32 = .ok (.iaload, 1) := by decide +kernel
theorem dX5_firstHolding_33 : decode cX5_firstHolding 33 = .ok (.iconst 2, 1) := by decide +kernel
theorem dX5_firstHolding_34 : decode cX5_firstHolding 34 = .ok (.iadd, 1) := by decide +kernel
theorem dX5_firstHolding_35 : decode cX5_firstHolding 35 = .ok (.invokevirtual 29, 3) := by decide +kernel
theorem dX5_firstHolding_38 : decode cX5_firstHolding 38 = .ok (.ifCond .eq 5, 3) := by decide +kernel
theorem dX5_firstHolding_41 : decode cX5_firstHolding 41 = .ok (.iload_n 3, 1) := by decide +kernel
theorem dX5_firstHolding_42 : decode cX5_firstHolding 42 = .ok (.ireturn, 1) := by decide +kernel
theorem dX5_firstHolding_43 : decode cX5_firstHolding 43 = .ok (.iinc 3 1, 3) := by decide +kernel
theorem dX5_firstHolding_46 : decode cX5_firstHolding 46 = .ok (.goto (-44), 3) := by decide +kernel
theorem dX5_firstHolding_49 : decode cX5_firstHolding 49 = .ok (.iconst (-1), 1) := by decide +kernel
theorem dX5_firstHolding_50 : decode cX5_firstHolding 50 = .ok (.ireturn, 1) := by decide +kernel
theorem dX5_lapseDays_0 : decode cX5_lapseDays 0 = .ok (.iconst 0, 1) := by decide +kernel
theorem dX5_lapseDays_1 : decode cX5_lapseDays 1 = .ok (.istore_n 1, 1) := by decide +kernel
theorem dX5_lapseDays_2 : decode cX5_lapseDays 2 = .ok (.iload_n 1, 1) := by decide +kernel
theorem dX5_lapseDays_3 : decode cX5_lapseDays 3 = .ok (.aload_n 0, 1) := by decide +kernel
theorem dX5_lapseDays_4 : decode cX5_lapseDays 4 = .ok (.getfield 22, 3) := by decide +kernel
theorem dX5_lapseDays_7 : decode cX5_lapseDays 7 = .ok (.arraylength, 1) := by decide +kernel
theorem dX5_lapseDays_8 : decode cX5_lapseDays 8 = .ok (.if_icmp .ge 38, 3) := by decide +kernel
theorem dX5_lapseDays_11 : decode cX5_lapseDays 11 = .ok (.aload_n 0, 1) := by decide +kernel
theorem dX5_lapseDays_12 : decode cX5_lapseDays 12 = .ok (.aload_n 0, 1) := by decide +kernel
theorem dX5_lapseDays_13 : decode cX5_lapseDays 13 = .ok (.getfield 22, 3) := by decide +kernel
theorem dX5_lapseDays_16 : decode cX5_lapseDays 16 = .ok (.iload_n 1, 1) := by decide +kernel
theorem dX5_lapseDays_17 : decode cX5_lapseDays 17 = .ok (.iaload, 1) := by decide +kernel
theorem dX5_lapseDays_18 : decode cX5_lapseDays 18 = .ok (.invokevirtual 25, 3) := by decide +kernel
theorem dX5_lapseDays_21 : decode cX5_lapseDays 21 = .ok (.sipush 10003, 3) := by decide +kernel
theorem dX5_lapseDays_24 : decode cX5_lapseDays 24 = .ok (.if_icmp .ne 16, 3) := by decide +kernel
theorem dX5_lapseDays_27 : decode cX5_lapseDays 27 = .ok (.aload_n 0, 1) := by decide +kernel
theorem dX5_lapseDays_28 : decode cX5_lapseDays 28 = .ok (.aload_n 0, 1) := by decide +kernel
theorem dX5_lapseDays_29 : decode cX5_lapseDays 29 = .ok (.getfield 22, 3) := by decide +kernel
theorem dX5_lapseDays_32 : decode cX5_lapseDays 32 = .ok (.iload_n 1, 1) := by decide +kernel
theorem dX5_lapseDays_33 : decode cX5_lapseDays 33 = .ok (.iaload, 1) := by decide +kernel
theorem dX5_lapseDays_34 : decode cX5_lapseDays 34 = .ok (.iconst 1, 1) := by decide +kernel
theorem dX5_lapseDays_35 : decode cX5_lapseDays 35 = .ok (.iadd, 1) := by decide +kernel
theorem dX5_lapseDays_36 : decode cX5_lapseDays 36 = .ok (.invokevirtual 25, 3) := by decide +kernel
theorem dX5_lapseDays_39 : decode cX5_lapseDays 39 = .ok (.ireturn, 1) := by decide +kernel
theorem dX5_lapseDays_40 : decode cX5_lapseDays 40 = .ok (.iinc 1 1, 3) := by decide +kernel
theorem dX5_lapseDays_43 : decode cX5_lapseDays 43 = .ok (.goto (-41), 3) := by decide +kernel
theorem dX5_lapseDays_46 : decode cX5_lapseDays 46 = .ok (.iconst (-1), 1) := by decide +kernel
theorem dX5_lapseDays_47 : decode cX5_lapseDays 47 = .ok (.ireturn, 1) := by decide +kernel
theorem dX5_share_0 : decode cX5_share 0 = .ok (.iconst 0, 1) := by decide +kernel
theorem dX5_share_1 : decode cX5_share 1 = .ok (.istore_n 2, 1) := by decide +kernel
theorem dX5_share_2 : decode cX5_share 2 = .ok (.iload_n 2, 1) := by decide +kernel
theorem dX5_share_3 : decode cX5_share 3 = .ok (.aload_n 0, 1) := by decide +kernel
theorem dX5_share_4 : decode cX5_share 4 = .ok (.getfield 22, 3) := by decide +kernel
theorem dX5_share_7 : decode cX5_share 7 = .ok (.arraylength, 1) := by decide +kernel
theorem dX5_share_8 : decode cX5_share 8 = .ok (.if_icmp .ge 80, 3) := by decide +kernel
theorem dX5_share_11 : decode cX5_share 11 = .ok (.aload_n 0, 1) := by decide +kernel
theorem dX5_share_12 : decode cX5_share 12 = .ok (.aload_n 0, 1) := by decide +kernel
theorem dX5_share_13 : decode cX5_share 13 = .ok (.getfield 22, 3) := by decide +kernel
theorem dX5_share_16 : decode cX5_share 16 = .ok (.iload_n 2, 1) := by decide +kernel
theorem dX5_share_17 : decode cX5_share 17 = .ok (.iaload, 1) := by decide +kernel
theorem dX5_share_18 : decode cX5_share 18 = .ok (.invokevirtual 25, 3) := by decide +kernel
theorem dX5_share_21 : decode cX5_share 21 = .ok (.sipush 10004, 3) := by decide +kernel
theorem dX5_share_24 : decode cX5_share 24 = .ok (.if_icmp .ne 58, 3) := by decide +kernel
theorem dX5_share_27 : decode cX5_share 27 = .ok (.aload_n 1, 1) := by decide +kernel
theorem dX5_share_28 : decode cX5_share 28 = .ok (.aload_n 0, 1) := by decide +kernel
theorem dX5_share_29 : decode cX5_share 29 = .ok (.aload_n 0, 1) := by decide +kernel
theorem dX5_share_30 : decode cX5_share 30 = .ok (.getfield 22, 3) := by decide +kernel
theorem dX5_share_33 : decode cX5_share 33 = .ok (.iload_n 2, 1) := by decide +kernel
theorem dX5_share_34 : decode cX5_share 34 = .ok (.iaload, 1) := by decide +kernel
theorem dX5_share_35 : decode cX5_share 35 = .ok (.iconst 1, 1) := by decide +kernel
theorem dX5_share_36 : decode cX5_share 36 = .ok (.iadd, 1) := by decide +kernel
theorem dX5_share_37 : decode cX5_share 37 = .ok (.invokevirtual 35, 3) := by decide +kernel
theorem dX5_share_40 : decode cX5_share 40 = .ok (.istore_n 3, 1) := by decide +kernel
theorem dX5_share_41 : decode cX5_share 41 = .ok (.aload_n 1, 1) := by decide +kernel
theorem dX5_share_42 : decode cX5_share 42 = .ok (.getfield 39, 3) := by decide +kernel
theorem dX5_share_45 : decode cX5_share 45 = .ok (.istore 4, 2) := by decide +kernel
theorem dX5_share_47 : decode cX5_share 47 = .ok (.aload_n 0, 1) := by decide +kernel
theorem dX5_share_48 : decode cX5_share 48 = .ok (.iload 4, 2) := by decide +kernel
theorem dX5_share_50 : decode cX5_share 50 = .ok (.invokevirtual 25, 3) := by decide +kernel
theorem dX5_share_53 : decode cX5_share 53 = .ok (.sipush 10005, 3) := by decide +kernel
theorem dX5_share_56 : decode cX5_share 56 = .ok (.if_icmp .ne 15, 3) := by decide +kernel
theorem dX5_share_59 : decode cX5_share 59 = .ok (.aload_n 1, 1) := by decide +kernel
theorem dX5_share_60 : decode cX5_share 60 = .ok (.aload_n 0, 1) := by decide +kernel
theorem dX5_share_61 : decode cX5_share 61 = .ok (.iload 4, 2) := by decide +kernel
theorem dX5_share_63 : decode cX5_share 63 = .ok (.iconst 1, 1) := by decide +kernel
theorem dX5_share_64 : decode cX5_share 64 = .ok (.iadd, 1) := by decide +kernel
theorem dX5_share_65 : decode cX5_share 65 = .ok (.invokevirtual 29, 3) := by decide +kernel
theorem dX5_share_68 : decode cX5_share 68 = .ok (.ifCond .eq 14, 3) := by decide +kernel
theorem dX5_share_71 : decode cX5_share 71 = .ok (.iconst 0, 1) := by decide +kernel
theorem dX5_share_72 : decode cX5_share 72 = .ok (.bipush 100, 2) := by decide +kernel
theorem dX5_share_74 : decode cX5_share 74 = .ok (.iload_n 3, 1) := by decide +kernel
theorem dX5_share_75 : decode cX5_share 75 = .ok (.invokestatic 42, 3) := by decide +kernel
theorem dX5_share_78 : decode cX5_share 78 = .ok (.invokestatic 48, 3) := by decide +kernel
theorem dX5_share_81 : decode cX5_share 81 = .ok (.ireturn, 1) := by decide +kernel
theorem dX5_share_82 : decode cX5_share 82 = .ok (.iinc 2 1, 3) := by decide +kernel
theorem dX5_share_85 : decode cX5_share 85 = .ok (.goto (-83), 3) := by decide +kernel
theorem dX5_share_88 : decode cX5_share 88 = .ok (.iconst 0, 1) := by decide +kernel
theorem dX5_share_89 : decode cX5_share 89 = .ok (.ireturn, 1) := by decide +kernel
end
section
theorem dX6_init_0 : decode cX6_init 0 = .ok (.aload_n 0, 1) := by decide +kernel
theorem dX6_init_1 : decode cX6_init 1 = .ok (.invokespecial 3, 3) := by decide +kernel
theorem dX6_init_4 : decode cX6_init 4 = .ok (.aload_n 0, 1) := by decide +kernel
theorem dX6_init_5 : decode cX6_init 5 = .ok (.bipush 8, 2) := by decide +kernel
theorem dX6_init_7 : decode cX6_init 7 = .ok (.anewarray 9, 3) := by decide +kernel
theorem dX6_init_10 : decode cX6_init 10 = .ok (.putfield 11, 3) := by decide +kernel
theorem dX6_init_13 : decode cX6_init 13 = .ok (.aload_n 0, 1) := by decide +kernel
theorem dX6_init_14 : decode cX6_init 14 = .ok (.new 9, 3) := by decide +kernel
theorem dX6_init_17 : decode cX6_init 17 = .ok (.dup, 1) := by decide +kernel
theorem dX6_init_18 : decode cX6_init 18 = .ok (.iconst (-1), 1) := by decide +kernel
theorem dX6_init_19 : decode cX6_init 19 = .ok (.iconst (-1), 1) := by decide +kernel
theorem dX6_init_20 : decode cX6_init 20 = .ok (.iconst 0, 1) := by decide +kernel
theorem dX6_init_21 : decode cX6_init 21 = .ok (.newarray .int, 2) := by decide +kernel
theorem dX6_init_23 : decode cX6_init 23 = .ok (.iconst 0, 1) := by decide +kernel
theorem dX6_init_24 : decode cX6_init 24 = .ok (.newarray .int, 2) := by decide +kernel
theorem dX6_init_26 : decode cX6_init 26 = .ok (.invokespecial 17, 3) := by decide +kernel
theorem dX6_init_29 : decode cX6_init 29 = .ok (.putfield 20, 3) := by decide +kernel
theorem dX6_init_32 : decode cX6_init 32 = .ok (.aload_n 0, 1) := by decide +kernel
theorem dX6_init_33 : decode cX6_init 33 = .ok (.iconst 0, 1) := by decide +kernel
theorem dX6_init_34 : decode cX6_init 34 = .ok (.putfield 24, 3) := by decide +kernel
theorem dX6_init_37 : decode cX6_init 37 = .ok (.return_, 1) := by decide +kernel
theorem dX6_add_0 : decode cX6_add 0 = .ok (.aload_n 0, 1) := by decide +kernel
theorem dX6_add_1 : decode cX6_add 1 = .ok (.getfield 24, 3) := by decide +kernel
theorem dX6_add_4 : decode cX6_add 4 = .ok (.bipush 8, 2) := by decide +kernel
theorem dX6_add_6 : decode cX6_add 6 = .ok (.if_icmp .ge 23, 3) := by decide +kernel
theorem dX6_add_9 : decode cX6_add 9 = .ok (.aload_n 0, 1) := by decide +kernel
theorem dX6_add_10 : decode cX6_add 10 = .ok (.getfield 11, 3) := by decide +kernel
theorem dX6_add_13 : decode cX6_add 13 = .ok (.aload_n 0, 1) := by decide +kernel
theorem dX6_add_14 : decode cX6_add 14 = .ok (.getfield 24, 3) := by decide +kernel
theorem dX6_add_17 : decode cX6_add 17 = .ok (.aload_n 1, 1) := by decide +kernel
theorem dX6_add_18 : decode cX6_add 18 = .ok (.aastore, 1) := by decide +kernel
theorem dX6_add_19 : decode cX6_add 19 = .ok (.aload_n 0, 1) := by decide +kernel
theorem dX6_add_20 : decode cX6_add 20 = .ok (.dup, 1) := by decide +kernel
theorem dX6_add_21 : decode cX6_add 21 = .ok (.getfield 24, 3) := by decide +kernel
theorem dX6_add_24 : decode cX6_add 24 = .ok (.iconst 1, 1) := by decide +kernel
theorem dX6_add_25 : decode cX6_add 25 = .ok (.iadd, 1) := by decide +kernel
theorem dX6_add_26 : decode cX6_add 26 = .ok (.putfield 24, 3) := by decide +kernel
theorem dX6_add_29 : decode cX6_add 29 = .ok (.return_, 1) := by decide +kernel
theorem dX6_inForce_0 : decode cX6_inForce 0 = .ok (.iconst (-1), 1) := by decide +kernel
theorem dX6_inForce_1 : decode cX6_inForce 1 = .ok (.istore_n 3, 1) := by decide +kernel
theorem dX6_inForce_2 : decode cX6_inForce 2 = .ok (.iconst (-1), 1) := by decide +kernel
theorem dX6_inForce_3 : decode cX6_inForce 3 = .ok (.istore 4, 2) := by decide +kernel
theorem dX6_inForce_5 : decode cX6_inForce 5 = .ok (.iconst 0, 1) := by decide +kernel
theorem dX6_inForce_6 : decode cX6_inForce 6 = .ok (.istore 5, 2) := by decide +kernel
theorem dX6_inForce_8 : decode cX6_inForce 8 = .ok (.iload 5, 2) := by decide +kernel
theorem dX6_inForce_10 : decode cX6_inForce 10 = .ok (.aload_n 0, 1) := by decide +kernel
theorem dX6_inForce_11 : decode cX6_inForce 11 = .ok (.getfield 24, 3) := by decide +kernel
theorem dX6_inForce_14 : decode cX6_inForce 14 = .ok (.if_icmp .ge 61, 3) := by decide +kernel
theorem dX6_inForce_17 : decode cX6_inForce 17 = .ok (.aload_n 0, 1) := by decide +kernel
theorem dX6_inForce_18 : decode cX6_inForce 18 = .ok (.getfield 11, 3) := by decide +kernel
theorem dX6_inForce_21 : decode cX6_inForce 21 = .ok (.iload 5, 2) := by decide +kernel
theorem dX6_inForce_23 : decode cX6_inForce 23 = .ok (.aaload, 1) := by decide +kernel
theorem dX6_inForce_24 : decode cX6_inForce 24 = .ok (.astore 6, 2) := by decide +kernel
theorem dX6_inForce_26 : decode cX6_inForce 26 = .ok (.aload 6, 2) := by decide +kernel
theorem dX6_inForce_28 : decode cX6_inForce 28 = .ok (.ifnull 41, 3) := by decide +kernel
theorem dX6_inForce_31 : decode cX6_inForce 31 = .ok (.aload 6, 2) := by decide +kernel
theorem dX6_inForce_33 : decode cX6_inForce 33 = .ok (.getfield 28, 3) := by decide +kernel
theorem dX6_inForce_36 : decode cX6_inForce 36 = .ok (.iload_n 1, 1) := by decide +kernel
theorem dX6_inForce_37 : decode cX6_inForce 37 = .ok (.if_icmp .ne 32, 3) := by decide +kernel
theorem dX6_inForce_40 : decode cX6_inForce 40 = .ok (.aload 6, 2) := by decide +kernel
theorem dX6_inForce_42 : decode cX6_inForce 42 = .ok (.getfield 31, 3) := by decide +kernel
theorem dX6_inForce_45 : decode cX6_inForce 45 = .ok (.iload_n 2, 1) := by decide +kernel
theorem dX6_inForce_46 : decode cX6_inForce 46 = .ok (.if_icmp .gt 23, 3) := by decide +kernel
theorem dX6_inForce_49 : decode cX6_inForce 49 = .ok (.aload 6, 2) := by decide +kernel
theorem dX6_inForce_51 : decode cX6_inForce 51 = .ok (.getfield 31, 3) := by decide +kernel
theorem dX6_inForce_54 : decode cX6_inForce 54 = .ok (.iload 4, 2) := by decide +kernel
theorem dX6_inForce_56 : decode cX6_inForce 56 = .ok (.if_icmp .lt 13, 3) := by decide +kernel
theorem dX6_inForce_59 : decode cX6_inForce 59 = .ok (.iload 5, 2) := by decide +kernel
theorem dX6_inForce_61 : decode cX6_inForce 61 = .ok (.istore_n 3, 1) := by decide +kernel
theorem dX6_inForce_62 : decode cX6_inForce 62 = .ok (.aload 6, 2) := by decide +kernel
theorem dX6_inForce_64 : decode cX6_inForce 64 = .ok (.getfield 31, 3) := by decide +kernel
theorem dX6_inForce_67 : decode cX6_inForce 67 = .ok (.istore 4, 2) := by decide +kernel
theorem dX6_inForce_69 : decode cX6_inForce 69 = .ok (.iinc 5 1, 3) := by decide +kernel
theorem dX6_inForce_72 : decode cX6_inForce 72 = .ok (.goto (-64), 3) := by decide +kernel
theorem dX6_inForce_75 : decode cX6_inForce 75 = .ok (.iload_n 3, 1) := by decide +kernel
theorem dX6_inForce_76 : decode cX6_inForce 76 = .ok (.ireturn, 1) := by decide +kernel
theorem dX6_lawOn_0 : decode cX6_lawOn 0 = .ok (.aload_n 0, 1) := by decide +kernel
theorem dX6_lawOn_1 : decode cX6_lawOn 1 = .ok (.iload_n 1, 1) := by decide +kernel
theorem dX6_lawOn_2 : decode cX6_lawOn 2 = .ok (.iload_n 2, 1) := by decide +kernel
theorem dX6_lawOn_3 : decode cX6_lawOn 3 = .ok (.invokevirtual 34, 3) := by decide +kernel
theorem dX6_lawOn_6 : decode cX6_lawOn 6 = .ok (.istore_n 3, 1) := by decide +kernel
theorem dX6_lawOn_7 : decode cX6_lawOn 7 = .ok (.iload_n 3, 1) := by decide +kernel
theorem dX6_lawOn_8 : decode cX6_lawOn 8 = .ok (.ifCond .lt 12, 3) := by decide +kernel
theorem dX6_lawOn_11 : decode cX6_lawOn 11 = .ok (.aload_n 0, 1) := by decide +kernel
theorem dX6_lawOn_12 : decode cX6_lawOn 12 = .ok (.getfield 11, 3) := by decide +kernel
theorem dX6_lawOn_15 : decode cX6_lawOn 15 = .ok (.iload_n 3, 1) := by decide +kernel
theorem dX6_lawOn_16 : decode cX6_lawOn 16 = .ok (.aaload, 1) := by decide +kernel
theorem dX6_lawOn_17 : decode cX6_lawOn 17 = .ok (.ifnonnull 8, 3) := by decide +kernel
theorem dX6_lawOn_20 : decode cX6_lawOn 20 = .ok (.aload_n 0, 1) := by decide +kernel
theorem dX6_lawOn_21 : decode cX6_lawOn 21 = .ok (.getfield 20, 3) := by decide +kernel
theorem dX6_lawOn_24 : decode cX6_lawOn 24 = .ok (.areturn, 1) := by decide +kernel
theorem dX6_lawOn_25 : decode cX6_lawOn 25 = .ok (.aload_n 0, 1) := by decide +kernel
theorem dX6_lawOn_26 : decode cX6_lawOn 26 = .ok (.getfield 11, 3) := by decide +kernel
theorem dX6_lawOn_29 : decode cX6_lawOn 29 = .ok (.iload_n 3, 1) := by decide +kernel
theorem dX6_lawOn_30 : decode cX6_lawOn 30 = .ok (.aaload, 1) := by decide +kernel
theorem dX6_lawOn_31 : decode cX6_lawOn 31 = .ok (.areturn, 1) := by decide +kernel
theorem dX7_init_0 : decode cX7_init 0 = .ok (.aload_n 0, 1) := by decide +kernel
theorem dX7_init_1 : decode cX7_init 1 = .ok (.invokespecial 3, 3) := by decide +kernel
theorem dX7_init_4 : decode cX7_init 4 = .ok (.aload_n 0, 1) := by decide +kernel
theorem dX7_init_5 : decode cX7_init 5 = .ok (.bipush 10, 2) := by decide +kernel
theorem dX7_init_7 : decode cX7_init 7 = .ok (.newarray .int, 2) := by decide +kernel
theorem dX7_init_9 : decode cX7_init 9 = .ok (.putfield 9, 3) := by decide +kernel
theorem dX7_init_12 : decode cX7_init 12 = .ok (.aload_n 0, 1) := by decide +kernel
theorem dX7_init_13 : decode cX7_init 13 = .ok (.bipush 10, 2) := by decide +kernel
theorem dX7_init_15 : decode cX7_init 15 = .ok (.newarray .int, 2) := by decide +kernel
theorem dX7_init_17 : decode cX7_init 17 = .ok (.putfield 15, 3) := by decide +kernel
theorem dX7_init_20 : decode cX7_init 20 = .ok (.aload_n 0, 1) := by decide +kernel
theorem dX7_init_21 : decode cX7_init 21 = .ok (.bipush 10, 2) := by decide +kernel
theorem dX7_init_23 : decode cX7_init 23 = .ok (.newarray .int, 2) := by decide +kernel
theorem dX7_init_25 : decode cX7_init 25 = .ok (.putfield 18, 3) := by decide +kernel
theorem dX7_init_28 : decode cX7_init 28 = .ok (.aload_n 0, 1) := by decide +kernel
theorem dX7_init_29 : decode cX7_init 29 = .ok (.bipush 10, 2) := by decide +kernel
theorem dX7_init_31 : decode cX7_init 31 = .ok (.newarray .int, 2) := by decide +kernel
theorem dX7_init_33 : decode cX7_init 33 = .ok (.putfield 21, 3) := by decide +kernel
theorem dX7_init_36 : decode cX7_init 36 = .ok (.aload_n 0, 1) := by decide +kernel
theorem dX7_init_37 : decode cX7_init 37 = .ok (.bipush 10, 2) := by decide +kernel
theorem dX7_init_39 : decode cX7_init 39 = .ok (.newarray .int, 2) := by decide +kernel
theorem dX7_init_41 : decode cX7_init 41 = .ok (.putfield 24, 3) := by decide +kernel
theorem dX7_init_44 : decode cX7_init 44 = .ok (.aload_n 0, 1) := by decide +kernel
theorem dX7_init_45 : decode cX7_init 45 = .ok (.bipush 10, 2) := by decide +kernel
theorem dX7_init_47 : decode cX7_init 47 = .ok (.newarray .int, 2) := by decide +kernel
theorem dX7_init_49 : decode cX7_init 49 = .ok (.putfield 27, 3) := by decide +kernel
theorem dX7_init_52 : decode cX7_init 52 = .ok (.aload_n 0, 1) := by decide +kernel
theorem dX7_init_53 : decode cX7_init 53 = .ok (.iconst 0, 1) := by decide +kernel
theorem dX7_init_54 : decode cX7_init 54 = .ok (.putfield 30, 3) := by decide +kernel
theorem dX7_init_57 : decode cX7_init 57 = .ok (.return_, 1) := by decide +kernel
theorem dX7_add_0 : decode cX7_add 0 = .ok (.aload_n 0, 1) := by decide +kernel
theorem dX7_add_1 : decode cX7_add 1 = .ok (.getfield 30, 3) := by decide +kernel
theorem dX7_add_4 : decode cX7_add 4 = .ok (.bipush 10, 2) := by decide +kernel
theorem dX7_add_6 : decode cX7_add 6 = .ok (.if_icmp .lt 5, 3) := by decide +kernel
theorem dX7_add_9 : decode cX7_add 9 = .ok (.iconst (-1), 1) := by decide +kernel
theorem dX7_add_10 : decode cX7_add 10 = .ok (.ireturn, 1) := by decide +kernel
theorem dX7_add_11 : decode cX7_add 11 = .ok (.aload_n 0, 1) := by decide +kernel
theorem dX7_add_12 : decode cX7_add 12 = .ok (.getfield 9, 3) := by decide +kernel
theorem dX7_add_15 : decode cX7_add 15 = .ok (.aload_n 0, 1) := by decide +kernel
theorem dX7_add_16 : decode cX7_add 16 = .ok (.getfield 30, 3) := by decide +kernel
theorem dX7_add_19 : decode cX7_add 19 = .ok (.iload_n 1, 1) := by decide +kernel
theorem dX7_add_20 : decode cX7_add 20 = .ok (.iastore, 1) := by decide +kernel
theorem dX7_add_21 : decode cX7_add 21 = .ok (.aload_n 0, 1) := by decide +kernel
theorem dX7_add_22 : decode cX7_add 22 = .ok (.getfield 15, 3) := by decide +kernel
theorem dX7_add_25 : decode cX7_add 25 = .ok (.aload_n 0, 1) := by decide +kernel
theorem dX7_add_26 : decode cX7_add 26 = .ok (.getfield 30, 3) := by decide +kernel
theorem dX7_add_29 : decode cX7_add 29 = .ok (.iload_n 2, 1) := by decide +kernel
theorem dX7_add_30 : decode cX7_add 30 = .ok (.iastore, 1) := by decide +kernel
theorem dX7_add_31 : decode cX7_add 31 = .ok (.aload_n 0, 1) := by decide +kernel
theorem dX7_add_32 : decode cX7_add 32 = .ok (.getfield 18, 3) := by decide +kernel
theorem dX7_add_35 : decode cX7_add 35 = .ok (.aload_n 0, 1) := by decide +kernel
theorem dX7_add_36 : decode cX7_add 36 = .ok (.getfield 30, 3) := by decide +kernel
theorem dX7_add_39 : decode cX7_add 39 = .ok (.iload_n 3, 1) := by decide +kernel
theorem dX7_add_40 : decode cX7_add 40 = .ok (.iastore, 1) := by decide +kernel
theorem dX7_add_41 : decode cX7_add 41 = .ok (.aload_n 0, 1) := by decide +kernel
theorem dX7_add_42 : decode cX7_add 42 = .ok (.getfield 21, 3) := by decide +kernel
theorem dX7_add_45 : decode cX7_add 45 = .ok (.aload_n 0, 1) := by decide +kernel
theorem dX7_add_46 : decode cX7_add 46 = .ok (.getfield 30, 3) := by decide +kernel
theorem dX7_add_49 : decode cX7_add 49 = .ok (.iload 4, 2) := by decide +kernel
theorem dX7_add_51 : decode cX7_add 51 = .ok (.iastore, 1) := by decide +kernel
theorem dX7_add_52 : decode cX7_add 52 = .ok (.aload_n 0, 1) := by decide +kernel
theorem dX7_add_53 : decode cX7_add 53 = .ok (.getfield 24, 3) := by decide +kernel
theorem dX7_add_56 : decode cX7_add 56 = .ok (.aload_n 0, 1) := by decide +kernel
theorem dX7_add_57 : decode cX7_add 57 = .ok (.getfield 30, 3) := by decide +kernel
theorem dX7_add_60 : decode cX7_add 60 = .ok (.iload 5, 2) := by decide +kernel
theorem dX7_add_62 : decode cX7_add 62 = .ok (.iastore, 1) := by decide +kernel
theorem dX7_add_63 : decode cX7_add 63 = .ok (.aload_n 0, 1) := by decide +kernel
theorem dX7_add_64 : decode cX7_add 64 = .ok (.getfield 27, 3) := by decide +kernel
theorem dX7_add_67 : decode cX7_add 67 = .ok (.aload_n 0, 1) := by decide +kernel
theorem dX7_add_68 : decode cX7_add 68 = .ok (.getfield 30, 3) := by decide +kernel
theorem dX7_add_71 : decode cX7_add 71 = .ok (.iload 6, 2) := by decide +kernel
theorem dX7_add_73 : decode cX7_add 73 = .ok (.iastore, 1) := by decide +kernel
theorem dX7_add_74 : decode cX7_add 74 = .ok (.aload_n 0, 1) := by decide +kernel
theorem dX7_add_75 : decode cX7_add 75 = .ok (.dup, 1) := by decide +kernel
theorem dX7_add_76 : decode cX7_add 76 = .ok (.getfield 30, 3) := by decide +kernel
theorem dX7_add_79 : decode cX7_add 79 = .ok (.iconst 1, 1) := by decide +kernel
theorem dX7_add_80 : decode cX7_add 80 = .ok (.iadd, 1) := by decide +kernel
theorem dX7_add_81 : decode cX7_add 81 = .ok (.putfield 30, 3) := by decide +kernel
theorem dX7_add_84 : decode cX7_add 84 = .ok (.aload_n 0, 1) := by decide +kernel
theorem dX7_add_85 : decode cX7_add 85 = .ok (.getfield 30, 3) := by decide +kernel
theorem dX7_add_88 : decode cX7_add 88 = .ok (.iconst 1, 1) := by decide +kernel
theorem dX7_add_89 : decode cX7_add 89 = .ok (.isub, 1) := by decide +kernel
theorem dX7_add_90 : decode cX7_add 90 = .ok (.ireturn, 1) := by decide +kernel
theorem dX7_binds_0 : decode cX7_binds 0 = .ok (.aload_n 0, 1) := by decide +kernel
theorem dX7_binds_1 : decode cX7_binds 1 = .ok (.getfield 9, 3) := by decide +kernel
theorem dX7_binds_4 : decode cX7_binds 4 = .ok (.iload_n 1, 1) := by decide +kernel
theorem dX7_binds_5 : decode cX7_binds 5 = .ok (.iaload, 1) := by decide +kernel
theorem dX7_binds_6 : decode cX7_binds 6 = .ok (.iload_n 2, 1) := by decide +kernel
theorem dX7_binds_7 : decode cX7_binds 7 = .ok (.if_icmp .eq 13, 3) := by decide +kernel
theorem dX7_binds_10 : decode cX7_binds 10 = .ok (.aload_n 0, 1) := by decide +kernel
theorem dX7_binds_11 : decode cX7_binds 11 = .ok (.getfield 15, 3) := by decide +kernel
theorem dX7_binds_14 : decode cX7_binds 14 = .ok (.iload_n 1, 1) := by decide +kernel
theorem dX7_binds_15 : decode cX7_binds 15 = .ok (.iaload, 1) := by decide +kernel
theorem dX7_binds_16 : decode cX7_binds 16 = .ok (.iload_n 2, 1) := by decide +kernel
theorem dX7_binds_17 : decode cX7_binds 17 = .ok (.if_icmp .ne 7, 3) := by decide +kernel
theorem dX7_binds_20 : decode cX7_binds 20 = .ok (.iconst 1, 1) := by decide +kernel
theorem dX7_binds_21 : decode cX7_binds 21 = .ok (.goto 4, 3) := by decide +kernel
theorem dX7_binds_24 : decode cX7_binds 24 = .ok (.iconst 0, 1) := by decide +kernel
theorem dX7_binds_25 : decode cX7_binds 25 = .ok (.ireturn, 1) := by decide +kernel
theorem dX7_otherOf_0 : decode cX7_otherOf 0 = .ok (.aload_n 0, 1) := by decide +kernel
theorem dX7_otherOf_1 : decode cX7_otherOf 1 = .ok (.getfield 9, 3) := by decide +kernel
theorem dX7_otherOf_4 : decode cX7_otherOf 4 = .ok (.iload_n 1, 1) := by decide +kernel
theorem dX7_otherOf_5 : decode cX7_otherOf 5 = .ok (.iaload, 1) := by decide +kernel
theorem dX7_otherOf_6 : decode cX7_otherOf 6 = .ok (.iload_n 2, 1) := by decide +kernel
theorem dX7_otherOf_7 : decode cX7_otherOf 7 = .ok (.if_icmp .ne 12, 3) := by decide +kernel
theorem dX7_otherOf_10 : decode cX7_otherOf 10 = .ok (.aload_n 0, 1) := by decide +kernel
theorem dX7_otherOf_11 : decode cX7_otherOf 11 = .ok (.getfield 15, 3) := by decide +kernel
theorem dX7_otherOf_14 : decode cX7_otherOf 14 = .ok (.iload_n 1, 1) := by decide +kernel
theorem dX7_otherOf_15 : decode cX7_otherOf 15 = .ok (.iaload, 1) := by decide +kernel
theorem dX7_otherOf_16 : decode cX7_otherOf 16 = .ok (.goto 9, 3) := by decide +kernel
theorem dX7_otherOf_19 : decode cX7_otherOf 19 = .ok (.aload_n 0, 1) := by decide +kernel
theorem dX7_otherOf_20 : decode cX7_otherOf 20 = .ok (.getfield 9, 3) := by decide +kernel
theorem dX7_otherOf_23 : decode cX7_otherOf 23 = .ok (.iload_n 1, 1) := by decide +kernel
theorem dX7_otherOf_24 : decode cX7_otherOf 24 = .ok (.iaload, 1) := by decide +kernel
theorem dX7_otherOf_25 : decode cX7_otherOf 25 = .ok (.ireturn, 1) := by decide +kernel
theorem dX7_sideOf_0 : decode cX7_sideOf 0 = .ok (.aload_n 0, 1) := by decide +kernel
theorem dX7_sideOf_1 : decode cX7_sideOf 1 = .ok (.getfield 9, 3) := by decide +kernel
theorem dX7_sideOf_4 : decode cX7_sideOf 4 = .ok (.iload_n 1, 1) := by decide +kernel
theorem dX7_sideOf_5 : decode cX7_sideOf 5 = .ok (.iaload, 1) := by decide +kernel
theorem dX7_sideOf_6 : decode cX7_sideOf 6 = .ok (.iload_n 2, 1) := by decide +kernel
theorem dX7_sideOf_7 : decode cX7_sideOf 7 = .ok (.if_icmp .ne 7, 3) := by decide +kernel
theorem dX7_sideOf_10 : decode cX7_sideOf 10 = .ok (.iconst 0, 1) := by decide +kernel
theorem dX7_sideOf_11 : decode cX7_sideOf 11 = .ok (.goto 4, 3) := by decide +kernel
theorem dX7_sideOf_14 : decode cX7_sideOf 14 = .ok (.iconst 1, 1) := by decide +kernel
theorem dX7_sideOf_15 : decode cX7_sideOf 15 = .ok (.ireturn, 1) := by decide +kernel
theorem dX7_shared_0 : decode cX7_shared 0 = .ok (.aload_n 0, 1) := by decide +kernel
theorem dX7_shared_1 : decode cX7_shared 1 = .ok (.iload_n 2, 1) := by decide +kernel
theorem dX7_shared_2 : decode cX7_shared 2 = .ok (.aload_n 0, 1) := by decide +kernel
theorem dX7_shared_3 : decode cX7_shared 3 = .ok (.getfield 9, 3) := by decide +kernel
theorem dX7_shared_6 : decode cX7_shared 6 = .ok (.iload_n 1, 1) := by decide +kernel
theorem dX7_shared_7 : decode cX7_shared 7 = .ok (.iaload, 1) := by decide +kernel
theorem dX7_shared_8 : decode cX7_shared 8 = .ok (.invokevirtual 34, 3) := by decide +kernel
theorem dX7_shared_11 : decode cX7_shared 11 = .ok (.ifCond .eq 7, 3) := by decide +kernel
theorem dX7_shared_14 : decode cX7_shared 14 = .ok (.iconst 1, 1) := by decide +kernel
theorem dX7_shared_15 : decode cX7_shared 15 = .ok (.goto 4, 3) := by decide +kernel
theorem dX7_shared_18 : decode cX7_shared 18 = .ok (.iconst 0, 1) := by decide +kernel
theorem dX7_shared_19 : decode cX7_shared 19 = .ok (.aload_n 0, 1) := by decide +kernel
theorem dX7_shared_20 : decode cX7_shared 20 = .ok (.iload_n 2, 1) := by decide +kernel
theorem dX7_shared_21 : decode cX7_shared 21 = .ok (.aload_n 0, 1) := by decide +kernel
theorem dX7_shared_22 : decode cX7_shared 22 = .ok (.getfield 15, 3) := by decide +kernel
theorem dX7_shared_25 : decode cX7_shared 25 = .ok (.iload_n 1, 1) := by decide +kernel
theorem dX7_shared_26 : decode cX7_shared 26 = .ok (.iaload, 1) := by decide +kernel
theorem dX7_shared_27 : decode cX7_shared 27 = .ok (.invokevirtual 34, 3) := by decide +kernel
theorem dX7_shared_30 : decode cX7_shared 30 = .ok (.ifCond .eq 7, 3) := by decide +kernel
theorem dX7_shared_33 : decode cX7_shared 33 = .ok (.iconst 2, 1) := by decide +kernel
theorem dX7_shared_34 : decode cX7_shared 34 = .ok (.goto 4, 3) := by decide +kernel
theorem dX7_shared_37 : decode cX7_shared 37 = .ok (.iconst 0, 1) := by decide +kernel
theorem dX7_shared_38 : decode cX7_shared 38 = .ok (.iadd, 1) := by decide +kernel
theorem dX7_shared_39 : decode cX7_shared 39 = .ok (.ireturn, 1) := by decide +kernel
theorem dX8_init_0 : decode cX8_init 0 = .ok (.aload_n 0, 1) := by decide +kernel
theorem dX8_init_1 : decode cX8_init 1 = .ok (.invokespecial 3, 3) := by decide +kernel
theorem dX8_init_4 : decode cX8_init 4 = .ok (.aload_n 0, 1) := by decide +kernel
theorem dX8_init_5 : decode cX8_init 5 = .ok (.bipush 12, 2) := by decide +kernel
theorem dX8_init_7 : decode cX8_init 7 = .ok (.newarray .int, 2) := by decide +kernel
theorem dX8_init_9 : decode cX8_init 9 = .ok (.putfield 9, 3) := by decide +kernel
theorem dX8_init_12 : decode cX8_init 12 = .ok (.aload_n 0, 1) := by decide +kernel
theorem dX8_init_13 : decode cX8_init 13 = .ok (.bipush 7, 2) := by decide +kernel
theorem dX8_init_15 : decode cX8_init 15 = .ok (.newarray .int, 2) := by decide +kernel
theorem dX8_init_17 : decode cX8_init 17 = .ok (.putfield 15, 3) := by decide +kernel
theorem dX8_init_20 : decode cX8_init 20 = .ok (.aload_n 0, 1) := by decide +kernel
theorem dX8_init_21 : decode cX8_init 21 = .ok (.bipush 7, 2) := by decide +kernel
theorem dX8_init_23 : decode cX8_init 23 = .ok (.newarray .int, 2) := by decide +kernel
theorem dX8_init_25 : decode cX8_init 25 = .ok (.putfield 18, 3) := by decide +kernel
theorem dX8_init_28 : decode cX8_init 28 = .ok (.aload_n 0, 1) := by decide +kernel
theorem dX8_init_29 : decode cX8_init 29 = .ok (.iconst 0, 1) := by decide +kernel
theorem dX8_init_30 : decode cX8_init 30 = .ok (.putfield 21, 3) := by decide +kernel
theorem dX8_init_33 : decode cX8_init 33 = .ok (.return_, 1) := by decide +kernel
theorem dX8_clear_0 : decode cX8_clear 0 = .ok (.aload_n 0, 1) := by decide +kernel
theorem dX8_clear_1 : decode cX8_clear 1 = .ok (.getfield 9, 3) := by decide +kernel
theorem dX8_clear_4 : decode cX8_clear 4 = .ok (.iconst 0, 1) := by decide +kernel
theorem dX8_clear_5 : decode cX8_clear 5 = .ok (.invokestatic 25, 3) := by decide +kernel
theorem dX8_clear_8 : decode cX8_clear 8 = .ok (.return_, 1) := by decide +kernel
theorem dX8_holds_0 : decode cX8_holds 0 = .ok (.iconst 1, 1) := by decide +kernel
theorem dX8_holds_1 : decode cX8_holds 1 = .ok (.istore_n 3, 1) := by decide +kernel
theorem dX8_holds_2 : decode cX8_holds 2 = .ok (.aload_n 0, 1) := by decide +kernel
theorem dX8_holds_3 : decode cX8_holds 3 = .ok (.iload_n 2, 1) := by decide +kernel
theorem dX8_holds_4 : decode cX8_holds 4 = .ok (.iconst 1, 1) := by decide +kernel
theorem dX8_holds_5 : decode cX8_holds 5 = .ok (.isub, 1) := by decide +kernel
theorem dX8_holds_6 : decode cX8_holds 6 = .ok (.putfield 21, 3) := by decide +kernel
theorem dX8_holds_9 : decode cX8_holds 9 = .ok (.iconst 0, 1) := by decide +kernel
theorem dX8_holds_10 : decode cX8_holds 10 = .ok (.istore 4, 2) := by decide +kernel
theorem dX8_holds_12 : decode cX8_holds 12 = .ok (.iload 4, 2) := by decide +kernel
theorem dX8_holds_14 : decode cX8_holds 14 = .ok (.sipush 400, 3) := by decide +kernel
theorem dX8_holds_17 : decode cX8_holds 17 = .ok (.if_icmp .ge 101, 3) := by decide +kernel
theorem dX8_holds_20 : decode cX8_holds 20 = .ok (.aload_n 0, 1) := by decide +kernel
theorem dX8_holds_21 : decode cX8_holds 21 = .ok (.aload_n 1, 1) := by decide +kernel
theorem dX8_holds_22 : decode cX8_holds 22 = .ok (.aload_n 0, 1) := by decide +kernel
theorem dX8_holds_23 : decode cX8_holds 23 = .ok (.getfield 21, 3) := by decide +kernel
theorem dX8_holds_26 : decode cX8_holds 26 = .ok (.iconst 1, 1) := by decide +kernel
theorem dX8_holds_27 : decode cX8_holds 27 = .ok (.iadd, 1) := by decide +kernel
theorem dX8_holds_28 : decode cX8_holds 28 = .ok (.invokevirtual 31, 3) := by decide +kernel
theorem dX8_holds_31 : decode cX8_holds 31 = .ok (.istore 5, 2) := by decide +kernel
theorem dX8_holds_33 : decode cX8_holds 33 = .ok (.aload_n 1, 1) := by decide +kernel
theorem dX8_holds_34 : decode cX8_holds 34 = .ok (.aload_n 0, 1) := by decide +kernel
theorem dX8_holds_35 : decode cX8_holds 35 = .ok (.getfield 21, 3) := by decide +kernel
theorem dX8_holds_38 : decode cX8_holds 38 = .ok (.invokevirtual 35, 3) := by decide +kernel
theorem dX8_holds_41 : decode cX8_holds 41 = .ok (.istore 6, 2) := by decide +kernel
theorem dX8_holds_43 : decode cX8_holds 43 = .ok (.aload_n 0, 1) := by decide +kernel
theorem dX8_holds_44 : decode cX8_holds 44 = .ok (.aload_n 1, 1) := by decide +kernel
theorem dX8_holds_45 : decode cX8_holds 45 = .ok (.aload_n 0, 1) := by decide +kernel
theorem dX8_holds_46 : decode cX8_holds 46 = .ok (.getfield 21, 3) := by decide +kernel
theorem dX8_holds_49 : decode cX8_holds 49 = .ok (.iconst 1, 1) := by decide +kernel
theorem dX8_holds_50 : decode cX8_holds 50 = .ok (.iadd, 1) := by decide +kernel
theorem dX8_holds_51 : decode cX8_holds 51 = .ok (.invokevirtual 31, 3) := by decide +kernel
theorem dX8_holds_54 : decode cX8_holds 54 = .ok (.istore 7, 2) := by decide +kernel
theorem dX8_holds_56 : decode cX8_holds 56 = .ok (.iload_n 3, 1) := by decide +kernel
theorem dX8_holds_57 : decode cX8_holds 57 = .ok (.ifCond .eq 19, 3) := by decide +kernel
theorem dX8_holds_60 : decode cX8_holds 60 = .ok (.iload 5, 2) := by decide +kernel
theorem dX8_holds_62 : decode cX8_holds 62 = .ok (.iload 6, 2) := by decide +kernel
theorem dX8_holds_64 : decode cX8_holds 64 = .ok (.iload 7, 2) := by decide +kernel
theorem dX8_holds_66 : decode cX8_holds 66 = .ok (.invokestatic 41, 3) := by decide +kernel
theorem dX8_holds_69 : decode cX8_holds 69 = .ok (.ifCond .eq 7, 3) := by decide +kernel
theorem dX8_holds_72 : decode cX8_holds 72 = .ok (.iconst 1, 1) := by decide +kernel
theorem dX8_holds_73 : decode cX8_holds 73 = .ok (.goto 4, 3) := by decide +kernel
theorem dX8_holds_76 : decode cX8_holds 76 = .ok (.iconst 0, 1) := by decide +kernel
theorem dX8_holds_77 : decode cX8_holds 77 = .ok (.istore_n 3, 1) := by decide +kernel
theorem dX8_holds_78 : decode cX8_holds 78 = .ok (.aload_n 1, 1) := by decide +kernel
theorem dX8_holds_79 : decode cX8_holds 79 = .ok (.aload_n 0, 1) := by decide +kernel
theorem dX8_holds_80 : decode cX8_holds 80 = .ok (.getfield 21, 3) := by decide +kernel
theorem dX8_holds_83 : decode cX8_holds 83 = .ok (.invokevirtual 35, 3) := by decide +kernel
theorem dX8_holds_86 : decode cX8_holds 86 = .ok (.istore 8, 2) := by decide +kernel
theorem dX8_holds_88 : decode cX8_holds 88 = .ok (.iload 8, 2) := by decide +kernel
theorem dX8_holds_90 : decode cX8_holds 90 = .ok (.sipush 10007, 3) := by decide +kernel
theorem dX8_holds_93 : decode cX8_holds 93 = .ok (.if_icmp .eq 19, 3) := by decide +kernel
theorem dX8_holds_96 : decode cX8_holds 96 = .ok (.iload_n 3, 1) := by decide +kernel
theorem dX8_holds_97 : decode cX8_holds 97 = .ok (.ifCond .ne 11, 3) := by decide +kernel
theorem dX8_holds_100 : decode cX8_holds 100 = .ok (.iload 8, 2) := by decide +kernel
theorem dX8_holds_102 : decode cX8_holds 102 = .ok (.sipush 10006, 3) := by decide +kernel
theorem dX8_holds_105 : decode cX8_holds 105 = .ok (.if_icmp .eq 5, 3) := by decide +kernel
theorem dX8_holds_108 : decode cX8_holds 108 = .ok (.iload_n 3, 1) := by decide +kernel
theorem dX8_holds_109 : decode cX8_holds 109 = .ok (.ireturn, 1) := by decide +kernel
theorem dX8_holds_110 : decode cX8_holds 110 = .ok (.iconst 1, 1) := by decide +kernel
theorem dX8_holds_111 : decode cX8_holds 111 = .ok (.istore_n 3, 1) := by decide +kernel
theorem dX8_holds_112 : decode cX8_holds 112 = .ok (.iinc 4 1, 3) := by decide +kernel
theorem dX8_holds_115 : decode cX8_holds 115 = .ok (.goto (-103), 3) := by decide +kernel
theorem dX8_holds_118 : decode cX8_holds 118 = .ok (.iconst 0, 1) := by decide +kernel
theorem dX8_holds_119 : decode cX8_holds 119 = .ok (.ireturn, 1) := by decide +kernel
theorem dX8_valueOf_0 : decode cX8_valueOf 0 = .ok (.iconst 0, 1) := by decide +kernel
theorem dX8_valueOf_1 : decode cX8_valueOf 1 = .ok (.istore_n 3, 1) := by decide +kernel
theorem dX8_valueOf_2 : decode cX8_valueOf 2 = .ok (.aload_n 0, 1) := by decide +kernel
theorem dX8_valueOf_3 : decode cX8_valueOf 3 = .ok (.getfield 15, 3) := by decide +kernel
theorem dX8_valueOf_6 : decode cX8_valueOf 6 = .ok (.iconst 0, 1) := by decide +kernel
theorem dX8_valueOf_7 : decode cX8_valueOf 7 = .ok (.iconst 0, 1) := by decide +kernel
theorem dX8_valueOf_8 : decode cX8_valueOf 8 = .ok (.iastore, 1) := by decide +kernel
theorem dX8_valueOf_9 : decode cX8_valueOf 9 = .ok (.aload_n 0, 1) := by decide +kernel
theorem dX8_valueOf_10 : decode cX8_valueOf 10 = .ok (.getfield 18, 3) := by decide +kernel
theorem dX8_valueOf_13 : decode cX8_valueOf 13 = .ok (.iconst 0, 1) := by decide +kernel
theorem dX8_valueOf_14 : decode cX8_valueOf 14 = .ok (.iconst 1, 1) := by decide +kernel
theorem dX8_valueOf_15 : decode cX8_valueOf 15 = .ok (.iastore, 1) := by decide +kernel
theorem dX8_valueOf_16 : decode cX8_valueOf 16 = .ok (.iconst 0, 1) := by decide +kernel
theorem dX8_valueOf_17 : decode cX8_valueOf 17 = .ok (.iload_n 2, 1) := by decide +kernel
theorem dX8_valueOf_18 : decode cX8_valueOf 18 = .ok (.invokestatic 45, 3) := by decide +kernel
theorem dX8_valueOf_21 : decode cX8_valueOf 21 = .ok (.istore 4, 2) := by decide +kernel
theorem dX8_valueOf_23 : decode cX8_valueOf 23 = .ok (.iload 4, 2) := by decide +kernel
theorem dX8_valueOf_25 : decode cX8_valueOf 25 = .ok (.aload_n 1, 1) := by decide +kernel
theorem dX8_valueOf_26 : decode cX8_valueOf 26 = .ok (.getfield 51, 3) := by decide +kernel
theorem dX8_valueOf_29 : decode cX8_valueOf 29 = .ok (.arraylength, 1) := by decide +kernel
theorem dX8_valueOf_30 : decode cX8_valueOf 30 = .ok (.if_icmp .ge 221, 3) := by decide +kernel
theorem dX8_valueOf_33 : decode cX8_valueOf 33 = .ok (.aload_n 1, 1) := by decide +kernel
theorem dX8_valueOf_34 : decode cX8_valueOf 34 = .ok (.getfield 51, 3) := by decide +kernel
theorem dX8_valueOf_37 : decode cX8_valueOf 37 = .ok (.iload 4, 2) := by decide +kernel
theorem dX8_valueOf_39 : decode cX8_valueOf 39 = .ok (.iaload, 1) := by decide +kernel
theorem dX8_valueOf_40 : decode cX8_valueOf 40 = .ok (.istore 5, 2) := by decide +kernel
theorem dX8_valueOf_42 : decode cX8_valueOf 42 = .ok (.iload 5, 2) := by decide +kernel
theorem dX8_valueOf_44 : decode cX8_valueOf 44 = .ok (.sipush 10000, 3) := by decide +kernel
theorem dX8_valueOf_47 : decode cX8_valueOf 47 = .ok (.if_icmp .ge 17, 3) := by decide +kernel
theorem dX8_valueOf_50 : decode cX8_valueOf 50 = .ok (.aload_n 0, 1) := by decide +kernel
theorem dX8_valueOf_51 : decode cX8_valueOf 51 = .ok (.getfield 18, 3) := by decide +kernel
theorem dX8_valueOf_54 : decode cX8_valueOf 54 = .ok (.iload_n 3, 1) := by decide +kernel
theorem dX8_valueOf_55 : decode cX8_valueOf 55 = .ok (.dup2, 1) := by decide +kernel
theorem dX8_valueOf_56 : decode cX8_valueOf 56 = .ok (.iaload, 1) := by decide +kernel
theorem dX8_valueOf_57 : decode cX8_valueOf 57 = .ok (.iload 5, 2) := by decide +kernel
theorem dX8_valueOf_59 : decode cX8_valueOf 59 = .ok (.imul, 1) := by decide +kernel
theorem dX8_valueOf_60 : decode cX8_valueOf 60 = .ok (.iastore, 1) := by decide +kernel
theorem dX8_valueOf_61 : decode cX8_valueOf 61 = .ok (.goto 184, 3) := by decide +kernel
theorem dX8_valueOf_64 : decode cX8_valueOf 64 = .ok (.iload 5, 2) := by decide +kernel
theorem dX8_valueOf_66 : decode cX8_valueOf 66 = .ok (.sipush 10008, 3) := by decide +kernel
theorem dX8_valueOf_69 : decode cX8_valueOf 69 = .ok (.if_icmp .lt 34, 3) := by decide +kernel
theorem dX8_valueOf_72 : decode cX8_valueOf 72 = .ok (.iload 5, 2) := by decide +kernel
theorem dX8_valueOf_74 : decode cX8_valueOf 74 = .ok (.sipush 10020, 3) := by decide +kernel
theorem dX8_valueOf_77 : decode cX8_valueOf 77 = .ok (.if_icmp .ge 26, 3) := by decide +kernel
theorem dX8_valueOf_80 : decode cX8_valueOf 80 = .ok (.aload_n 0, 1) := by decide +kernel
theorem dX8_valueOf_81 : decode cX8_valueOf 81 = .ok (.getfield 18, 3) := by decide +kernel
theorem dX8_valueOf_84 : decode cX8_valueOf 84 = .ok (.iload_n 3, 1) := by decide +kernel
theorem dX8_valueOf_85 : decode cX8_valueOf 85 = .ok (.dup2, 1) := by decide +kernel
theorem dX8_valueOf_86 : decode cX8_valueOf 86 = .ok (.iaload, 1) := by decide +kernel
theorem dX8_valueOf_87 : decode cX8_valueOf 87 = .ok (.aload_n 0, 1) := by decide +kernel
theorem dX8_valueOf_88 : decode cX8_valueOf 88 = .ok (.getfield 9, 3) := by decide +kernel
theorem dX8_valueOf_91 : decode cX8_valueOf 91 = .ok (.iload 5, 2) := by decide +kernel
theorem dX8_valueOf_93 : decode cX8_valueOf 93 = .ok (.sipush 10008, 3) := by decide +kernel
theorem dX8_valueOf_96 : decode cX8_valueOf 96 = .ok (.isub, 1) := by decide +kernel
theorem dX8_valueOf_97 : decode cX8_valueOf 97 = .ok (.iaload, 1) := by decide +kernel
theorem dX8_valueOf_98 : decode cX8_valueOf 98 = .ok (.imul, 1) := by decide +kernel
theorem dX8_valueOf_99 : decode cX8_valueOf 99 = .ok (.iastore, 1) := by decide +kernel
theorem dX8_valueOf_100 : decode cX8_valueOf 100 = .ok (.goto 145, 3) := by decide +kernel
theorem dX8_valueOf_103 : decode cX8_valueOf 103 = .ok (.iload 5, 2) := by decide +kernel
theorem dX8_valueOf_105 : decode cX8_valueOf 105 = .ok (.sipush 10021, 3) := by decide +kernel
theorem dX8_valueOf_108 : decode cX8_valueOf 108 = .ok (.if_icmp .eq 11, 3) := by decide +kernel
theorem dX8_valueOf_111 : decode cX8_valueOf 111 = .ok (.iload 5, 2) := by decide +kernel
theorem dX8_valueOf_113 : decode cX8_valueOf 113 = .ok (.sipush 10022, 3) := by decide +kernel
theorem dX8_valueOf_116 : decode cX8_valueOf 116 = .ok (.if_icmp .ne 40, 3) := by decide +kernel
theorem dX8_valueOf_119 : decode cX8_valueOf 119 = .ok (.aload_n 0, 1) := by decide +kernel
theorem dX8_valueOf_120 : decode cX8_valueOf 120 = .ok (.getfield 15, 3) := by decide +kernel
theorem dX8_valueOf_123 : decode cX8_valueOf 123 = .ok (.iload_n 3, 1) := by decide +kernel
theorem dX8_valueOf_124 : decode cX8_valueOf 124 = .ok (.dup2, 1) := by decide +kernel
theorem dX8_valueOf_125 : decode cX8_valueOf 125 = .ok (.iaload, 1) := by decide +kernel
theorem dX8_valueOf_126 : decode cX8_valueOf 126 = .ok (.aload_n 0, 1) := by decide +kernel
theorem dX8_valueOf_127 : decode cX8_valueOf 127 = .ok (.getfield 18, 3) := by decide +kernel
theorem dX8_valueOf_130 : decode cX8_valueOf 130 = .ok (.iload_n 3, 1) := by decide +kernel
theorem dX8_valueOf_131 : decode cX8_valueOf 131 = .ok (.iaload, 1) := by decide +kernel
theorem dX8_valueOf_132 : decode cX8_valueOf 132 = .ok (.iadd, 1) := by decide +kernel
theorem dX8_valueOf_133 : decode cX8_valueOf 133 = .ok (.iastore, 1) := by decide +kernel
theorem dX8_valueOf_134 : decode cX8_valueOf 134 = .ok (.aload_n 0, 1) := by decide +kernel
theorem dX8_valueOf_135 : decode cX8_valueOf 135 = .ok (.getfield 18, 3) := by decide +kernel
theorem dX8_valueOf_138 : decode cX8_valueOf 138 = .ok (.iload_n 3, 1) := by decide +kernel
theorem dX8_valueOf_139 : decode cX8_valueOf 139 = .ok (.iload 5, 2) := by decide +kernel
theorem dX8_valueOf_141 : decode cX8_valueOf 141 = .ok (.sipush 10021, 3) := by decide +kernel
theorem dX8_valueOf_144 : decode cX8_valueOf 144 = .ok (.if_icmp .ne 7, 3) := by decide +kernel
theorem dX8_valueOf_147 : decode cX8_valueOf 147 = .ok (.iconst 1, 1) := by decide +kernel
theorem dX8_valueOf_148 : decode cX8_valueOf 148 = .ok (.goto 4, 3) := by decide +kernel
theorem dX8_valueOf_151 : decode cX8_valueOf 151 = .ok (.iconst (-1), 1) := by decide +kernel
theorem dX8_valueOf_152 : decode cX8_valueOf 152 = .ok (.iastore, 1) := by decide +kernel
theorem dX8_valueOf_153 : decode cX8_valueOf 153 = .ok (.goto 92, 3) := by decide +kernel
theorem dX8_valueOf_156 : decode cX8_valueOf 156 = .ok (.iload 5, 2) := by decide +kernel
theorem dX8_valueOf_158 : decode cX8_valueOf 158 = .ok (.sipush 10028, 3) := by decide +kernel
theorem dX8_valueOf_161 : decode cX8_valueOf 161 = .ok (.if_icmp .ne 29, 3) := by decide +kernel
theorem dX8_valueOf_164 : decode cX8_valueOf 164 = .ok (.iload_n 3, 1) := by decide +kernel
theorem dX8_valueOf_165 : decode cX8_valueOf 165 = .ok (.bipush 6, 2) := by decide +kernel
theorem dX8_valueOf_167 : decode cX8_valueOf 167 = .ok (.if_icmp .ge 23, 3) := by decide +kernel
theorem dX8_valueOf_170 : decode cX8_valueOf 170 = .ok (.iinc 3 1, 3) := by decide +kernel
theorem dX8_valueOf_173 : decode cX8_valueOf 173 = .ok (.aload_n 0, 1) := by decide +kernel
theorem dX8_valueOf_174 : decode cX8_valueOf 174 = .ok (.getfield 15, 3) := by decide +kernel
theorem dX8_valueOf_177 : decode cX8_valueOf 177 = .ok (.iload_n 3, 1) := by decide +kernel
theorem dX8_valueOf_178 : decode cX8_valueOf 178 = .ok (.iconst 0, 1) := by decide +kernel
theorem dX8_valueOf_179 : decode cX8_valueOf 179 = .ok (.iastore, 1) := by decide +kernel
theorem dX8_valueOf_180 : decode cX8_valueOf 180 = .ok (.aload_n 0, 1) := by decide +kernel
theorem dX8_valueOf_181 : decode cX8_valueOf 181 = .ok (.getfield 18, 3) := by decide +kernel
theorem dX8_valueOf_184 : decode cX8_valueOf 184 = .ok (.iload_n 3, 1) := by decide +kernel
theorem dX8_valueOf_185 : decode cX8_valueOf 185 = .ok (.iconst 1, 1) := by decide +kernel
theorem dX8_valueOf_186 : decode cX8_valueOf 186 = .ok (.iastore, 1) := by decide +kernel
theorem dX8_valueOf_187 : decode cX8_valueOf 187 = .ok (.goto 58, 3) := by decide +kernel
theorem dX8_valueOf_190 : decode cX8_valueOf 190 = .ok (.iload 5, 2) := by decide +kernel
theorem dX8_valueOf_192 : decode cX8_valueOf 192 = .ok (.sipush 10029, 3) := by decide +kernel
theorem dX8_valueOf_195 : decode cX8_valueOf 195 = .ok (.if_icmp .ne 39, 3) := by decide +kernel
theorem dX8_valueOf_198 : decode cX8_valueOf 198 = .ok (.iload_n 3, 1) := by decide +kernel
theorem dX8_valueOf_199 : decode cX8_valueOf 199 = .ok (.ifCond .le 35, 3) := by decide +kernel
theorem dX8_valueOf_202 : decode cX8_valueOf 202 = .ok (.iinc 3 (-1), 3) := by decide +kernel
theorem dX8_valueOf_205 : decode cX8_valueOf 205 = .ok (.aload_n 0, 1) := by decide +kernel
theorem dX8_valueOf_206 : decode cX8_valueOf 206 = .ok (.getfield 18, 3) := by decide +kernel
theorem dX8_valueOf_209 : decode cX8_valueOf 209 = .ok (.iload_n 3, 1) := by decide +kernel
theorem dX8_valueOf_210 : decode cX8_valueOf 210 = .ok (.dup2, 1) := by decide +kernel
theorem dX8_valueOf_211 : decode cX8_valueOf 211 = .ok (.iaload, 1) := by decide +kernel
theorem dX8_valueOf_212 : decode cX8_valueOf 212 = .ok (.aload_n 0, 1) := by decide +kernel
theorem dX8_valueOf_213 : decode cX8_valueOf 213 = .ok (.getfield 15, 3) := by decide +kernel
theorem dX8_valueOf_216 : decode cX8_valueOf 216 = .ok (.iload_n 3, 1) := by decide +kernel
theorem dX8_valueOf_217 : decode cX8_valueOf 217 = .ok (.iconst 1, 1) := by decide +kernel
theorem dX8_valueOf_218 : decode cX8_valueOf 218 = .ok (.iadd, 1) := by decide +kernel
theorem dX8_valueOf_219 : decode cX8_valueOf 219 = .ok (.iaload, 1) := by decide +kernel
theorem dX8_valueOf_220 : decode cX8_valueOf 220 = .ok (.aload_n 0, 1) := by decide +kernel
theorem dX8_valueOf_221 : decode cX8_valueOf 221 = .ok (.getfield 18, 3) := by decide +kernel
theorem dX8_valueOf_224 : decode cX8_valueOf 224 = .ok (.iload_n 3, 1) := by decide +kernel
theorem dX8_valueOf_225 : decode cX8_valueOf 225 = .ok (.iconst 1, 1) := by decide +kernel
theorem dX8_valueOf_226 : decode cX8_valueOf 226 = .ok (.iadd, 1) := by decide +kernel
theorem dX8_valueOf_227 : decode cX8_valueOf 227 = .ok (.iaload, 1) := by decide +kernel
theorem dX8_valueOf_228 : decode cX8_valueOf 228 = .ok (.iadd, 1) := by decide +kernel
theorem dX8_valueOf_229 : decode cX8_valueOf 229 = .ok (.imul, 1) := by decide +kernel
theorem dX8_valueOf_230 : decode cX8_valueOf 230 = .ok (.iastore, 1) := by decide +kernel
theorem dX8_valueOf_231 : decode cX8_valueOf 231 = .ok (.goto 14, 3) := by decide +kernel
theorem dX8_valueOf_234 : decode cX8_valueOf 234 = .ok (.iload 5, 2) := by decide +kernel
theorem dX8_valueOf_236 : decode cX8_valueOf 236 = .ok (.sipush 10023, 3) := by decide +kernel
theorem dX8_valueOf_239 : decode cX8_valueOf 239 = .ok (.if_icmp .eq 6, 3) := by decide +kernel
theorem dX8_valueOf_242 : decode cX8_valueOf 242 = .ok (.goto 9, 3) := by decide +kernel
theorem dX8_valueOf_245 : decode cX8_valueOf 245 = .ok (.iinc 4 1, 3) := by decide +kernel
theorem dX8_valueOf_248 : decode cX8_valueOf 248 = .ok (.goto (-225), 3) := by decide +kernel
theorem dX8_valueOf_251 : decode cX8_valueOf 251 = .ok (.aload_n 0, 1) := by decide +kernel
theorem dX8_valueOf_252 : decode cX8_valueOf 252 = .ok (.iload 4, 2) := by decide +kernel
theorem dX8_valueOf_254 : decode cX8_valueOf 254 = .ok (.putfield 21, 3) := by decide +kernel
theorem dX8_valueOf_257 : decode cX8_valueOf 257 = .ok (.aload_n 0, 1) := by decide +kernel
theorem dX8_valueOf_258 : decode cX8_valueOf 258 = .ok (.getfield 15, 3) := by decide +kernel
theorem dX8_valueOf_261 : decode cX8_valueOf 261 = .ok (.iconst 0, 1) := by decide +kernel
theorem dX8_valueOf_262 : decode cX8_valueOf 262 = .ok (.iaload, 1) := by decide +kernel
theorem dX8_valueOf_263 : decode cX8_valueOf 263 = .ok (.aload_n 0, 1) := by decide +kernel
theorem dX8_valueOf_264 : decode cX8_valueOf 264 = .ok (.getfield 18, 3) := by decide +kernel
theorem dX8_valueOf_267 : decode cX8_valueOf 267 = .ok (.iconst 0, 1) := by decide +kernel
theorem dX8_valueOf_268 : decode cX8_valueOf 268 = .ok (.iaload, 1) := by decide +kernel
theorem dX8_valueOf_269 : decode cX8_valueOf 269 = .ok (.iadd, 1) := by decide +kernel
theorem dX8_valueOf_270 : decode cX8_valueOf 270 = .ok (.ireturn, 1) := by decide +kernel
theorem dX8_compares_0 : decode cX8_compares 0 = .ok (.iload_n 1, 1) := by decide +kernel
theorem dX8_compares_1 : decode cX8_compares 1 = .ok (.tableswitch 75 10024 10027 #[31, 42, 53, 64], 31) := by decide +kernel
theorem dX8_compares_32 : decode cX8_compares 32 = .ok (.iload_n 0, 1) := by decide +kernel
theorem dX8_compares_33 : decode cX8_compares 33 = .ok (.iload_n 2, 1) := by decide +kernel
theorem dX8_compares_34 : decode cX8_compares 34 = .ok (.if_icmp .ne 7, 3) := by decide +kernel
theorem dX8_compares_37 : decode cX8_compares 37 = .ok (.iconst 1, 1) := by decide +kernel
theorem dX8_compares_38 : decode cX8_compares 38 = .ok (.goto 4, 3) := by decide +kernel
theorem dX8_compares_41 : decode cX8_compares 41 = .ok (.iconst 0, 1) := by decide +kernel
theorem dX8_compares_42 : decode cX8_compares 42 = .ok (.ireturn, 1) := by decide +kernel
theorem dX8_compares_43 : decode cX8_compares 43 = .ok (.iload_n 0, 1) := by decide +kernel
theorem dX8_compares_44 : decode cX8_compares 44 = .ok (.iload_n 2, 1) := by decide +kernel
theorem dX8_compares_45 : decode cX8_compares 45 = .ok (.if_icmp .eq 7, 3) := by decide +kernel
theorem dX8_compares_48 : decode cX8_compares 48 = .ok (.iconst 1, 1) := by decide +kernel
theorem dX8_compares_49 : decode cX8_compares 49 = .ok (.goto 4, 3) := by decide +kernel
theorem dX8_compares_52 : decode cX8_compares 52 = .ok (.iconst 0, 1) := by decide +kernel
theorem dX8_compares_53 : decode cX8_compares 53 = .ok (.ireturn, 1) := by decide +kernel
theorem dX8_compares_54 : decode cX8_compares 54 = .ok (.iload_n 0, 1) := by decide +kernel
theorem dX8_compares_55 : decode cX8_compares 55 = .ok (.iload_n 2, 1) := by decide +kernel
theorem dX8_compares_56 : decode cX8_compares 56 = .ok (.if_icmp .ge 7, 3) := by decide +kernel
theorem dX8_compares_59 : decode cX8_compares 59 = .ok (.iconst 1, 1) := by decide +kernel
theorem dX8_compares_60 : decode cX8_compares 60 = .ok (.goto 4, 3) := by decide +kernel
theorem dX8_compares_63 : decode cX8_compares 63 = .ok (.iconst 0, 1) := by decide +kernel
theorem dX8_compares_64 : decode cX8_compares 64 = .ok (.ireturn, 1) := by decide +kernel
theorem dX8_compares_65 : decode cX8_compares 65 = .ok (.iload_n 0, 1) := by decide +kernel
theorem dX8_compares_66 : decode cX8_compares 66 = .ok (.iload_n 2, 1) := by decide +kernel
theorem dX8_compares_67 : decode cX8_compares 67 = .ok (.if_icmp .gt 7, 3) := by decide +kernel
theorem dX8_compares_70 : decode cX8_compares 70 = .ok (.iconst 1, 1) := by decide +kernel
theorem dX8_compares_71 : decode cX8_compares 71 = .ok (.goto 4, 3) := by decide +kernel
theorem dX8_compares_74 : decode cX8_compares 74 = .ok (.iconst 0, 1) := by decide +kernel
theorem dX8_compares_75 : decode cX8_compares 75 = .ok (.ireturn, 1) := by decide +kernel
theorem dX8_compares_76 : decode cX8_compares 76 = .ok (.iconst 0, 1) := by decide +kernel
theorem dX8_compares_77 : decode cX8_compares 77 = .ok (.ireturn, 1) := by decide +kernel
end
section
theorem dX9_init_0 : decode cX9_init 0 = .ok (.aload_n 0, 1) := by decide +kernel
theorem dX9_init_1 : decode cX9_init 1 = .ok (.invokespecial 3, 3) := by decide +kernel
theorem dX9_init_4 : decode cX9_init 4 = .ok (.aload_n 0, 1) := by decide +kernel
theorem dX9_init_5 : decode cX9_init 5 = .ok (.sipush 2000, 3) := by decide +kernel
theorem dX9_init_8 : decode cX9_init 8 = .ok (.newarray .byte, 2) := by decide +kernel
theorem dX9_init_10 : decode cX9_init 10 = .ok (.putfield 9, 3) := by decide +kernel
theorem dX9_init_13 : decode cX9_init 13 = .ok (.aload_n 0, 1) := by decide +kernel
theorem dX9_init_14 : decode cX9_init 14 = .ok (.iconst 0, 1) := by decide +kernel
theorem dX9_init_15 : decode cX9_init 15 = .ok (.putfield 15, 3) := by decide +kernel
theorem dX9_init_18 : decode cX9_init 18 = .ok (.aload_n 0, 1) := by decide +kernel
theorem dX9_init_19 : decode cX9_init 19 = .ok (.iconst 0, 1) := by decide +kernel
theorem dX9_init_20 : decode cX9_init 20 = .ok (.putfield 19, 3) := by decide +kernel
theorem dX9_init_23 : decode cX9_init 23 = .ok (.aload_n 0, 1) := by decide +kernel
theorem dX9_init_24 : decode cX9_init 24 = .ok (.iconst 0, 1) := by decide +kernel
theorem dX9_init_25 : decode cX9_init 25 = .ok (.putfield 22, 3) := by decide +kernel
theorem dX9_init_28 : decode cX9_init 28 = .ok (.return_, 1) := by decide +kernel
theorem dX9_append_0 : decode cX9_append 0 = .ok (.bipush 24, 2) := by decide +kernel
theorem dX9_append_2 : decode cX9_append 2 = .ok (.istore_n 2, 1) := by decide +kernel
theorem dX9_append_3 : decode cX9_append 3 = .ok (.iload_n 2, 1) := by decide +kernel
theorem dX9_append_4 : decode cX9_append 4 = .ok (.ifCond .lt 44, 3) := by decide +kernel
theorem dX9_append_7 : decode cX9_append 7 = .ok (.aload_n 0, 1) := by decide +kernel
theorem dX9_append_8 : decode cX9_append 8 = .ok (.getfield 15, 3) := by decide +kernel
theorem dX9_append_11 : decode cX9_append 11 = .ok (.aload_n 0, 1) := by decide +kernel
theorem dX9_append_12 : decode cX9_append 12 = .ok (.getfield 9, 3) := by decide +kernel
theorem dX9_append_15 : decode cX9_append 15 = .ok (.arraylength, 1) := by decide +kernel
theorem dX9_append_16 : decode cX9_append 16 = .ok (.if_icmp .ge 32, 3) := by decide +kernel
theorem dX9_append_19 : decode cX9_append 19 = .ok (.aload_n 0, 1) := by decide +kernel
theorem dX9_append_20 : decode cX9_append 20 = .ok (.getfield 9, 3) := by decide +kernel
theorem dX9_append_23 : decode cX9_append 23 = .ok (.aload_n 0, 1) := by decide +kernel
theorem dX9_append_24 : decode cX9_append 24 = .ok (.getfield 15, 3) := by decide +kernel
theorem dX9_append_27 : decode cX9_append 27 = .ok (.iload_n 1, 1) := by decide +kernel
theorem dX9_append_28 : decode cX9_append 28 = .ok (.iload_n 2, 1) := by decide +kernel
theorem dX9_append_29 : decode cX9_append 29 = .ok (.ishr, 1) := by decide +kernel
theorem dX9_append_30 : decode cX9_append 30 = .ok (.i2b, 1) := by decide +kernel
theorem dX9_append_31 : decode cX9_append 31 = .ok (.bastore, 1) := by decide +kernel
theorem dX9_append_32 : decode cX9_append 32 = .ok (.aload_n 0, 1) := by decide +kernel
theorem dX9_append_33 : decode cX9_append 33 = .ok (.dup, 1) := by decide +kernel
theorem dX9_append_34 : decode cX9_append 34 = .ok (.getfield 15, 3) := by decide +kernel
theorem dX9_append_37 : decode cX9_append 37 = .ok (.iconst 1, 1) := by decide +kernel
theorem dX9_append_38 : decode cX9_append 38 = .ok (.iadd, 1) := by decide +kernel
theorem dX9_append_39 : decode cX9_append 39 = .ok (.putfield 15, 3) := by decide +kernel
theorem dX9_append_42 : decode cX9_append 42 = .ok (.iinc 2 (-8), 3) := by decide +kernel
theorem dX9_append_45 : decode cX9_append 45 = .ok (.goto (-42), 3) := by decide +kernel
theorem dX9_append_48 : decode cX9_append 48 = .ok (.return_, 1) := by decide +kernel
theorem dX9_rewind_0 : decode cX9_rewind 0 = .ok (.aload_n 0, 1) := by decide +kernel
theorem dX9_rewind_1 : decode cX9_rewind 1 = .ok (.iconst 0, 1) := by decide +kernel
theorem dX9_rewind_2 : decode cX9_rewind 2 = .ok (.putfield 19, 3) := by decide +kernel
theorem dX9_rewind_5 : decode cX9_rewind 5 = .ok (.aload_n 0, 1) := by decide +kernel
theorem dX9_rewind_6 : decode cX9_rewind 6 = .ok (.iconst 0, 1) := by decide +kernel
theorem dX9_rewind_7 : decode cX9_rewind 7 = .ok (.putfield 22, 3) := by decide +kernel
theorem dX9_rewind_10 : decode cX9_rewind 10 = .ok (.return_, 1) := by decide +kernel
theorem dX9_token_0 : decode cX9_token 0 = .ok (.aload_n 0, 1) := by decide +kernel
theorem dX9_token_1 : decode cX9_token 1 = .ok (.getfield 22, 3) := by decide +kernel
theorem dX9_token_4 : decode cX9_token 4 = .ok (.aload_n 0, 1) := by decide +kernel
theorem dX9_token_5 : decode cX9_token 5 = .ok (.getfield 15, 3) := by decide +kernel
theorem dX9_token_8 : decode cX9_token 8 = .ok (.if_icmp .ge 31, 3) := by decide +kernel
theorem dX9_token_11 : decode cX9_token 11 = .ok (.aload_n 0, 1) := by decide +kernel
theorem dX9_token_12 : decode cX9_token 12 = .ok (.getfield 9, 3) := by decide +kernel
theorem dX9_token_15 : decode cX9_token 15 = .ok (.aload_n 0, 1) := by decide +kernel
theorem dX9_token_16 : decode cX9_token 16 = .ok (.getfield 22, 3) := by decide +kernel
theorem dX9_token_19 : decode cX9_token 19 = .ok (.baload, 1) := by decide +kernel
theorem dX9_token_20 : decode cX9_token 20 = .ok (.invokestatic 25, 3) := by decide +kernel
theorem dX9_token_23 : decode cX9_token 23 = .ok (.ifCond .eq 16, 3) := by decide +kernel
theorem dX9_token_26 : decode cX9_token 26 = .ok (.aload_n 0, 1) := by decide +kernel
theorem dX9_token_27 : decode cX9_token 27 = .ok (.dup, 1) := by decide +kernel
theorem dX9_token_28 : decode cX9_token 28 = .ok (.getfield 22, 3) := by decide +kernel
theorem dX9_token_31 : decode cX9_token 31 = .ok (.iconst 1, 1) := by decide +kernel
theorem dX9_token_32 : decode cX9_token 32 = .ok (.iadd, 1) := by decide +kernel
theorem dX9_token_33 : decode cX9_token 33 = .ok (.putfield 22, 3) := by decide +kernel
theorem dX9_token_36 : decode cX9_token 36 = .ok (.goto (-36), 3) := by decide +kernel
theorem dX9_token_39 : decode cX9_token 39 = .ok (.aload_n 0, 1) := by decide +kernel
theorem dX9_token_40 : decode cX9_token 40 = .ok (.aload_n 0, 1) := by decide +kernel
theorem dX9_token_41 : decode cX9_token 41 = .ok (.getfield 22, 3) := by decide +kernel
theorem dX9_token_44 : decode cX9_token 44 = .ok (.putfield 19, 3) := by decide +kernel
theorem dX9_token_47 : decode cX9_token 47 = .ok (.aload_n 0, 1) := by decide +kernel
theorem dX9_token_48 : decode cX9_token 48 = .ok (.getfield 19, 3) := by decide +kernel
theorem dX9_token_51 : decode cX9_token 51 = .ok (.aload_n 0, 1) := by decide +kernel
theorem dX9_token_52 : decode cX9_token 52 = .ok (.getfield 15, 3) := by decide +kernel
theorem dX9_token_55 : decode cX9_token 55 = .ok (.if_icmp .lt 5, 3) := by decide +kernel
theorem dX9_token_58 : decode cX9_token 58 = .ok (.iconst (-1), 1) := by decide +kernel
theorem dX9_token_59 : decode cX9_token 59 = .ok (.ireturn, 1) := by decide +kernel
theorem dX9_token_60 : decode cX9_token 60 = .ok (.aload_n 0, 1) := by decide +kernel
theorem dX9_token_61 : decode cX9_token 61 = .ok (.getfield 9, 3) := by decide +kernel
theorem dX9_token_64 : decode cX9_token 64 = .ok (.aload_n 0, 1) := by decide +kernel
theorem dX9_token_65 : decode cX9_token 65 = .ok (.getfield 19, 3) := by decide +kernel
theorem dX9_token_68 : decode cX9_token 68 = .ok (.baload, 1) := by decide +kernel
theorem dX9_token_69 : decode cX9_token 69 = .ok (.invokestatic 29, 3) := by decide +kernel
theorem dX9_token_72 : decode cX9_token 72 = .ok (.ifCond .eq 8, 3) := by decide +kernel
theorem dX9_token_75 : decode cX9_token 75 = .ok (.aload_n 0, 1) := by decide +kernel
theorem dX9_token_76 : decode cX9_token 76 = .ok (.invokevirtual 32, 3) := by decide +kernel
theorem dX9_token_79 : decode cX9_token 79 = .ok (.ireturn, 1) := by decide +kernel
theorem dX9_token_80 : decode cX9_token 80 = .ok (.aload_n 0, 1) := by decide +kernel
theorem dX9_token_81 : decode cX9_token 81 = .ok (.getfield 9, 3) := by decide +kernel
theorem dX9_token_84 : decode cX9_token 84 = .ok (.aload_n 0, 1) := by decide +kernel
theorem dX9_token_85 : decode cX9_token 85 = .ok (.getfield 19, 3) := by decide +kernel
theorem dX9_token_88 : decode cX9_token 88 = .ok (.baload, 1) := by decide +kernel
theorem dX9_token_89 : decode cX9_token 89 = .ok (.invokestatic 36, 3) := by decide +kernel
theorem dX9_token_92 : decode cX9_token 92 = .ok (.ifCond .eq 8, 3) := by decide +kernel
theorem dX9_token_95 : decode cX9_token 95 = .ok (.aload_n 0, 1) := by decide +kernel
theorem dX9_token_96 : decode cX9_token 96 = .ok (.invokevirtual 39, 3) := by decide +kernel
theorem dX9_token_99 : decode cX9_token 99 = .ok (.ireturn, 1) := by decide +kernel
theorem dX9_token_100 : decode cX9_token 100 = .ok (.aload_n 0, 1) := by decide +kernel
theorem dX9_token_101 : decode cX9_token 101 = .ok (.aload_n 0, 1) := by decide +kernel
theorem dX9_token_102 : decode cX9_token 102 = .ok (.getfield 9, 3) := by decide +kernel
theorem dX9_token_105 : decode cX9_token 105 = .ok (.aload_n 0, 1) := by decide +kernel
theorem dX9_token_106 : decode cX9_token 106 = .ok (.getfield 19, 3) := by decide +kernel
theorem dX9_token_109 : decode cX9_token 109 = .ok (.baload, 1) := by decide +kernel
theorem dX9_token_110 : decode cX9_token 110 = .ok (.invokevirtual 42, 3) := by decide +kernel
theorem dX9_token_113 : decode cX9_token 113 = .ok (.ireturn, 1) := by decide +kernel
theorem dX9_word_0 : decode cX9_word 0 = .ok (.aload_n 0, 1) := by decide +kernel
theorem dX9_word_1 : decode cX9_word 1 = .ok (.getfield 22, 3) := by decide +kernel
theorem dX9_word_4 : decode cX9_word 4 = .ok (.aload_n 0, 1) := by decide +kernel
theorem dX9_word_5 : decode cX9_word 5 = .ok (.getfield 15, 3) := by decide +kernel
theorem dX9_word_8 : decode cX9_word 8 = .ok (.if_icmp .ge 31, 3) := by decide +kernel
theorem dX9_word_11 : decode cX9_word 11 = .ok (.aload_n 0, 1) := by decide +kernel
theorem dX9_word_12 : decode cX9_word 12 = .ok (.getfield 9, 3) := by decide +kernel
theorem dX9_word_15 : decode cX9_word 15 = .ok (.aload_n 0, 1) := by decide +kernel
theorem dX9_word_16 : decode cX9_word 16 = .ok (.getfield 22, 3) := by decide +kernel
theorem dX9_word_19 : decode cX9_word 19 = .ok (.baload, 1) := by decide +kernel
theorem dX9_word_20 : decode cX9_word 20 = .ok (.invokestatic 29, 3) := by decide +kernel
theorem dX9_word_23 : decode cX9_word 23 = .ok (.ifCond .eq 16, 3) := by decide +kernel
theorem dX9_word_26 : decode cX9_word 26 = .ok (.aload_n 0, 1) := by decide +kernel
theorem dX9_word_27 : decode cX9_word 27 = .ok (.dup, 1) := by decide +kernel
theorem dX9_word_28 : decode cX9_word 28 = .ok (.getfield 22, 3) := by decide +kernel
theorem dX9_word_31 : decode cX9_word 31 = .ok (.iconst 1, 1) := by decide +kernel
theorem dX9_word_32 : decode cX9_word 32 = .ok (.iadd, 1) := by decide +kernel
theorem dX9_word_33 : decode cX9_word 33 = .ok (.putfield 22, 3) := by decide +kernel
theorem dX9_word_36 : decode cX9_word 36 = .ok (.goto (-36), 3) := by decide +kernel
theorem dX9_word_39 : decode cX9_word 39 = .ok (.iconst 0, 1) := by decide +kernel
theorem dX9_word_40 : decode cX9_word 40 = .ok (.istore_n 1, 1) := by decide +kernel
theorem dX9_word_41 : decode cX9_word 41 = .ok (.iload_n 1, 1) := by decide +kernel
theorem dX9_word_42 : decode cX9_word 42 = .ok (.bipush 20, 2) := by decide +kernel
theorem dX9_word_44 : decode cX9_word 44 = .ok (.if_icmp .ge 35, 3) := by decide +kernel
theorem dX9_word_47 : decode cX9_word 47 = .ok (.aload_n 0, 1) := by decide +kernel
theorem dX9_word_48 : decode cX9_word 48 = .ok (.iload_n 1, 1) := by decide +kernel
theorem dX9_word_49 : decode cX9_word 49 = .ok (.bipush 7, 2) := by decide +kernel
theorem dX9_word_51 : decode cX9_word 51 = .ok (.imul, 1) := by decide +kernel
theorem dX9_word_52 : decode cX9_word 52 = .ok (.aload_n 0, 1) := by decide +kernel
theorem dX9_word_53 : decode cX9_word 53 = .ok (.getfield 22, 3) := by decide +kernel
theorem dX9_word_56 : decode cX9_word 56 = .ok (.aload_n 0, 1) := by decide +kernel
theorem dX9_word_57 : decode cX9_word 57 = .ok (.getfield 19, 3) := by decide +kernel
theorem dX9_word_60 : decode cX9_word 60 = .ok (.isub, 1) := by decide +kernel
theorem dX9_word_61 : decode cX9_word 61 = .ok (.invokevirtual 46, 3) := by decide +kernel
theorem dX9_word_64 : decode cX9_word 64 = .ok (.ifCond .eq 9, 3) := by decide +kernel
theorem dX9_word_67 : decode cX9_word 67 = .ok (.sipush 10000, 3) := by decide +kernel
theorem dX9_word_70 : decode cX9_word 70 = .ok (.iload_n 1, 1) := by decide +kernel
theorem dX9_word_71 : decode cX9_word 71 = .ok (.iadd, 1) := by decide +kernel
theorem dX9_word_72 : decode cX9_word 72 = .ok (.ireturn, 1) := by decide +kernel
theorem dX9_word_73 : decode cX9_word 73 = .ok (.iinc 1 1, 3) := by decide +kernel
theorem dX9_word_76 : decode cX9_word 76 = .ok (.goto (-35), 3) := by decide +kernel
theorem dX9_word_79 : decode cX9_word 79 = .ok (.bipush (-2), 2) := by decide +kernel
theorem dX9_word_81 : decode cX9_word 81 = .ok (.ireturn, 1) := by decide +kernel
theorem dX9_isWord_0 : decode cX9_isWord 0 = .ok (.iload_n 2, 1) := by decide +kernel
theorem dX9_isWord_1 : decode cX9_isWord 1 = .ok (.bipush 7, 2) := by decide +kernel
theorem dX9_isWord_3 : decode cX9_isWord 3 = .ok (.if_icmp .ge 16, 3) := by decide +kernel
theorem dX9_isWord_6 : decode cX9_isWord 6 = .ok (.ldc 50, 2) := by decide +kernel
theorem dX9_isWord_8 : decode cX9_isWord 8 = .ok (.iload_n 1, 1) := by decide +kernel
theorem dX9_isWord_9 : decode cX9_isWord 9 = .ok (.iload_n 2, 1) := by decide +kernel
theorem dX9_isWord_10 : decode cX9_isWord 10 = .ok (.iadd, 1) := by decide +kernel
theorem dX9_isWord_11 : decode cX9_isWord 11 = .ok (.invokevirtual 52, 3) := by decide +kernel
theorem dX9_isWord_14 : decode cX9_isWord 14 = .ok (.bipush 32, 2) := by decide +kernel
theorem dX9_isWord_16 : decode cX9_isWord 16 = .ok (.if_icmp .eq 5, 3) := by decide +kernel
theorem dX9_isWord_19 : decode cX9_isWord 19 = .ok (.iconst 0, 1) := by decide +kernel
theorem dX9_isWord_20 : decode cX9_isWord 20 = .ok (.ireturn, 1) := by decide +kernel
theorem dX9_isWord_21 : decode cX9_isWord 21 = .ok (.iconst 0, 1) := by decide +kernel
theorem dX9_isWord_22 : decode cX9_isWord 22 = .ok (.istore_n 3, 1) := by decide +kernel
theorem dX9_isWord_23 : decode cX9_isWord 23 = .ok (.iload_n 3, 1) := by decide +kernel
theorem dX9_isWord_24 : decode cX9_isWord 24 = .ok (.iload_n 2, 1) := by decide +kernel
theorem dX9_isWord_25 : decode cX9_isWord 25 = .ok (.if_icmp .ge 33, 3) := by decide +kernel
theorem dX9_isWord_28 : decode cX9_isWord 28 = .ok (.ldc 50, 2) := by decide +kernel
theorem dX9_isWord_30 : decode cX9_isWord 30 = .ok (.iload_n 1, 1) := by decide +kernel
theorem dX9_isWord_31 : decode cX9_isWord 31 = .ok (.iload_n 3, 1) := by decide +kernel
theorem dX9_isWord_32 : decode cX9_isWord 32 = .ok (.iadd, 1) := by decide +kernel
theorem dX9_isWord_33 : decode cX9_isWord 33 = .ok (.invokevirtual 52, 3) := by decide +kernel
theorem dX9_isWord_36 : decode cX9_isWord 36 = .ok (.aload_n 0, 1) := by decide +kernel
theorem dX9_isWord_37 : decode cX9_isWord 37 = .ok (.getfield 9, 3) := by decide +kernel
theorem dX9_isWord_40 : decode cX9_isWord 40 = .ok (.aload_n 0, 1) := by decide +kernel
theorem dX9_isWord_41 : decode cX9_isWord 41 = .ok (.getfield 19, 3) := by decide +kernel
theorem dX9_isWord_44 : decode cX9_isWord 44 = .ok (.iload_n 3, 1) := by decide +kernel
theorem dX9_isWord_45 : decode cX9_isWord 45 = .ok (.iadd, 1) := by decide +kernel
theorem dX9_isWord_46 : decode cX9_isWord 46 = .ok (.baload, 1) := by decide +kernel
theorem dX9_isWord_47 : decode cX9_isWord 47 = .ok (.if_icmp .eq 5, 3) := by decide +kernel
theorem dX9_isWord_50 : decode cX9_isWord 50 = .ok (.iconst 0, 1) := by decide +kernel
theorem dX9_isWord_51 : decode cX9_isWord 51 = .ok (.ireturn, 1) := by decide +kernel
theorem dX9_isWord_52 : decode cX9_isWord 52 = .ok (.iinc 3 1, 3) := by decide +kernel
theorem dX9_isWord_55 : decode cX9_isWord 55 = .ok (.goto (-32), 3) := by decide +kernel
theorem dX9_isWord_58 : decode cX9_isWord 58 = .ok (.iconst 1, 1) := by decide +kernel
theorem dX9_isWord_59 : decode cX9_isWord 59 = .ok (.ireturn, 1) := by decide +kernel
theorem dX9_number_0 : decode cX9_number 0 = .ok (.iconst 0, 1) := by decide +kernel
theorem dX9_number_1 : decode cX9_number 1 = .ok (.istore_n 1, 1) := by decide +kernel
theorem dX9_number_2 : decode cX9_number 2 = .ok (.aload_n 0, 1) := by decide +kernel
theorem dX9_number_3 : decode cX9_number 3 = .ok (.getfield 22, 3) := by decide +kernel
theorem dX9_number_6 : decode cX9_number 6 = .ok (.aload_n 0, 1) := by decide +kernel
theorem dX9_number_7 : decode cX9_number 7 = .ok (.getfield 15, 3) := by decide +kernel
theorem dX9_number_10 : decode cX9_number 10 = .ok (.if_icmp .ge 49, 3) := by decide +kernel
theorem dX9_number_13 : decode cX9_number 13 = .ok (.aload_n 0, 1) := by decide +kernel
theorem dX9_number_14 : decode cX9_number 14 = .ok (.getfield 9, 3) := by decide +kernel
theorem dX9_number_17 : decode cX9_number 17 = .ok (.aload_n 0, 1) := by decide +kernel
theorem dX9_number_18 : decode cX9_number 18 = .ok (.getfield 22, 3) := by decide +kernel
theorem dX9_number_21 : decode cX9_number 21 = .ok (.baload, 1) := by decide +kernel
theorem dX9_number_22 : decode cX9_number 22 = .ok (.invokestatic 36, 3) := by decide +kernel
theorem dX9_number_25 : decode cX9_number 25 = .ok (.ifCond .eq 34, 3) := by decide +kernel
theorem dX9_number_28 : decode cX9_number 28 = .ok (.iload_n 1, 1) := by decide +kernel
theorem dX9_number_29 : decode cX9_number 29 = .ok (.bipush 10, 2) := by decide +kernel
theorem dX9_number_31 : decode cX9_number 31 = .ok (.imul, 1) := by decide +kernel
theorem dX9_number_32 : decode cX9_number 32 = .ok (.aload_n 0, 1) := by decide +kernel
theorem dX9_number_33 : decode cX9_number 33 = .ok (.getfield 9, 3) := by decide +kernel
theorem dX9_number_36 : decode cX9_number 36 = .ok (.aload_n 0, 1) := by decide +kernel
theorem dX9_number_37 : decode cX9_number 37 = .ok (.getfield 22, 3) := by decide +kernel
theorem dX9_number_40 : decode cX9_number 40 = .ok (.baload, 1) := by decide +kernel
theorem dX9_number_41 : decode cX9_number 41 = .ok (.iadd, 1) := by decide +kernel
theorem dX9_number_42 : decode cX9_number 42 = .ok (.bipush 48, 2) := by decide +kernel
theorem dX9_number_44 : decode cX9_number 44 = .ok (.isub, 1) := by decide +kernel
theorem dX9_number_45 : decode cX9_number 45 = .ok (.istore_n 1, 1) := by decide +kernel
theorem dX9_number_46 : decode cX9_number 46 = .ok (.aload_n 0, 1) := by decide +kernel
theorem dX9_number_47 : decode cX9_number 47 = .ok (.dup, 1) := by decide +kernel
theorem dX9_number_48 : decode cX9_number 48 = .ok (.getfield 22, 3) := by decide +kernel
theorem dX9_number_51 : decode cX9_number 51 = .ok (.iconst 1, 1) := by decide +kernel
theorem dX9_number_52 : decode cX9_number 52 = .ok (.iadd, 1) := by decide +kernel
theorem dX9_number_53 : decode cX9_number 53 = .ok (.putfield 22, 3) := by decide +kernel
theorem dX9_number_56 : decode cX9_number 56 = .ok (.goto (-54), 3) := by decide +kernel
theorem dX9_number_59 : decode cX9_number 59 = .ok (.aload_n 0, 1) := by decide +kernel
theorem dX9_number_60 : decode cX9_number 60 = .ok (.getfield 22, 3) := by decide +kernel
theorem dX9_number_63 : decode cX9_number 63 = .ok (.aload_n 0, 1) := by decide +kernel
theorem dX9_number_64 : decode cX9_number 64 = .ok (.getfield 19, 3) := by decide +kernel
theorem dX9_number_67 : decode cX9_number 67 = .ok (.isub, 1) := by decide +kernel
theorem dX9_number_68 : decode cX9_number 68 = .ok (.iconst 4, 1) := by decide +kernel
theorem dX9_number_69 : decode cX9_number 69 = .ok (.if_icmp .le 8, 3) := by decide +kernel
theorem dX9_number_72 : decode cX9_number 72 = .ok (.bipush (-2), 2) := by decide +kernel
theorem dX9_number_74 : decode cX9_number 74 = .ok (.goto 4, 3) := by decide +kernel
theorem dX9_number_77 : decode cX9_number 77 = .ok (.iload_n 1, 1) := by decide +kernel
theorem dX9_number_78 : decode cX9_number 78 = .ok (.ireturn, 1) := by decide +kernel
theorem dX9_sign_0 : decode cX9_sign 0 = .ok (.aload_n 0, 1) := by decide +kernel
theorem dX9_sign_1 : decode cX9_sign 1 = .ok (.dup, 1) := by decide +kernel
theorem dX9_sign_2 : decode cX9_sign 2 = .ok (.getfield 22, 3) := by decide +kernel
theorem dX9_sign_5 : decode cX9_sign 5 = .ok (.iconst 1, 1) := by decide +kernel
theorem dX9_sign_6 : decode cX9_sign 6 = .ok (.iadd, 1) := by decide +kernel
theorem dX9_sign_7 : decode cX9_sign 7 = .ok (.putfield 22, 3) := by decide +kernel
theorem dX9_sign_10 : decode cX9_sign 10 = .ok (.iload_n 1, 1) := by decide +kernel
theorem dX9_sign_11 : decode cX9_sign 11 = .ok (.tableswitch 117 40 59 #[109, 113, 105, 97, 117, 101, 117, 117, 117, 117, 117, 117, 117, 117, 117, 117, 117, 117, 117, 93], 93) := by decide +kernel
theorem dX9_sign_104 : decode cX9_sign 104 = .ok (.sipush 10020, 3) := by decide +kernel
theorem dX9_sign_107 : decode cX9_sign 107 = .ok (.ireturn, 1) := by decide +kernel
theorem dX9_sign_108 : decode cX9_sign 108 = .ok (.sipush 10021, 3) := by decide +kernel
theorem dX9_sign_111 : decode cX9_sign 111 = .ok (.ireturn, 1) := by decide +kernel
theorem dX9_sign_112 : decode cX9_sign 112 = .ok (.sipush 10022, 3) := by decide +kernel
theorem dX9_sign_115 : decode cX9_sign 115 = .ok (.ireturn, 1) := by decide +kernel
theorem dX9_sign_116 : decode cX9_sign 116 = .ok (.sipush 10023, 3) := by decide +kernel
theorem dX9_sign_119 : decode cX9_sign 119 = .ok (.ireturn, 1) := by decide +kernel
theorem dX9_sign_120 : decode cX9_sign 120 = .ok (.sipush 10028, 3) := by decide +kernel
theorem dX9_sign_123 : decode cX9_sign 123 = .ok (.ireturn, 1) := by decide +kernel
theorem dX9_sign_124 : decode cX9_sign 124 = .ok (.sipush 10029, 3) := by decide +kernel
theorem dX9_sign_127 : decode cX9_sign 127 = .ok (.ireturn, 1) := by decide +kernel
theorem dX9_sign_128 : decode cX9_sign 128 = .ok (.aload_n 0, 1) := by decide +kernel
theorem dX9_sign_129 : decode cX9_sign 129 = .ok (.iload_n 1, 1) := by decide +kernel
theorem dX9_sign_130 : decode cX9_sign 130 = .ok (.invokevirtual 58, 3) := by decide +kernel
theorem dX9_sign_133 : decode cX9_sign 133 = .ok (.ireturn, 1) := by decide +kernel
theorem dX9_relation_0 : decode cX9_relation 0 = .ok (.aload_n 0, 1) := by decide +kernel
theorem dX9_relation_1 : decode cX9_relation 1 = .ok (.getfield 22, 3) := by decide +kernel
theorem dX9_relation_4 : decode cX9_relation 4 = .ok (.aload_n 0, 1) := by decide +kernel
theorem dX9_relation_5 : decode cX9_relation 5 = .ok (.getfield 15, 3) := by decide +kernel
theorem dX9_relation_8 : decode cX9_relation 8 = .ok (.if_icmp .ge 21, 3) := by decide +kernel
theorem dX9_relation_11 : decode cX9_relation 11 = .ok (.aload_n 0, 1) := by decide +kernel
theorem dX9_relation_12 : decode cX9_relation 12 = .ok (.getfield 9, 3) := by decide +kernel
theorem dX9_relation_15 : decode cX9_relation 15 = .ok (.aload_n 0, 1) := by decide +kernel
theorem dX9_relation_16 : decode cX9_relation 16 = .ok (.getfield 22, 3) := by decide +kernel
theorem dX9_relation_19 : decode cX9_relation 19 = .ok (.baload, 1) := by decide +kernel
theorem dX9_relation_20 : decode cX9_relation 20 = .ok (.bipush 61, 2) := by decide +kernel
theorem dX9_relation_22 : decode cX9_relation 22 = .ok (.if_icmp .ne 7, 3) := by decide +kernel
theorem dX9_relation_25 : decode cX9_relation 25 = .ok (.iconst 1, 1) := by decide +kernel
theorem dX9_relation_26 : decode cX9_relation 26 = .ok (.goto 4, 3) := by decide +kernel
theorem dX9_relation_29 : decode cX9_relation 29 = .ok (.iconst 0, 1) := by decide +kernel
theorem dX9_relation_30 : decode cX9_relation 30 = .ok (.istore_n 2, 1) := by decide +kernel
theorem dX9_relation_31 : decode cX9_relation 31 = .ok (.iload_n 2, 1) := by decide +kernel
theorem dX9_relation_32 : decode cX9_relation 32 = .ok (.ifCond .eq 13, 3) := by decide +kernel
theorem dX9_relation_35 : decode cX9_relation 35 = .ok (.aload_n 0, 1) := by decide +kernel
theorem dX9_relation_36 : decode cX9_relation 36 = .ok (.dup, 1) := by decide +kernel
theorem dX9_relation_37 : decode cX9_relation 37 = .ok (.getfield 22, 3) := by decide +kernel
theorem dX9_relation_40 : decode cX9_relation 40 = .ok (.iconst 1, 1) := by decide +kernel
theorem dX9_relation_41 : decode cX9_relation 41 = .ok (.iadd, 1) := by decide +kernel
theorem dX9_relation_42 : decode cX9_relation 42 = .ok (.putfield 22, 3) := by decide +kernel
theorem dX9_relation_45 : decode cX9_relation 45 = .ok (.iload_n 1, 1) := by decide +kernel
theorem dX9_relation_46 : decode cX9_relation 46 = .ok (.lookupswitch 74 #[(33, 47), (60, 60), (61, 34)], 34) := by decide +kernel
theorem dX9_relation_80 : decode cX9_relation 80 = .ok (.iload_n 2, 1) := by decide +kernel
theorem dX9_relation_81 : decode cX9_relation 81 = .ok (.ifCond .eq 9, 3) := by decide +kernel
theorem dX9_relation_84 : decode cX9_relation 84 = .ok (.sipush 10024, 3) := by decide +kernel
theorem dX9_relation_87 : decode cX9_relation 87 = .ok (.goto 5, 3) := by decide +kernel
theorem dX9_relation_90 : decode cX9_relation 90 = .ok (.bipush (-2), 2) := by decide +kernel
theorem dX9_relation_92 : decode cX9_relation 92 = .ok (.ireturn, 1) := by decide +kernel
theorem dX9_relation_93 : decode cX9_relation 93 = .ok (.iload_n 2, 1) := by decide +kernel
theorem dX9_relation_94 : decode cX9_relation 94 = .ok (.ifCond .eq 9, 3) := by decide +kernel
theorem dX9_relation_97 : decode cX9_relation 97 = .ok (.sipush 10025, 3) := by decide +kernel
theorem dX9_relation_100 : decode cX9_relation 100 = .ok (.goto 5, 3) := by decide +kernel
theorem dX9_relation_103 : decode cX9_relation 103 = .ok (.bipush (-2), 2) := by decide +kernel
theorem dX9_relation_105 : decode cX9_relation 105 = .ok (.ireturn, 1) := by decide +kernel
theorem dX9_relation_106 : decode cX9_relation 106 = .ok (.iload_n 2, 1) := by decide +kernel
theorem dX9_relation_107 : decode cX9_relation 107 = .ok (.ifCond .eq 9, 3) := by decide +kernel
theorem dX9_relation_110 : decode cX9_relation 110 = .ok (.sipush 10027, 3) := by decide +kernel
theorem dX9_relation_113 : decode cX9_relation 113 = .ok (.goto 6, 3) := by decide +kernel
theorem dX9_relation_116 : decode cX9_relation 116 = .ok (.sipush 10026, 3) := by decide +kernel
theorem dX9_relation_119 : decode cX9_relation 119 = .ok (.ireturn, 1) := by decide +kernel
theorem dX9_relation_120 : decode cX9_relation 120 = .ok (.bipush (-2), 2) := by decide +kernel
theorem dX9_relation_122 : decode cX9_relation 122 = .ok (.ireturn, 1) := by decide +kernel
theorem dX9_isBlank_0 : decode cX9_isBlank 0 = .ok (.iload_n 0, 1) := by decide +kernel
theorem dX9_isBlank_1 : decode cX9_isBlank 1 = .ok (.bipush 9, 2) := by decide +kernel
theorem dX9_isBlank_3 : decode cX9_isBlank 3 = .ok (.if_icmp .eq 21, 3) := by decide +kernel
theorem dX9_isBlank_6 : decode cX9_isBlank 6 = .ok (.iload_n 0, 1) := by decide +kernel
theorem dX9_isBlank_7 : decode cX9_isBlank 7 = .ok (.bipush 10, 2) := by decide +kernel
theorem dX9_isBlank_9 : decode cX9_isBlank 9 = .ok (.if_icmp .eq 15, 3) := by decide +kernel
theorem dX9_isBlank_12 : decode cX9_isBlank 12 = .ok (.iload_n 0, 1) := by decide +kernel
theorem dX9_isBlank_13 : decode cX9_isBlank 13 = .ok (.bipush 13, 2) := by decide +kernel
theorem dX9_isBlank_15 : decode cX9_isBlank 15 = .ok (.if_icmp .eq 9, 3) := by decide +kernel
theorem dX9_isBlank_18 : decode cX9_isBlank 18 = .ok (.iload_n 0, 1) := by decide +kernel
theorem dX9_isBlank_19 : decode cX9_isBlank 19 = .ok (.bipush 32, 2) := by decide +kernel
theorem dX9_isBlank_21 : decode cX9_isBlank 21 = .ok (.if_icmp .ne 7, 3) := by decide +kernel
theorem dX9_isBlank_24 : decode cX9_isBlank 24 = .ok (.iconst 1, 1) := by decide +kernel
theorem dX9_isBlank_25 : decode cX9_isBlank 25 = .ok (.goto 4, 3) := by decide +kernel
theorem dX9_isBlank_28 : decode cX9_isBlank 28 = .ok (.iconst 0, 1) := by decide +kernel
theorem dX9_isBlank_29 : decode cX9_isBlank 29 = .ok (.ireturn, 1) := by decide +kernel
theorem dX9_isLetter_0 : decode cX9_isLetter 0 = .ok (.iload_n 0, 1) := by decide +kernel
theorem dX9_isLetter_1 : decode cX9_isLetter 1 = .ok (.bipush 97, 2) := by decide +kernel
theorem dX9_isLetter_3 : decode cX9_isLetter 3 = .ok (.if_icmp .lt 13, 3) := by decide +kernel
theorem dX9_isLetter_6 : decode cX9_isLetter 6 = .ok (.iload_n 0, 1) := by decide +kernel
theorem dX9_isLetter_7 : decode cX9_isLetter 7 = .ok (.bipush 122, 2) := by decide +kernel
theorem dX9_isLetter_9 : decode cX9_isLetter 9 = .ok (.if_icmp .gt 7, 3) := by decide +kernel
theorem dX9_isLetter_12 : decode cX9_isLetter 12 = .ok (.iconst 1, 1) := by decide +kernel
theorem dX9_isLetter_13 : decode cX9_isLetter 13 = .ok (.goto 4, 3) := by decide +kernel
theorem dX9_isLetter_16 : decode cX9_isLetter 16 = .ok (.iconst 0, 1) := by decide +kernel
theorem dX9_isLetter_17 : decode cX9_isLetter 17 = .ok (.ireturn, 1) := by decide +kernel
theorem dX9_isDigit_0 : decode cX9_isDigit 0 = .ok (.iload_n 0, 1) := by decide +kernel
theorem dX9_isDigit_1 : decode cX9_isDigit 1 = .ok (.bipush 48, 2) := by decide +kernel
theorem dX9_isDigit_3 : decode cX9_isDigit 3 = .ok (.if_icmp .lt 13, 3) := by decide +kernel
theorem dX9_isDigit_6 : decode cX9_isDigit 6 = .ok (.iload_n 0, 1) := by decide +kernel
theorem dX9_isDigit_7 : decode cX9_isDigit 7 = .ok (.bipush 57, 2) := by decide +kernel
theorem dX9_isDigit_9 : decode cX9_isDigit 9 = .ok (.if_icmp .gt 7, 3) := by decide +kernel
theorem dX9_isDigit_12 : decode cX9_isDigit 12 = .ok (.iconst 1, 1) := by decide +kernel
theorem dX9_isDigit_13 : decode cX9_isDigit 13 = .ok (.goto 4, 3) := by decide +kernel
theorem dX9_isDigit_16 : decode cX9_isDigit 16 = .ok (.iconst 0, 1) := by decide +kernel
theorem dX9_isDigit_17 : decode cX9_isDigit 17 = .ok (.ireturn, 1) := by decide +kernel
theorem dX10_init_0 : decode cX10_init 0 = .ok (.aload_n 0, 1) := by decide +kernel
theorem dX10_init_1 : decode cX10_init 1 = .ok (.invokespecial 3, 3) := by decide +kernel
theorem dX10_init_4 : decode cX10_init 4 = .ok (.aload_n 0, 1) := by decide +kernel
theorem dX10_init_5 : decode cX10_init 5 = .ok (.new 9, 3) := by decide +kernel
theorem dX10_init_8 : decode cX10_init 8 = .ok (.dup, 1) := by decide +kernel
theorem dX10_init_9 : decode cX10_init 9 = .ok (.invokespecial 11, 3) := by decide +kernel
theorem dX10_init_12 : decode cX10_init 12 = .ok (.putfield 12, 3) := by decide +kernel
theorem dX10_init_15 : decode cX10_init 15 = .ok (.aload_n 0, 1) := by decide +kernel
theorem dX10_init_16 : decode cX10_init 16 = .ok (.new 16, 3) := by decide +kernel
theorem dX10_init_19 : decode cX10_init 19 = .ok (.dup, 1) := by decide +kernel
theorem dX10_init_20 : decode cX10_init 20 = .ok (.invokespecial 18, 3) := by decide +kernel
theorem dX10_init_23 : decode cX10_init 23 = .ok (.putfield 19, 3) := by decide +kernel
theorem dX10_init_26 : decode cX10_init 26 = .ok (.aload_n 0, 1) := by decide +kernel
theorem dX10_init_27 : decode cX10_init 27 = .ok (.new 23, 3) := by decide +kernel
theorem dX10_init_30 : decode cX10_init 30 = .ok (.dup, 1) := by decide +kernel
theorem dX10_init_31 : decode cX10_init 31 = .ok (.invokespecial 25, 3) := by decide +kernel
theorem dX10_init_34 : decode cX10_init 34 = .ok (.putfield 26, 3) := by decide +kernel
theorem dX10_init_37 : decode cX10_init 37 = .ok (.aload_n 0, 1) := by decide +kernel
theorem dX10_init_38 : decode cX10_init 38 = .ok (.new 30, 3) := by decide +kernel
theorem dX10_init_41 : decode cX10_init 41 = .ok (.dup, 1) := by decide +kernel
theorem dX10_init_42 : decode cX10_init 42 = .ok (.invokespecial 32, 3) := by decide +kernel
theorem dX10_init_45 : decode cX10_init 45 = .ok (.putfield 33, 3) := by decide +kernel
theorem dX10_init_48 : decode cX10_init 48 = .ok (.aload_n 0, 1) := by decide +kernel
theorem dX10_init_49 : decode cX10_init 49 = .ok (.new 37, 3) := by decide +kernel
theorem dX10_init_52 : decode cX10_init 52 = .ok (.dup, 1) := by decide +kernel
theorem dX10_init_53 : decode cX10_init 53 = .ok (.invokespecial 39, 3) := by decide +kernel
theorem dX10_init_56 : decode cX10_init 56 = .ok (.putfield 40, 3) := by decide +kernel
theorem dX10_init_59 : decode cX10_init 59 = .ok (.aload_n 0, 1) := by decide +kernel
theorem dX10_init_60 : decode cX10_init 60 = .ok (.new 44, 3) := by decide +kernel
theorem dX10_init_63 : decode cX10_init 63 = .ok (.dup, 1) := by decide +kernel
theorem dX10_init_64 : decode cX10_init 64 = .ok (.invokespecial 46, 3) := by decide +kernel
theorem dX10_init_67 : decode cX10_init 67 = .ok (.putfield 47, 3) := by decide +kernel
theorem dX10_init_70 : decode cX10_init 70 = .ok (.aload_n 0, 1) := by decide +kernel
theorem dX10_init_71 : decode cX10_init 71 = .ok (.new 51, 3) := by decide +kernel
theorem dX10_init_74 : decode cX10_init 74 = .ok (.dup, 1) := by decide +kernel
theorem dX10_init_75 : decode cX10_init 75 = .ok (.invokespecial 53, 3) := by decide +kernel
theorem dX10_init_78 : decode cX10_init 78 = .ok (.putfield 54, 3) := by decide +kernel
theorem dX10_init_81 : decode cX10_init 81 = .ok (.aload_n 0, 1) := by decide +kernel
theorem dX10_init_82 : decode cX10_init 82 = .ok (.new 58, 3) := by decide +kernel
theorem dX10_init_85 : decode cX10_init 85 = .ok (.dup, 1) := by decide +kernel
theorem dX10_init_86 : decode cX10_init 86 = .ok (.aload_n 0, 1) := by decide +kernel
theorem dX10_init_87 : decode cX10_init 87 = .ok (.getfield 26, 3) := by decide +kernel
theorem dX10_init_90 : decode cX10_init 90 = .ok (.aload_n 0, 1) := by decide +kernel
theorem dX10_init_91 : decode cX10_init 91 = .ok (.getfield 33, 3) := by decide +kernel
theorem dX10_init_94 : decode cX10_init 94 = .ok (.aload_n 0, 1) := by decide +kernel
theorem dX10_init_95 : decode cX10_init 95 = .ok (.getfield 40, 3) := by decide +kernel
theorem dX10_init_98 : decode cX10_init 98 = .ok (.aload_n 0, 1) := by decide +kernel
theorem dX10_init_99 : decode cX10_init 99 = .ok (.getfield 54, 3) := by decide +kernel
theorem dX10_init_102 : decode cX10_init 102 = .ok (.invokespecial 60, 3) := by decide +kernel
theorem dX10_init_105 : decode cX10_init 105 = .ok (.putfield 63, 3) := by decide +kernel
theorem dX10_init_108 : decode cX10_init 108 = .ok (.aload_n 0, 1) := by decide +kernel
theorem dX10_init_109 : decode cX10_init 109 = .ok (.bipush 10, 2) := by decide +kernel
theorem dX10_init_111 : decode cX10_init 111 = .ok (.newarray .int, 2) := by decide +kernel
theorem dX10_init_113 : decode cX10_init 113 = .ok (.putfield 67, 3) := by decide +kernel
theorem dX10_init_116 : decode cX10_init 116 = .ok (.aload_n 0, 1) := by decide +kernel
theorem dX10_init_117 : decode cX10_init 117 = .ok (.iconst (-1), 1) := by decide +kernel
theorem dX10_init_118 : decode cX10_init 118 = .ok (.putfield 71, 3) := by decide +kernel
theorem dX10_init_121 : decode cX10_init 121 = .ok (.return_, 1) := by decide +kernel
theorem dX10_feed_0 : decode cX10_feed 0 = .ok (.aload_n 0, 1) := by decide +kernel
theorem dX10_feed_1 : decode cX10_feed 1 = .ok (.getfield 12, 3) := by decide +kernel
theorem dX10_feed_4 : decode cX10_feed 4 = .ok (.getfield 75, 3) := by decide +kernel
theorem dX10_feed_7 : decode cX10_feed 7 = .ok (.bipush 20, 2) := by decide +kernel
theorem dX10_feed_9 : decode cX10_feed 9 = .ok (.iadd, 1) := by decide +kernel
theorem dX10_feed_10 : decode cX10_feed 10 = .ok (.sipush 2000, 3) := by decide +kernel
theorem dX10_feed_13 : decode cX10_feed 13 = .ok (.if_icmp .le 5, 3) := by decide +kernel
theorem dX10_feed_16 : decode cX10_feed 16 = .ok (.iconst (-1), 1) := by decide +kernel
theorem dX10_feed_17 : decode cX10_feed 17 = .ok (.ireturn, 1) := by decide +kernel
theorem dX10_feed_18 : decode cX10_feed 18 = .ok (.aload_n 0, 1) := by decide +kernel
theorem dX10_feed_19 : decode cX10_feed 19 = .ok (.getfield 12, 3) := by decide +kernel
theorem dX10_feed_22 : decode cX10_feed 22 = .ok (.iload_n 1, 1) := by decide +kernel
theorem dX10_feed_23 : decode cX10_feed 23 = .ok (.invokevirtual 78, 3) := by decide +kernel
theorem dX10_feed_26 : decode cX10_feed 26 = .ok (.aload_n 0, 1) := by decide +kernel
theorem dX10_feed_27 : decode cX10_feed 27 = .ok (.getfield 12, 3) := by decide +kernel
theorem dX10_feed_30 : decode cX10_feed 30 = .ok (.iload_n 2, 1) := by decide +kernel
theorem dX10_feed_31 : decode cX10_feed 31 = .ok (.invokevirtual 78, 3) := by decide +kernel
theorem dX10_feed_34 : decode cX10_feed 34 = .ok (.aload_n 0, 1) := by decide +kernel
theorem dX10_feed_35 : decode cX10_feed 35 = .ok (.getfield 12, 3) := by decide +kernel
theorem dX10_feed_38 : decode cX10_feed 38 = .ok (.iload_n 3, 1) := by decide +kernel
theorem dX10_feed_39 : decode cX10_feed 39 = .ok (.invokevirtual 78, 3) := by decide +kernel
theorem dX10_feed_42 : decode cX10_feed 42 = .ok (.aload_n 0, 1) := by decide +kernel
theorem dX10_feed_43 : decode cX10_feed 43 = .ok (.getfield 12, 3) := by decide +kernel
theorem dX10_feed_46 : decode cX10_feed 46 = .ok (.iload 4, 2) := by decide +kernel
theorem dX10_feed_48 : decode cX10_feed 48 = .ok (.invokevirtual 78, 3) := by decide +kernel
theorem dX10_feed_51 : decode cX10_feed 51 = .ok (.aload_n 0, 1) := by decide +kernel
theorem dX10_feed_52 : decode cX10_feed 52 = .ok (.getfield 12, 3) := by decide +kernel
theorem dX10_feed_55 : decode cX10_feed 55 = .ok (.iload 5, 2) := by decide +kernel
theorem dX10_feed_57 : decode cX10_feed 57 = .ok (.invokevirtual 78, 3) := by decide +kernel
theorem dX10_feed_60 : decode cX10_feed 60 = .ok (.aload_n 0, 1) := by decide +kernel
theorem dX10_feed_61 : decode cX10_feed 61 = .ok (.getfield 12, 3) := by decide +kernel
theorem dX10_feed_64 : decode cX10_feed 64 = .ok (.getfield 75, 3) := by decide +kernel
theorem dX10_feed_67 : decode cX10_feed 67 = .ok (.ireturn, 1) := by decide +kernel
theorem dX10_back_0 : decode cX10_back 0 = .ok (.iload_n 1, 1) := by decide +kernel
theorem dX10_back_1 : decode cX10_back 1 = .ok (.ifCond .lt 14, 3) := by decide +kernel
theorem dX10_back_4 : decode cX10_back 4 = .ok (.iload_n 1, 1) := by decide +kernel
theorem dX10_back_5 : decode cX10_back 5 = .ok (.aload_n 0, 1) := by decide +kernel
theorem dX10_back_6 : decode cX10_back 6 = .ok (.getfield 12, 3) := by decide +kernel
theorem dX10_back_9 : decode cX10_back 9 = .ok (.getfield 75, 3) := by decide +kernel
theorem dX10_back_12 : decode cX10_back 12 = .ok (.if_icmp .le 5, 3) := by decide +kernel
theorem dX10_back_15 : decode cX10_back 15 = .ok (.iconst (-1), 1) := by decide +kernel
theorem dX10_back_16 : decode cX10_back 16 = .ok (.ireturn, 1) := by decide +kernel
theorem dX10_back_17 : decode cX10_back 17 = .ok (.aload_n 0, 1) := by decide +kernel
theorem dX10_back_18 : decode cX10_back 18 = .ok (.getfield 12, 3) := by decide +kernel
theorem dX10_back_21 : decode cX10_back 21 = .ok (.dup, 1) := by decide +kernel
theorem dX10_back_22 : decode cX10_back 22 = .ok (.getfield 75, 3) := by decide +kernel
theorem dX10_back_25 : decode cX10_back 25 = .ok (.iload_n 1, 1) := by decide +kernel
theorem dX10_back_26 : decode cX10_back 26 = .ok (.isub, 1) := by decide +kernel
theorem dX10_back_27 : decode cX10_back 27 = .ok (.putfield 75, 3) := by decide +kernel
theorem dX10_back_30 : decode cX10_back 30 = .ok (.aload_n 0, 1) := by decide +kernel
theorem dX10_back_31 : decode cX10_back 31 = .ok (.getfield 12, 3) := by decide +kernel
theorem dX10_back_34 : decode cX10_back 34 = .ok (.getfield 75, 3) := by decide +kernel
theorem dX10_back_37 : decode cX10_back 37 = .ok (.ireturn, 1) := by decide +kernel
theorem dX10_read_0 : decode cX10_read 0 = .ok (.iload_n 1, 1) := by decide +kernel
theorem dX10_read_1 : decode cX10_read 1 = .ok (.invokestatic 82, 3) := by decide +kernel
theorem dX10_read_4 : decode cX10_read 4 = .ok (.ifCond .eq 22, 3) := by decide +kernel
theorem dX10_read_7 : decode cX10_read 7 = .ok (.iload_n 2, 1) := by decide +kernel
theorem dX10_read_8 : decode cX10_read 8 = .ok (.invokestatic 86, 3) := by decide +kernel
theorem dX10_read_11 : decode cX10_read 11 = .ok (.ifCond .eq 15, 3) := by decide +kernel
theorem dX10_read_14 : decode cX10_read 14 = .ok (.aload_n 0, 1) := by decide +kernel
theorem dX10_read_15 : decode cX10_read 15 = .ok (.getfield 26, 3) := by decide +kernel
theorem dX10_read_18 : decode cX10_read 18 = .ok (.getfield 89, 3) := by decide +kernel
theorem dX10_read_21 : decode cX10_read 21 = .ok (.bipush 8, 2) := by decide +kernel
theorem dX10_read_23 : decode cX10_read 23 = .ok (.if_icmp .lt 5, 3) := by decide +kernel
theorem dX10_read_26 : decode cX10_read 26 = .ok (.iconst (-1), 1) := by decide +kernel
theorem dX10_read_27 : decode cX10_read 27 = .ok (.ireturn, 1) := by decide +kernel
theorem dX10_read_28 : decode cX10_read 28 = .ok (.aload_n 0, 1) := by decide +kernel
theorem dX10_read_29 : decode cX10_read 29 = .ok (.getfield 19, 3) := by decide +kernel
theorem dX10_read_32 : decode cX10_read 32 = .ok (.aload_n 0, 1) := by decide +kernel
theorem dX10_read_33 : decode cX10_read 33 = .ok (.getfield 12, 3) := by decide +kernel
theorem dX10_read_36 : decode cX10_read 36 = .ok (.invokevirtual 92, 3) := by decide +kernel
theorem dX10_read_39 : decode cX10_read 39 = .ok (.istore_n 3, 1) := by decide +kernel
theorem dX10_read_40 : decode cX10_read 40 = .ok (.aload_n 0, 1) := by decide +kernel
theorem dX10_read_41 : decode cX10_read 41 = .ok (.iload_n 3, 1) := by decide +kernel
theorem dX10_read_42 : decode cX10_read 42 = .ok (.ifCond .ne 7, 3) := by decide +kernel
theorem dX10_read_45 : decode cX10_read 45 = .ok (.iconst (-1), 1) := by decide +kernel
theorem dX10_read_46 : decode cX10_read 46 = .ok (.goto 10, 3) := by decide +kernel
theorem dX10_read_49 : decode cX10_read 49 = .ok (.aload_n 0, 1) := by decide +kernel
theorem dX10_read_50 : decode cX10_read 50 = .ok (.getfield 12, 3) := by decide +kernel
theorem dX10_read_53 : decode cX10_read 53 = .ok (.getfield 96, 3) := by decide +kernel
theorem dX10_read_56 : decode cX10_read 56 = .ok (.putfield 71, 3) := by decide +kernel
theorem dX10_read_59 : decode cX10_read 59 = .ok (.iload_n 3, 1) := by decide +kernel
theorem dX10_read_60 : decode cX10_read 60 = .ok (.ifCond .ne 19, 3) := by decide +kernel
theorem dX10_read_63 : decode cX10_read 63 = .ok (.aload_n 0, 1) := by decide +kernel
theorem dX10_read_64 : decode cX10_read 64 = .ok (.getfield 26, 3) := by decide +kernel
theorem dX10_read_67 : decode cX10_read 67 = .ok (.aload_n 0, 1) := by decide +kernel
theorem dX10_read_68 : decode cX10_read 68 = .ok (.getfield 19, 3) := by decide +kernel
theorem dX10_read_71 : decode cX10_read 71 = .ok (.iload_n 1, 1) := by decide +kernel
theorem dX10_read_72 : decode cX10_read 72 = .ok (.iload_n 2, 1) := by decide +kernel
theorem dX10_read_73 : decode cX10_read 73 = .ok (.invokevirtual 99, 3) := by decide +kernel
theorem dX10_read_76 : decode cX10_read 76 = .ok (.invokevirtual 103, 3) := by decide +kernel
theorem dX10_read_79 : decode cX10_read 79 = .ok (.aload_n 0, 1) := by decide +kernel
theorem dX10_read_80 : decode cX10_read 80 = .ok (.getfield 12, 3) := by decide +kernel
theorem dX10_read_83 : decode cX10_read 83 = .ok (.iconst 0, 1) := by decide +kernel
theorem dX10_read_84 : decode cX10_read 84 = .ok (.putfield 75, 3) := by decide +kernel
theorem dX10_read_87 : decode cX10_read 87 = .ok (.iload_n 3, 1) := by decide +kernel
theorem dX10_read_88 : decode cX10_read 88 = .ok (.ireturn, 1) := by decide +kernel
theorem dX10_place_0 : decode cX10_place 0 = .ok (.aload_n 0, 1) := by decide +kernel
theorem dX10_place_1 : decode cX10_place 1 = .ok (.getfield 71, 3) := by decide +kernel
theorem dX10_place_4 : decode cX10_place 4 = .ok (.ireturn, 1) := by decide +kernel
theorem dX10_person_0 : decode cX10_person 0 = .ok (.iload_n 3, 1) := by decide +kernel
theorem dX10_person_1 : decode cX10_person 1 = .ok (.invokestatic 86, 3) := by decide +kernel
theorem dX10_person_4 : decode cX10_person 4 = .ok (.ifCond .eq 13, 3) := by decide +kernel
theorem dX10_person_7 : decode cX10_person 7 = .ok (.iload_n 1, 1) := by decide +kernel
theorem dX10_person_8 : decode cX10_person 8 = .ok (.iconst (-1), 1) := by decide +kernel
theorem dX10_person_9 : decode cX10_person 9 = .ok (.if_icmp .eq 10, 3) := by decide +kernel
theorem dX10_person_12 : decode cX10_person 12 = .ok (.iload_n 1, 1) := by decide +kernel
theorem dX10_person_13 : decode cX10_person 13 = .ok (.iload_n 2, 1) := by decide +kernel
theorem dX10_person_14 : decode cX10_person 14 = .ok (.if_icmp .ne 5, 3) := by decide +kernel
theorem dX10_person_17 : decode cX10_person 17 = .ok (.iconst (-1), 1) := by decide +kernel
theorem dX10_person_18 : decode cX10_person 18 = .ok (.ireturn, 1) := by decide +kernel
theorem dX10_person_19 : decode cX10_person 19 = .ok (.aload_n 0, 1) := by decide +kernel
theorem dX10_person_20 : decode cX10_person 20 = .ok (.getfield 33, 3) := by decide +kernel
theorem dX10_person_23 : decode cX10_person 23 = .ok (.iload_n 1, 1) := by decide +kernel
theorem dX10_person_24 : decode cX10_person 24 = .ok (.iload_n 3, 1) := by decide +kernel
theorem dX10_person_25 : decode cX10_person 25 = .ok (.invokevirtual 107, 3) := by decide +kernel
theorem dX10_person_28 : decode cX10_person 28 = .ok (.ifCond .eq 15, 3) := by decide +kernel
theorem dX10_person_31 : decode cX10_person 31 = .ok (.aload_n 0, 1) := by decide +kernel
theorem dX10_person_32 : decode cX10_person 32 = .ok (.getfield 33, 3) := by decide +kernel
theorem dX10_person_35 : decode cX10_person 35 = .ok (.iload_n 2, 1) := by decide +kernel
theorem dX10_person_36 : decode cX10_person 36 = .ok (.iload_n 3, 1) := by decide +kernel
theorem dX10_person_37 : decode cX10_person 37 = .ok (.invokevirtual 107, 3) := by decide +kernel
theorem dX10_person_40 : decode cX10_person 40 = .ok (.ifCond .ne 5, 3) := by decide +kernel
theorem dX10_person_43 : decode cX10_person 43 = .ok (.iconst (-1), 1) := by decide +kernel
theorem dX10_person_44 : decode cX10_person 44 = .ok (.ireturn, 1) := by decide +kernel
theorem dX10_person_45 : decode cX10_person 45 = .ok (.aload_n 0, 1) := by decide +kernel
theorem dX10_person_46 : decode cX10_person 46 = .ok (.getfield 33, 3) := by decide +kernel
theorem dX10_person_49 : decode cX10_person 49 = .ok (.iload_n 1, 1) := by decide +kernel
theorem dX10_person_50 : decode cX10_person 50 = .ok (.iload_n 2, 1) := by decide +kernel
theorem dX10_person_51 : decode cX10_person 51 = .ok (.iload_n 3, 1) := by decide +kernel
theorem dX10_person_52 : decode cX10_person 52 = .ok (.invokevirtual 111, 3) := by decide +kernel
theorem dX10_person_55 : decode cX10_person 55 = .ok (.ireturn, 1) := by decide +kernel
theorem dX10_promise_0 : decode cX10_promise 0 = .ok (.aload_n 0, 1) := by decide +kernel
theorem dX10_promise_1 : decode cX10_promise 1 = .ok (.iload_n 1, 1) := by decide +kernel
theorem dX10_promise_2 : decode cX10_promise 2 = .ok (.iload_n 2, 1) := by decide +kernel
theorem dX10_promise_3 : decode cX10_promise 3 = .ok (.invokevirtual 114, 3) := by decide +kernel
theorem dX10_promise_6 : decode cX10_promise 6 = .ok (.ifCond .eq 29, 3) := by decide +kernel
theorem dX10_promise_9 : decode cX10_promise 9 = .ok (.iload_n 3, 1) := by decide +kernel
theorem dX10_promise_10 : decode cX10_promise 10 = .ok (.invokestatic 82, 3) := by decide +kernel
theorem dX10_promise_13 : decode cX10_promise 13 = .ok (.ifCond .eq 22, 3) := by decide +kernel
theorem dX10_promise_16 : decode cX10_promise 16 = .ok (.iload 4, 2) := by decide +kernel
theorem dX10_promise_18 : decode cX10_promise 18 = .ok (.invokestatic 86, 3) := by decide +kernel
theorem dX10_promise_21 : decode cX10_promise 21 = .ok (.ifCond .eq 14, 3) := by decide +kernel
theorem dX10_promise_24 : decode cX10_promise 24 = .ok (.iload 5, 2) := by decide +kernel
theorem dX10_promise_26 : decode cX10_promise 26 = .ok (.ifCond .lt 9, 3) := by decide +kernel
theorem dX10_promise_29 : decode cX10_promise 29 = .ok (.iload 5, 2) := by decide +kernel
theorem dX10_promise_31 : decode cX10_promise 31 = .ok (.iconst 1, 1) := by decide +kernel
theorem dX10_promise_32 : decode cX10_promise 32 = .ok (.if_icmp .le 5, 3) := by decide +kernel
theorem dX10_promise_35 : decode cX10_promise 35 = .ok (.iconst (-1), 1) := by decide +kernel
theorem dX10_promise_36 : decode cX10_promise 36 = .ok (.ireturn, 1) := by decide +kernel
theorem dX10_promise_37 : decode cX10_promise 37 = .ok (.iload 6, 2) := by decide +kernel
theorem dX10_promise_39 : decode cX10_promise 39 = .ok (.iconst (-1), 1) := by decide +kernel
theorem dX10_promise_40 : decode cX10_promise 40 = .ok (.if_icmp .eq 13, 3) := by decide +kernel
theorem dX10_promise_43 : decode cX10_promise 43 = .ok (.iload 6, 2) := by decide +kernel
theorem dX10_promise_45 : decode cX10_promise 45 = .ok (.invokestatic 117, 3) := by decide +kernel
theorem dX10_promise_48 : decode cX10_promise 48 = .ok (.ifCond .ne 5, 3) := by decide +kernel
theorem dX10_promise_51 : decode cX10_promise 51 = .ok (.iconst (-1), 1) := by decide +kernel
theorem dX10_promise_52 : decode cX10_promise 52 = .ok (.ireturn, 1) := by decide +kernel
theorem dX10_promise_53 : decode cX10_promise 53 = .ok (.aload_n 0, 1) := by decide +kernel
theorem dX10_promise_54 : decode cX10_promise 54 = .ok (.getfield 40, 3) := by decide +kernel
theorem dX10_promise_57 : decode cX10_promise 57 = .ok (.iload_n 1, 1) := by decide +kernel
theorem dX10_promise_58 : decode cX10_promise 58 = .ok (.iload_n 2, 1) := by decide +kernel
theorem dX10_promise_59 : decode cX10_promise 59 = .ok (.iload_n 3, 1) := by decide +kernel
theorem dX10_promise_60 : decode cX10_promise 60 = .ok (.iload 4, 2) := by decide +kernel
theorem dX10_promise_62 : decode cX10_promise 62 = .ok (.iload 5, 2) := by decide +kernel
theorem dX10_promise_64 : decode cX10_promise 64 = .ok (.iload 6, 2) := by decide +kernel
theorem dX10_promise_66 : decode cX10_promise 66 = .ok (.invokevirtual 120, 3) := by decide +kernel
theorem dX10_promise_69 : decode cX10_promise 69 = .ok (.ireturn, 1) := by decide +kernel
theorem dX10_gift_0 : decode cX10_gift 0 = .ok (.aload_n 0, 1) := by decide +kernel
theorem dX10_gift_1 : decode cX10_gift 1 = .ok (.iload_n 1, 1) := by decide +kernel
theorem dX10_gift_2 : decode cX10_gift 2 = .ok (.invokevirtual 123, 3) := by decide +kernel
theorem dX10_gift_5 : decode cX10_gift 5 = .ok (.ifCond .eq 24, 3) := by decide +kernel
theorem dX10_gift_8 : decode cX10_gift 8 = .ok (.iload_n 2, 1) := by decide +kernel
theorem dX10_gift_9 : decode cX10_gift 9 = .ok (.ifCond .lt 20, 3) := by decide +kernel
theorem dX10_gift_12 : decode cX10_gift 12 = .ok (.iload_n 2, 1) := by decide +kernel
theorem dX10_gift_13 : decode cX10_gift 13 = .ok (.iconst 1, 1) := by decide +kernel
theorem dX10_gift_14 : decode cX10_gift 14 = .ok (.if_icmp .gt 15, 3) := by decide +kernel
theorem dX10_gift_17 : decode cX10_gift 17 = .ok (.iload_n 3, 1) := by decide +kernel
theorem dX10_gift_18 : decode cX10_gift 18 = .ok (.iconst 1, 1) := by decide +kernel
theorem dX10_gift_19 : decode cX10_gift 19 = .ok (.if_icmp .lt 10, 3) := by decide +kernel
theorem dX10_gift_22 : decode cX10_gift 22 = .ok (.iload_n 3, 1) := by decide +kernel
theorem dX10_gift_23 : decode cX10_gift 23 = .ok (.sipush 1000, 3) := by decide +kernel
theorem dX10_gift_26 : decode cX10_gift 26 = .ok (.if_icmp .le 5, 3) := by decide +kernel
theorem dX10_gift_29 : decode cX10_gift 29 = .ok (.iconst (-1), 1) := by decide +kernel
theorem dX10_gift_30 : decode cX10_gift 30 = .ok (.ireturn, 1) := by decide +kernel
theorem dX10_gift_31 : decode cX10_gift 31 = .ok (.aload_n 0, 1) := by decide +kernel
theorem dX10_gift_32 : decode cX10_gift 32 = .ok (.getfield 47, 3) := by decide +kernel
theorem dX10_gift_35 : decode cX10_gift 35 = .ok (.iload_n 1, 1) := by decide +kernel
theorem dX10_gift_36 : decode cX10_gift 36 = .ok (.iload_n 2, 1) := by decide +kernel
theorem dX10_gift_37 : decode cX10_gift 37 = .ok (.iload_n 3, 1) := by decide +kernel
theorem dX10_gift_38 : decode cX10_gift 38 = .ok (.invokevirtual 126, 3) := by decide +kernel
theorem dX10_gift_41 : decode cX10_gift 41 = .ok (.ireturn, 1) := by decide +kernel
theorem dX10_says_0 : decode cX10_says 0 = .ok (.iload_n 1, 1) := by decide +kernel
theorem dX10_says_1 : decode cX10_says 1 = .ok (.bipush 100, 2) := by decide +kernel
theorem dX10_says_3 : decode cX10_says 3 = .ok (.if_icmp .lt 13, 3) := by decide +kernel
theorem dX10_says_6 : decode cX10_says 6 = .ok (.iload_n 1, 1) := by decide +kernel
theorem dX10_says_7 : decode cX10_says 7 = .ok (.bipush 119, 2) := by decide +kernel
theorem dX10_says_9 : decode cX10_says 9 = .ok (.if_icmp .gt 7, 3) := by decide +kernel
theorem dX10_says_12 : decode cX10_says 12 = .ok (.iconst 1, 1) := by decide +kernel
theorem dX10_says_13 : decode cX10_says 13 = .ok (.goto 4, 3) := by decide +kernel
theorem dX10_says_16 : decode cX10_says 16 = .ok (.iconst 0, 1) := by decide +kernel
theorem dX10_says_17 : decode cX10_says 17 = .ok (.istore 4, 2) := by decide +kernel
theorem dX10_says_19 : decode cX10_says 19 = .ok (.aload_n 0, 1) := by decide +kernel
theorem dX10_says_20 : decode cX10_says 20 = .ok (.iload_n 2, 1) := by decide +kernel
theorem dX10_says_21 : decode cX10_says 21 = .ok (.invokevirtual 123, 3) := by decide +kernel
theorem dX10_says_24 : decode cX10_says 24 = .ok (.ifCond .eq 19, 3) := by decide +kernel
theorem dX10_says_27 : decode cX10_says 27 = .ok (.iload 4, 2) := by decide +kernel
theorem dX10_says_29 : decode cX10_says 29 = .ok (.ifCond .ne 16, 3) := by decide +kernel
theorem dX10_says_32 : decode cX10_says 32 = .ok (.aload_n 0, 1) := by decide +kernel
theorem dX10_says_33 : decode cX10_says 33 = .ok (.getfield 33, 3) := by decide +kernel
theorem dX10_says_36 : decode cX10_says 36 = .ok (.iload_n 1, 1) := by decide +kernel
theorem dX10_says_37 : decode cX10_says 37 = .ok (.invokevirtual 127, 3) := by decide +kernel
theorem dX10_says_40 : decode cX10_says 40 = .ok (.ifCond .ne 5, 3) := by decide +kernel
theorem dX10_says_43 : decode cX10_says 43 = .ok (.iconst (-1), 1) := by decide +kernel
theorem dX10_says_44 : decode cX10_says 44 = .ok (.ireturn, 1) := by decide +kernel
theorem dX10_says_45 : decode cX10_says 45 = .ok (.aload_n 0, 1) := by decide +kernel
theorem dX10_says_46 : decode cX10_says 46 = .ok (.getfield 40, 3) := by decide +kernel
theorem dX10_says_49 : decode cX10_says 49 = .ok (.iload_n 2, 1) := by decide +kernel
theorem dX10_says_50 : decode cX10_says 50 = .ok (.iload_n 1, 1) := by decide +kernel
theorem dX10_says_51 : decode cX10_says 51 = .ok (.invokevirtual 130, 3) := by decide +kernel
theorem dX10_says_54 : decode cX10_says 54 = .ok (.ifCond .eq 5, 3) := by decide +kernel
theorem dX10_says_57 : decode cX10_says 57 = .ok (.iconst (-1), 1) := by decide +kernel
theorem dX10_says_58 : decode cX10_says 58 = .ok (.ireturn, 1) := by decide +kernel
theorem dX10_says_59 : decode cX10_says 59 = .ok (.iload 4, 2) := by decide +kernel
theorem dX10_says_61 : decode cX10_says 61 = .ok (.ifCond .eq 13, 3) := by decide +kernel
theorem dX10_says_64 : decode cX10_says 64 = .ok (.bipush 12, 2) := by decide +kernel
theorem dX10_says_66 : decode cX10_says 66 = .ok (.iload_n 1, 1) := by decide +kernel
theorem dX10_says_67 : decode cX10_says 67 = .ok (.iadd, 1) := by decide +kernel
theorem dX10_says_68 : decode cX10_says 68 = .ok (.bipush 100, 2) := by decide +kernel
theorem dX10_says_70 : decode cX10_says 70 = .ok (.isub, 1) := by decide +kernel
theorem dX10_says_71 : decode cX10_says 71 = .ok (.goto 4, 3) := by decide +kernel
theorem dX10_says_74 : decode cX10_says 74 = .ok (.iload_n 1, 1) := by decide +kernel
theorem dX10_says_75 : decode cX10_says 75 = .ok (.istore 5, 2) := by decide +kernel
theorem dX10_says_77 : decode cX10_says 77 = .ok (.aload_n 0, 1) := by decide +kernel
theorem dX10_says_78 : decode cX10_says 78 = .ok (.getfield 54, 3) := by decide +kernel
theorem dX10_says_81 : decode cX10_says 81 = .ok (.iload_n 3, 1) := by decide +kernel
theorem dX10_says_82 : decode cX10_says 82 = .ok (.ifCond .eq 8, 3) := by decide +kernel
theorem dX10_says_85 : decode cX10_says 85 = .ok (.bipush 7, 2) := by decide +kernel
theorem dX10_says_87 : decode cX10_says 87 = .ok (.goto 5, 3) := by decide +kernel
theorem dX10_says_90 : decode cX10_says 90 = .ok (.bipush 8, 2) := by decide +kernel
theorem dX10_says_92 : decode cX10_says 92 = .ok (.iload 5, 2) := by decide +kernel
theorem dX10_says_94 : decode cX10_says 94 = .ok (.iload_n 2, 1) := by decide +kernel
theorem dX10_says_95 : decode cX10_says 95 = .ok (.iconst 0, 1) := by decide +kernel
theorem dX10_says_96 : decode cX10_says 96 = .ok (.invokevirtual 133, 3) := by decide +kernel
theorem dX10_says_99 : decode cX10_says 99 = .ok (.ireturn, 1) := by decide +kernel
theorem dX10_fame_0 : decode cX10_fame 0 = .ok (.aload_n 0, 1) := by decide +kernel
theorem dX10_fame_1 : decode cX10_fame 1 = .ok (.iload_n 1, 1) := by decide +kernel
theorem dX10_fame_2 : decode cX10_fame 2 = .ok (.invokevirtual 123, 3) := by decide +kernel
theorem dX10_fame_5 : decode cX10_fame 5 = .ok (.ifCond .ne 5, 3) := by decide +kernel
theorem dX10_fame_8 : decode cX10_fame 8 = .ok (.iconst (-1), 1) := by decide +kernel
theorem dX10_fame_9 : decode cX10_fame 9 = .ok (.ireturn, 1) := by decide +kernel
theorem dX10_fame_10 : decode cX10_fame 10 = .ok (.aload_n 0, 1) := by decide +kernel
theorem dX10_fame_11 : decode cX10_fame 11 = .ok (.getfield 54, 3) := by decide +kernel
theorem dX10_fame_14 : decode cX10_fame 14 = .ok (.bipush 9, 2) := by decide +kernel
theorem dX10_fame_16 : decode cX10_fame 16 = .ok (.iload_n 1, 1) := by decide +kernel
theorem dX10_fame_17 : decode cX10_fame 17 = .ok (.iconst (-1), 1) := by decide +kernel
theorem dX10_fame_18 : decode cX10_fame 18 = .ok (.iconst 0, 1) := by decide +kernel
theorem dX10_fame_19 : decode cX10_fame 19 = .ok (.invokevirtual 133, 3) := by decide +kernel
theorem dX10_fame_22 : decode cX10_fame 22 = .ok (.ireturn, 1) := by decide +kernel
theorem dX10_comes_0 : decode cX10_comes 0 = .ok (.iload_n 1, 1) := by decide +kernel
theorem dX10_comes_1 : decode cX10_comes 1 = .ok (.invokestatic 117, 3) := by decide +kernel
theorem dX10_comes_4 : decode cX10_comes 4 = .ok (.ifCond .eq 10, 3) := by decide +kernel
theorem dX10_comes_7 : decode cX10_comes 7 = .ok (.iload_n 2, 1) := by decide +kernel
theorem dX10_comes_8 : decode cX10_comes 8 = .ok (.invokestatic 86, 3) := by decide +kernel
theorem dX10_comes_11 : decode cX10_comes 11 = .ok (.ifCond .ne 5, 3) := by decide +kernel
theorem dX10_comes_14 : decode cX10_comes 14 = .ok (.iconst (-1), 1) := by decide +kernel
theorem dX10_comes_15 : decode cX10_comes 15 = .ok (.ireturn, 1) := by decide +kernel
theorem dX10_comes_16 : decode cX10_comes 16 = .ok (.aload_n 0, 1) := by decide +kernel
theorem dX10_comes_17 : decode cX10_comes 17 = .ok (.getfield 54, 3) := by decide +kernel
theorem dX10_comes_20 : decode cX10_comes 20 = .ok (.iload_n 3, 1) := by decide +kernel
theorem dX10_comes_21 : decode cX10_comes 21 = .ok (.ifCond .eq 7, 3) := by decide +kernel
theorem dX10_comes_24 : decode cX10_comes 24 = .ok (.iconst 5, 1) := by decide +kernel
theorem dX10_comes_25 : decode cX10_comes 25 = .ok (.goto 5, 3) := by decide +kernel
theorem dX10_comes_28 : decode cX10_comes 28 = .ok (.bipush 6, 2) := by decide +kernel
theorem dX10_comes_30 : decode cX10_comes 30 = .ok (.iload_n 1, 1) := by decide +kernel
theorem dX10_comes_31 : decode cX10_comes 31 = .ok (.iconst (-1), 1) := by decide +kernel
theorem dX10_comes_32 : decode cX10_comes 32 = .ok (.iload_n 2, 1) := by decide +kernel
theorem dX10_comes_33 : decode cX10_comes 33 = .ok (.invokevirtual 133, 3) := by decide +kernel
theorem dX10_comes_36 : decode cX10_comes 36 = .ok (.ireturn, 1) := by decide +kernel
theorem dX10_fate_0 : decode cX10_fate 0 = .ok (.iload_n 1, 1) := by decide +kernel
theorem dX10_fate_1 : decode cX10_fate 1 = .ok (.ifCond .lt 26, 3) := by decide +kernel
theorem dX10_fate_4 : decode cX10_fate 4 = .ok (.iload_n 1, 1) := by decide +kernel
theorem dX10_fate_5 : decode cX10_fate 5 = .ok (.iconst 4, 1) := by decide +kernel
theorem dX10_fate_6 : decode cX10_fate 6 = .ok (.if_icmp .ge 21, 3) := by decide +kernel
theorem dX10_fate_9 : decode cX10_fate 9 = .ok (.aload_n 0, 1) := by decide +kernel
theorem dX10_fate_10 : decode cX10_fate 10 = .ok (.getfield 33, 3) := by decide +kernel
theorem dX10_fate_13 : decode cX10_fate 13 = .ok (.iload_n 2, 1) := by decide +kernel
theorem dX10_fate_14 : decode cX10_fate 14 = .ok (.invokevirtual 127, 3) := by decide +kernel
theorem dX10_fate_17 : decode cX10_fate 17 = .ok (.ifCond .eq 10, 3) := by decide +kernel
theorem dX10_fate_20 : decode cX10_fate 20 = .ok (.iload_n 3, 1) := by decide +kernel
theorem dX10_fate_21 : decode cX10_fate 21 = .ok (.invokestatic 86, 3) := by decide +kernel
theorem dX10_fate_24 : decode cX10_fate 24 = .ok (.ifCond .ne 5, 3) := by decide +kernel
theorem dX10_fate_27 : decode cX10_fate 27 = .ok (.iconst (-1), 1) := by decide +kernel
theorem dX10_fate_28 : decode cX10_fate 28 = .ok (.ireturn, 1) := by decide +kernel
theorem dX10_fate_29 : decode cX10_fate 29 = .ok (.aload_n 0, 1) := by decide +kernel
theorem dX10_fate_30 : decode cX10_fate 30 = .ok (.getfield 54, 3) := by decide +kernel
theorem dX10_fate_33 : decode cX10_fate 33 = .ok (.iload_n 1, 1) := by decide +kernel
theorem dX10_fate_34 : decode cX10_fate 34 = .ok (.iload_n 2, 1) := by decide +kernel
theorem dX10_fate_35 : decode cX10_fate 35 = .ok (.iconst (-1), 1) := by decide +kernel
theorem dX10_fate_36 : decode cX10_fate 36 = .ok (.iload_n 3, 1) := by decide +kernel
theorem dX10_fate_37 : decode cX10_fate 37 = .ok (.invokevirtual 133, 3) := by decide +kernel
theorem dX10_fate_40 : decode cX10_fate 40 = .ok (.ireturn, 1) := by decide +kernel
theorem dX10_leave_0 : decode cX10_leave 0 = .ok (.aload_n 0, 1) := by decide +kernel
theorem dX10_leave_1 : decode cX10_leave 1 = .ok (.iload_n 1, 1) := by decide +kernel
end
section
theorem dX10_leave_2 : decode cX10_leave 2 = .ok (.iload_n 2, 1) := by decide +kernel
theorem dX10_leave_3 : decode cX10_leave 3 = .ok (.invokevirtual 114, 3) := by decide +kernel
theorem dX10_leave_6 : decode cX10_leave 6 = .ok (.ifCond .eq 10, 3) := by decide +kernel
theorem dX10_leave_9 : decode cX10_leave 9 = .ok (.iload_n 3, 1) := by decide +kernel
theorem dX10_leave_10 : decode cX10_leave 10 = .ok (.invokestatic 86, 3) := by decide +kernel
theorem dX10_leave_13 : decode cX10_leave 13 = .ok (.ifCond .ne 5, 3) := by decide +kernel
theorem dX10_leave_16 : decode cX10_leave 16 = .ok (.iconst (-1), 1) := by decide +kernel
theorem dX10_leave_17 : decode cX10_leave 17 = .ok (.ireturn, 1) := by decide +kernel
theorem dX10_leave_18 : decode cX10_leave 18 = .ok (.aload_n 0, 1) := by decide +kernel
theorem dX10_leave_19 : decode cX10_leave 19 = .ok (.getfield 54, 3) := by decide +kernel
theorem dX10_leave_22 : decode cX10_leave 22 = .ok (.iconst 4, 1) := by decide +kernel
theorem dX10_leave_23 : decode cX10_leave 23 = .ok (.iload_n 1, 1) := by decide +kernel
theorem dX10_leave_24 : decode cX10_leave 24 = .ok (.iload_n 2, 1) := by decide +kernel
theorem dX10_leave_25 : decode cX10_leave 25 = .ok (.iload_n 3, 1) := by decide +kernel
theorem dX10_leave_26 : decode cX10_leave 26 = .ok (.invokevirtual 133, 3) := by decide +kernel
theorem dX10_leave_29 : decode cX10_leave 29 = .ok (.ireturn, 1) := by decide +kernel
theorem dX10_degree_0 : decode cX10_degree 0 = .ok (.aload_n 0, 1) := by decide +kernel
theorem dX10_degree_1 : decode cX10_degree 1 = .ok (.getfield 33, 3) := by decide +kernel
theorem dX10_degree_4 : decode cX10_degree 4 = .ok (.iload_n 1, 1) := by decide +kernel
theorem dX10_degree_5 : decode cX10_degree 5 = .ok (.invokevirtual 127, 3) := by decide +kernel
theorem dX10_degree_8 : decode cX10_degree 8 = .ok (.ifCond .eq 14, 3) := by decide +kernel
theorem dX10_degree_11 : decode cX10_degree 11 = .ok (.aload_n 0, 1) := by decide +kernel
theorem dX10_degree_12 : decode cX10_degree 12 = .ok (.getfield 33, 3) := by decide +kernel
theorem dX10_degree_15 : decode cX10_degree 15 = .ok (.iload_n 2, 1) := by decide +kernel
theorem dX10_degree_16 : decode cX10_degree 16 = .ok (.invokevirtual 127, 3) := by decide +kernel
theorem dX10_degree_19 : decode cX10_degree 19 = .ok (.ifCond .ne 5, 3) := by decide +kernel
theorem dX10_degree_22 : decode cX10_degree 22 = .ok (.iconst (-1), 1) := by decide +kernel
theorem dX10_degree_23 : decode cX10_degree 23 = .ok (.ireturn, 1) := by decide +kernel
theorem dX10_degree_24 : decode cX10_degree 24 = .ok (.aload_n 0, 1) := by decide +kernel
theorem dX10_degree_25 : decode cX10_degree 25 = .ok (.getfield 33, 3) := by decide +kernel
theorem dX10_degree_28 : decode cX10_degree 28 = .ok (.iload_n 1, 1) := by decide +kernel
theorem dX10_degree_29 : decode cX10_degree 29 = .ok (.iload_n 2, 1) := by decide +kernel
theorem dX10_degree_30 : decode cX10_degree 30 = .ok (.invokevirtual 136, 3) := by decide +kernel
theorem dX10_degree_33 : decode cX10_degree 33 = .ok (.ireturn, 1) := by decide +kernel
theorem dX10_gaps_0 : decode cX10_gaps 0 = .ok (.aload_n 0, 1) := by decide +kernel
theorem dX10_gaps_1 : decode cX10_gaps 1 = .ok (.getfield 33, 3) := by decide +kernel
theorem dX10_gaps_4 : decode cX10_gaps 4 = .ok (.iload_n 1, 1) := by decide +kernel
theorem dX10_gaps_5 : decode cX10_gaps 5 = .ok (.invokevirtual 127, 3) := by decide +kernel
theorem dX10_gaps_8 : decode cX10_gaps 8 = .ok (.ifCond .ne 5, 3) := by decide +kernel
theorem dX10_gaps_11 : decode cX10_gaps 11 = .ok (.iconst (-1), 1) := by decide +kernel
theorem dX10_gaps_12 : decode cX10_gaps 12 = .ok (.ireturn, 1) := by decide +kernel
theorem dX10_gaps_13 : decode cX10_gaps 13 = .ok (.aload_n 0, 1) := by decide +kernel
theorem dX10_gaps_14 : decode cX10_gaps 14 = .ok (.getfield 33, 3) := by decide +kernel
theorem dX10_gaps_17 : decode cX10_gaps 17 = .ok (.iload_n 1, 1) := by decide +kernel
theorem dX10_gaps_18 : decode cX10_gaps 18 = .ok (.invokevirtual 140, 3) := by decide +kernel
theorem dX10_gaps_21 : decode cX10_gaps 21 = .ok (.ireturn, 1) := by decide +kernel
theorem dX10_law_0 : decode cX10_law 0 = .ok (.aload_n 0, 1) := by decide +kernel
theorem dX10_law_1 : decode cX10_law 1 = .ok (.iload_n 1, 1) := by decide +kernel
theorem dX10_law_2 : decode cX10_law 2 = .ok (.invokevirtual 123, 3) := by decide +kernel
theorem dX10_law_5 : decode cX10_law 5 = .ok (.ifCond .ne 5, 3) := by decide +kernel
theorem dX10_law_8 : decode cX10_law 8 = .ok (.iconst (-1), 1) := by decide +kernel
theorem dX10_law_9 : decode cX10_law 9 = .ok (.ireturn, 1) := by decide +kernel
theorem dX10_law_10 : decode cX10_law 10 = .ok (.aload_n 0, 1) := by decide +kernel
theorem dX10_law_11 : decode cX10_law 11 = .ok (.getfield 26, 3) := by decide +kernel
theorem dX10_law_14 : decode cX10_law 14 = .ok (.aload_n 0, 1) := by decide +kernel
theorem dX10_law_15 : decode cX10_law 15 = .ok (.getfield 40, 3) := by decide +kernel
theorem dX10_law_18 : decode cX10_law 18 = .ok (.getfield 144, 3) := by decide +kernel
theorem dX10_law_21 : decode cX10_law 21 = .ok (.iload_n 1, 1) := by decide +kernel
theorem dX10_law_22 : decode cX10_law 22 = .ok (.iaload, 1) := by decide +kernel
theorem dX10_law_23 : decode cX10_law 23 = .ok (.aload_n 0, 1) := by decide +kernel
theorem dX10_law_24 : decode cX10_law 24 = .ok (.getfield 40, 3) := by decide +kernel
theorem dX10_law_27 : decode cX10_law 27 = .ok (.getfield 147, 3) := by decide +kernel
theorem dX10_law_30 : decode cX10_law 30 = .ok (.iload_n 1, 1) := by decide +kernel
theorem dX10_law_31 : decode cX10_law 31 = .ok (.iaload, 1) := by decide +kernel
theorem dX10_law_32 : decode cX10_law 32 = .ok (.invokevirtual 150, 3) := by decide +kernel
theorem dX10_law_35 : decode cX10_law 35 = .ok (.ireturn, 1) := by decide +kernel
theorem dX10_proved_0 : decode cX10_proved 0 = .ok (.aload_n 0, 1) := by decide +kernel
theorem dX10_proved_1 : decode cX10_proved 1 = .ok (.iload_n 1, 1) := by decide +kernel
theorem dX10_proved_2 : decode cX10_proved 2 = .ok (.invokevirtual 123, 3) := by decide +kernel
theorem dX10_proved_5 : decode cX10_proved 5 = .ok (.ifCond .eq 11, 3) := by decide +kernel
theorem dX10_proved_8 : decode cX10_proved 8 = .ok (.aload_n 0, 1) := by decide +kernel
theorem dX10_proved_9 : decode cX10_proved 9 = .ok (.iload_n 2, 1) := by decide +kernel
theorem dX10_proved_10 : decode cX10_proved 10 = .ok (.invokevirtual 153, 3) := by decide +kernel
theorem dX10_proved_13 : decode cX10_proved 13 = .ok (.ifCond .ne 5, 3) := by decide +kernel
theorem dX10_proved_16 : decode cX10_proved 16 = .ok (.iconst (-1), 1) := by decide +kernel
theorem dX10_proved_17 : decode cX10_proved 17 = .ok (.ireturn, 1) := by decide +kernel
theorem dX10_proved_18 : decode cX10_proved 18 = .ok (.aload_n 0, 1) := by decide +kernel
theorem dX10_proved_19 : decode cX10_proved 19 = .ok (.getfield 63, 3) := by decide +kernel
theorem dX10_proved_22 : decode cX10_proved 22 = .ok (.iload_n 2, 1) := by decide +kernel
theorem dX10_proved_23 : decode cX10_proved 23 = .ok (.invokevirtual 156, 3) := by decide +kernel
theorem dX10_proved_26 : decode cX10_proved 26 = .ok (.aload_n 0, 1) := by decide +kernel
theorem dX10_proved_27 : decode cX10_proved 27 = .ok (.getfield 63, 3) := by decide +kernel
theorem dX10_proved_30 : decode cX10_proved 30 = .ok (.getfield 159, 3) := by decide +kernel
theorem dX10_proved_33 : decode cX10_proved 33 = .ok (.iload_n 1, 1) := by decide +kernel
theorem dX10_proved_34 : decode cX10_proved 34 = .ok (.iaload, 1) := by decide +kernel
theorem dX10_proved_35 : decode cX10_proved 35 = .ok (.ireturn, 1) := by decide +kernel
theorem dX10_barred_0 : decode cX10_barred 0 = .ok (.aload_n 0, 1) := by decide +kernel
theorem dX10_barred_1 : decode cX10_barred 1 = .ok (.iload_n 1, 1) := by decide +kernel
theorem dX10_barred_2 : decode cX10_barred 2 = .ok (.invokevirtual 123, 3) := by decide +kernel
theorem dX10_barred_5 : decode cX10_barred 5 = .ok (.ifCond .eq 11, 3) := by decide +kernel
theorem dX10_barred_8 : decode cX10_barred 8 = .ok (.aload_n 0, 1) := by decide +kernel
theorem dX10_barred_9 : decode cX10_barred 9 = .ok (.iload_n 2, 1) := by decide +kernel
theorem dX10_barred_10 : decode cX10_barred 10 = .ok (.invokevirtual 153, 3) := by decide +kernel
theorem dX10_barred_13 : decode cX10_barred 13 = .ok (.ifCond .ne 5, 3) := by decide +kernel
theorem dX10_barred_16 : decode cX10_barred 16 = .ok (.iconst (-1), 1) := by decide +kernel
theorem dX10_barred_17 : decode cX10_barred 17 = .ok (.ireturn, 1) := by decide +kernel
theorem dX10_barred_18 : decode cX10_barred 18 = .ok (.aload_n 0, 1) := by decide +kernel
theorem dX10_barred_19 : decode cX10_barred 19 = .ok (.getfield 63, 3) := by decide +kernel
theorem dX10_barred_22 : decode cX10_barred 22 = .ok (.iload_n 2, 1) := by decide +kernel
theorem dX10_barred_23 : decode cX10_barred 23 = .ok (.invokevirtual 156, 3) := by decide +kernel
theorem dX10_barred_26 : decode cX10_barred 26 = .ok (.aload_n 0, 1) := by decide +kernel
theorem dX10_barred_27 : decode cX10_barred 27 = .ok (.getfield 63, 3) := by decide +kernel
theorem dX10_barred_30 : decode cX10_barred 30 = .ok (.getfield 162, 3) := by decide +kernel
theorem dX10_barred_33 : decode cX10_barred 33 = .ok (.iload_n 1, 1) := by decide +kernel
theorem dX10_barred_34 : decode cX10_barred 34 = .ok (.iaload, 1) := by decide +kernel
theorem dX10_barred_35 : decode cX10_barred 35 = .ok (.ireturn, 1) := by decide +kernel
theorem dX10_state_0 : decode cX10_state 0 = .ok (.aload_n 0, 1) := by decide +kernel
theorem dX10_state_1 : decode cX10_state 1 = .ok (.iload_n 1, 1) := by decide +kernel
theorem dX10_state_2 : decode cX10_state 2 = .ok (.invokevirtual 123, 3) := by decide +kernel
theorem dX10_state_5 : decode cX10_state 5 = .ok (.ifCond .eq 18, 3) := by decide +kernel
theorem dX10_state_8 : decode cX10_state 8 = .ok (.iload_n 2, 1) := by decide +kernel
theorem dX10_state_9 : decode cX10_state 9 = .ok (.invokestatic 86, 3) := by decide +kernel
theorem dX10_state_12 : decode cX10_state 12 = .ok (.ifCond .eq 11, 3) := by decide +kernel
theorem dX10_state_15 : decode cX10_state 15 = .ok (.aload_n 0, 1) := by decide +kernel
theorem dX10_state_16 : decode cX10_state 16 = .ok (.iload_n 3, 1) := by decide +kernel
theorem dX10_state_17 : decode cX10_state 17 = .ok (.invokevirtual 153, 3) := by decide +kernel
theorem dX10_state_20 : decode cX10_state 20 = .ok (.ifCond .ne 5, 3) := by decide +kernel
theorem dX10_state_23 : decode cX10_state 23 = .ok (.iconst (-1), 1) := by decide +kernel
theorem dX10_state_24 : decode cX10_state 24 = .ok (.ireturn, 1) := by decide +kernel
theorem dX10_state_25 : decode cX10_state 25 = .ok (.aload_n 0, 1) := by decide +kernel
theorem dX10_state_26 : decode cX10_state 26 = .ok (.getfield 63, 3) := by decide +kernel
theorem dX10_state_29 : decode cX10_state 29 = .ok (.iload_n 3, 1) := by decide +kernel
theorem dX10_state_30 : decode cX10_state 30 = .ok (.invokevirtual 156, 3) := by decide +kernel
theorem dX10_state_33 : decode cX10_state 33 = .ok (.aload_n 0, 1) := by decide +kernel
theorem dX10_state_34 : decode cX10_state 34 = .ok (.getfield 63, 3) := by decide +kernel
theorem dX10_state_37 : decode cX10_state 37 = .ok (.iload_n 1, 1) := by decide +kernel
theorem dX10_state_38 : decode cX10_state 38 = .ok (.iload_n 2, 1) := by decide +kernel
theorem dX10_state_39 : decode cX10_state 39 = .ok (.invokevirtual 165, 3) := by decide +kernel
theorem dX10_state_42 : decode cX10_state 42 = .ok (.ireturn, 1) := by decide +kernel
theorem dX10_force_0 : decode cX10_force 0 = .ok (.aload_n 0, 1) := by decide +kernel
theorem dX10_force_1 : decode cX10_force 1 = .ok (.iload_n 1, 1) := by decide +kernel
theorem dX10_force_2 : decode cX10_force 2 = .ok (.invokevirtual 123, 3) := by decide +kernel
theorem dX10_force_5 : decode cX10_force 5 = .ok (.ifCond .eq 20, 3) := by decide +kernel
theorem dX10_force_8 : decode cX10_force 8 = .ok (.aload_n 0, 1) := by decide +kernel
theorem dX10_force_9 : decode cX10_force 9 = .ok (.iload_n 2, 1) := by decide +kernel
theorem dX10_force_10 : decode cX10_force 10 = .ok (.invokevirtual 153, 3) := by decide +kernel
theorem dX10_force_13 : decode cX10_force 13 = .ok (.ifCond .eq 12, 3) := by decide +kernel
theorem dX10_force_16 : decode cX10_force 16 = .ok (.iload_n 3, 1) := by decide +kernel
theorem dX10_force_17 : decode cX10_force 17 = .ok (.ifCond .lt 8, 3) := by decide +kernel
theorem dX10_force_20 : decode cX10_force 20 = .ok (.iload_n 3, 1) := by decide +kernel
theorem dX10_force_21 : decode cX10_force 21 = .ok (.iconst 5, 1) := by decide +kernel
theorem dX10_force_22 : decode cX10_force 22 = .ok (.if_icmp .le 6, 3) := by decide +kernel
theorem dX10_force_25 : decode cX10_force 25 = .ok (.bipush (-3), 2) := by decide +kernel
theorem dX10_force_27 : decode cX10_force 27 = .ok (.ireturn, 1) := by decide +kernel
theorem dX10_force_28 : decode cX10_force 28 = .ok (.aload_n 0, 1) := by decide +kernel
theorem dX10_force_29 : decode cX10_force 29 = .ok (.getfield 63, 3) := by decide +kernel
theorem dX10_force_32 : decode cX10_force 32 = .ok (.iload_n 2, 1) := by decide +kernel
theorem dX10_force_33 : decode cX10_force 33 = .ok (.invokevirtual 156, 3) := by decide +kernel
theorem dX10_force_36 : decode cX10_force 36 = .ok (.iload_n 3, 1) := by decide +kernel
theorem dX10_force_37 : decode cX10_force 37 = .ok (.iconst 5, 1) := by decide +kernel
theorem dX10_force_38 : decode cX10_force 38 = .ok (.if_icmp .ne 13, 3) := by decide +kernel
theorem dX10_force_41 : decode cX10_force 41 = .ok (.aload_n 0, 1) := by decide +kernel
theorem dX10_force_42 : decode cX10_force 42 = .ok (.getfield 63, 3) := by decide +kernel
theorem dX10_force_45 : decode cX10_force 45 = .ok (.getfield 168, 3) := by decide +kernel
theorem dX10_force_48 : decode cX10_force 48 = .ok (.iload_n 1, 1) := by decide +kernel
theorem dX10_force_49 : decode cX10_force 49 = .ok (.iaload, 1) := by decide +kernel
theorem dX10_force_50 : decode cX10_force 50 = .ok (.ireturn, 1) := by decide +kernel
theorem dX10_force_51 : decode cX10_force 51 = .ok (.aload_n 0, 1) := by decide +kernel
theorem dX10_force_52 : decode cX10_force 52 = .ok (.getfield 63, 3) := by decide +kernel
theorem dX10_force_55 : decode cX10_force 55 = .ok (.iload_n 1, 1) := by decide +kernel
theorem dX10_force_56 : decode cX10_force 56 = .ok (.invokevirtual 171, 3) := by decide +kernel
theorem dX10_force_59 : decode cX10_force 59 = .ok (.ifCond .ne 6, 3) := by decide +kernel
theorem dX10_force_62 : decode cX10_force 62 = .ok (.bipush (-2), 2) := by decide +kernel
theorem dX10_force_64 : decode cX10_force 64 = .ok (.ireturn, 1) := by decide +kernel
theorem dX10_force_65 : decode cX10_force 65 = .ok (.iload_n 3, 1) := by decide +kernel
theorem dX10_force_66 : decode cX10_force 66 = .ok (.tableswitch 89 0 3 #[30, 40, 69, 79], 30) := by decide +kernel
theorem dX10_force_96 : decode cX10_force 96 = .ok (.aload_n 0, 1) := by decide +kernel
theorem dX10_force_97 : decode cX10_force 97 = .ok (.getfield 63, 3) := by decide +kernel
theorem dX10_force_100 : decode cX10_force 100 = .ok (.getfield 174, 3) := by decide +kernel
theorem dX10_force_103 : decode cX10_force 103 = .ok (.iload_n 1, 1) := by decide +kernel
theorem dX10_force_104 : decode cX10_force 104 = .ok (.iaload, 1) := by decide +kernel
theorem dX10_force_105 : decode cX10_force 105 = .ok (.ireturn, 1) := by decide +kernel
theorem dX10_force_106 : decode cX10_force 106 = .ok (.aload_n 0, 1) := by decide +kernel
theorem dX10_force_107 : decode cX10_force 107 = .ok (.getfield 63, 3) := by decide +kernel
theorem dX10_force_110 : decode cX10_force 110 = .ok (.getfield 177, 3) := by decide +kernel
theorem dX10_force_113 : decode cX10_force 113 = .ok (.iload_n 1, 1) := by decide +kernel
theorem dX10_force_114 : decode cX10_force 114 = .ok (.iaload, 1) := by decide +kernel
theorem dX10_force_115 : decode cX10_force 115 = .ok (.sipush 10000, 3) := by decide +kernel
theorem dX10_force_118 : decode cX10_force 118 = .ok (.if_icmp .ne 7, 3) := by decide +kernel
theorem dX10_force_121 : decode cX10_force 121 = .ok (.iconst (-1), 1) := by decide +kernel
theorem dX10_force_122 : decode cX10_force 122 = .ok (.goto 12, 3) := by decide +kernel
theorem dX10_force_125 : decode cX10_force 125 = .ok (.aload_n 0, 1) := by decide +kernel
theorem dX10_force_126 : decode cX10_force 126 = .ok (.getfield 63, 3) := by decide +kernel
theorem dX10_force_129 : decode cX10_force 129 = .ok (.getfield 177, 3) := by decide +kernel
theorem dX10_force_132 : decode cX10_force 132 = .ok (.iload_n 1, 1) := by decide +kernel
theorem dX10_force_133 : decode cX10_force 133 = .ok (.iaload, 1) := by decide +kernel
theorem dX10_force_134 : decode cX10_force 134 = .ok (.ireturn, 1) := by decide +kernel
theorem dX10_force_135 : decode cX10_force 135 = .ok (.aload_n 0, 1) := by decide +kernel
theorem dX10_force_136 : decode cX10_force 136 = .ok (.getfield 63, 3) := by decide +kernel
theorem dX10_force_139 : decode cX10_force 139 = .ok (.getfield 180, 3) := by decide +kernel
theorem dX10_force_142 : decode cX10_force 142 = .ok (.iload_n 1, 1) := by decide +kernel
theorem dX10_force_143 : decode cX10_force 143 = .ok (.iaload, 1) := by decide +kernel
theorem dX10_force_144 : decode cX10_force 144 = .ok (.ireturn, 1) := by decide +kernel
theorem dX10_force_145 : decode cX10_force 145 = .ok (.aload_n 0, 1) := by decide +kernel
theorem dX10_force_146 : decode cX10_force 146 = .ok (.getfield 63, 3) := by decide +kernel
theorem dX10_force_149 : decode cX10_force 149 = .ok (.getfield 183, 3) := by decide +kernel
theorem dX10_force_152 : decode cX10_force 152 = .ok (.iload_n 1, 1) := by decide +kernel
theorem dX10_force_153 : decode cX10_force 153 = .ok (.iaload, 1) := by decide +kernel
theorem dX10_force_154 : decode cX10_force 154 = .ok (.ireturn, 1) := by decide +kernel
theorem dX10_force_155 : decode cX10_force 155 = .ok (.aload_n 0, 1) := by decide +kernel
theorem dX10_force_156 : decode cX10_force 156 = .ok (.getfield 63, 3) := by decide +kernel
theorem dX10_force_159 : decode cX10_force 159 = .ok (.getfield 186, 3) := by decide +kernel
theorem dX10_force_162 : decode cX10_force 162 = .ok (.iload_n 1, 1) := by decide +kernel
theorem dX10_force_163 : decode cX10_force 163 = .ok (.iaload, 1) := by decide +kernel
theorem dX10_force_164 : decode cX10_force 164 = .ok (.ireturn, 1) := by decide +kernel
theorem dX10_bound_0 : decode cX10_bound 0 = .ok (.aload_n 0, 1) := by decide +kernel
theorem dX10_bound_1 : decode cX10_bound 1 = .ok (.getfield 33, 3) := by decide +kernel
theorem dX10_bound_4 : decode cX10_bound 4 = .ok (.iload_n 1, 1) := by decide +kernel
theorem dX10_bound_5 : decode cX10_bound 5 = .ok (.invokevirtual 127, 3) := by decide +kernel
theorem dX10_bound_8 : decode cX10_bound 8 = .ok (.ifCond .eq 18, 3) := by decide +kernel
theorem dX10_bound_11 : decode cX10_bound 11 = .ok (.iload_n 2, 1) := by decide +kernel
theorem dX10_bound_12 : decode cX10_bound 12 = .ok (.invokestatic 86, 3) := by decide +kernel
theorem dX10_bound_15 : decode cX10_bound 15 = .ok (.ifCond .eq 11, 3) := by decide +kernel
theorem dX10_bound_18 : decode cX10_bound 18 = .ok (.aload_n 0, 1) := by decide +kernel
theorem dX10_bound_19 : decode cX10_bound 19 = .ok (.iload_n 3, 1) := by decide +kernel
theorem dX10_bound_20 : decode cX10_bound 20 = .ok (.invokevirtual 153, 3) := by decide +kernel
theorem dX10_bound_23 : decode cX10_bound 23 = .ok (.ifCond .ne 5, 3) := by decide +kernel
theorem dX10_bound_26 : decode cX10_bound 26 = .ok (.iconst (-1), 1) := by decide +kernel
theorem dX10_bound_27 : decode cX10_bound 27 = .ok (.ireturn, 1) := by decide +kernel
theorem dX10_bound_28 : decode cX10_bound 28 = .ok (.aload_n 0, 1) := by decide +kernel
theorem dX10_bound_29 : decode cX10_bound 29 = .ok (.getfield 63, 3) := by decide +kernel
theorem dX10_bound_32 : decode cX10_bound 32 = .ok (.iload_n 3, 1) := by decide +kernel
theorem dX10_bound_33 : decode cX10_bound 33 = .ok (.invokevirtual 156, 3) := by decide +kernel
theorem dX10_bound_36 : decode cX10_bound 36 = .ok (.iconst 0, 1) := by decide +kernel
theorem dX10_bound_37 : decode cX10_bound 37 = .ok (.istore 4, 2) := by decide +kernel
theorem dX10_bound_39 : decode cX10_bound 39 = .ok (.iload 4, 2) := by decide +kernel
theorem dX10_bound_41 : decode cX10_bound 41 = .ok (.aload_n 0, 1) := by decide +kernel
theorem dX10_bound_42 : decode cX10_bound 42 = .ok (.getfield 40, 3) := by decide +kernel
theorem dX10_bound_45 : decode cX10_bound 45 = .ok (.getfield 189, 3) := by decide +kernel
theorem dX10_bound_48 : decode cX10_bound 48 = .ok (.if_icmp .ge 48, 3) := by decide +kernel
theorem dX10_bound_51 : decode cX10_bound 51 = .ok (.aload_n 0, 1) := by decide +kernel
theorem dX10_bound_52 : decode cX10_bound 52 = .ok (.getfield 40, 3) := by decide +kernel
theorem dX10_bound_55 : decode cX10_bound 55 = .ok (.iload 4, 2) := by decide +kernel
theorem dX10_bound_57 : decode cX10_bound 57 = .ok (.iload_n 1, 1) := by decide +kernel
theorem dX10_bound_58 : decode cX10_bound 58 = .ok (.invokevirtual 130, 3) := by decide +kernel
theorem dX10_bound_61 : decode cX10_bound 61 = .ok (.ifCond .eq 29, 3) := by decide +kernel
theorem dX10_bound_64 : decode cX10_bound 64 = .ok (.aload_n 0, 1) := by decide +kernel
theorem dX10_bound_65 : decode cX10_bound 65 = .ok (.getfield 63, 3) := by decide +kernel
theorem dX10_bound_68 : decode cX10_bound 68 = .ok (.iload 4, 2) := by decide +kernel
theorem dX10_bound_70 : decode cX10_bound 70 = .ok (.iload_n 2, 1) := by decide +kernel
theorem dX10_bound_71 : decode cX10_bound 71 = .ok (.invokevirtual 165, 3) := by decide +kernel
theorem dX10_bound_74 : decode cX10_bound 74 = .ok (.bipush 6, 2) := by decide +kernel
theorem dX10_bound_76 : decode cX10_bound 76 = .ok (.if_icmp .ne 14, 3) := by decide +kernel
theorem dX10_bound_79 : decode cX10_bound 79 = .ok (.aload_n 0, 1) := by decide +kernel
theorem dX10_bound_80 : decode cX10_bound 80 = .ok (.getfield 40, 3) := by decide +kernel
theorem dX10_bound_83 : decode cX10_bound 83 = .ok (.iload 4, 2) := by decide +kernel
theorem dX10_bound_85 : decode cX10_bound 85 = .ok (.iload_n 1, 1) := by decide +kernel
theorem dX10_bound_86 : decode cX10_bound 86 = .ok (.invokevirtual 190, 3) := by decide +kernel
theorem dX10_bound_89 : decode cX10_bound 89 = .ok (.ireturn, 1) := by decide +kernel
theorem dX10_bound_90 : decode cX10_bound 90 = .ok (.iinc 4 1, 3) := by decide +kernel
theorem dX10_bound_93 : decode cX10_bound 93 = .ok (.goto (-54), 3) := by decide +kernel
theorem dX10_bound_96 : decode cX10_bound 96 = .ok (.iconst (-1), 1) := by decide +kernel
theorem dX10_bound_97 : decode cX10_bound 97 = .ok (.ireturn, 1) := by decide +kernel
theorem dX10_goes_0 : decode cX10_goes 0 = .ok (.iload_n 1, 1) := by decide +kernel
theorem dX10_goes_1 : decode cX10_goes 1 = .ok (.ifCond .lt 29, 3) := by decide +kernel
theorem dX10_goes_4 : decode cX10_goes 4 = .ok (.iload_n 1, 1) := by decide +kernel
theorem dX10_goes_5 : decode cX10_goes 5 = .ok (.aload_n 0, 1) := by decide +kernel
theorem dX10_goes_6 : decode cX10_goes 6 = .ok (.getfield 47, 3) := by decide +kernel
theorem dX10_goes_9 : decode cX10_goes 9 = .ok (.getfield 193, 3) := by decide +kernel
theorem dX10_goes_12 : decode cX10_goes 12 = .ok (.if_icmp .ge 18, 3) := by decide +kernel
theorem dX10_goes_15 : decode cX10_goes 15 = .ok (.iload_n 2, 1) := by decide +kernel
theorem dX10_goes_16 : decode cX10_goes 16 = .ok (.invokestatic 86, 3) := by decide +kernel
theorem dX10_goes_19 : decode cX10_goes 19 = .ok (.ifCond .eq 11, 3) := by decide +kernel
theorem dX10_goes_22 : decode cX10_goes 22 = .ok (.aload_n 0, 1) := by decide +kernel
theorem dX10_goes_23 : decode cX10_goes 23 = .ok (.iload_n 3, 1) := by decide +kernel
theorem dX10_goes_24 : decode cX10_goes 24 = .ok (.invokevirtual 153, 3) := by decide +kernel
theorem dX10_goes_27 : decode cX10_goes 27 = .ok (.ifCond .ne 5, 3) := by decide +kernel
theorem dX10_goes_30 : decode cX10_goes 30 = .ok (.iconst (-1), 1) := by decide +kernel
theorem dX10_goes_31 : decode cX10_goes 31 = .ok (.ireturn, 1) := by decide +kernel
theorem dX10_goes_32 : decode cX10_goes 32 = .ok (.aload_n 0, 1) := by decide +kernel
theorem dX10_goes_33 : decode cX10_goes 33 = .ok (.getfield 63, 3) := by decide +kernel
theorem dX10_goes_36 : decode cX10_goes 36 = .ok (.iload_n 3, 1) := by decide +kernel
theorem dX10_goes_37 : decode cX10_goes 37 = .ok (.invokevirtual 156, 3) := by decide +kernel
theorem dX10_goes_40 : decode cX10_goes 40 = .ok (.aload_n 0, 1) := by decide +kernel
theorem dX10_goes_41 : decode cX10_goes 41 = .ok (.iload_n 1, 1) := by decide +kernel
theorem dX10_goes_42 : decode cX10_goes 42 = .ok (.iload_n 2, 1) := by decide +kernel
theorem dX10_goes_43 : decode cX10_goes 43 = .ok (.invokevirtual 194, 3) := by decide +kernel
theorem dX10_goes_46 : decode cX10_goes 46 = .ok (.ireturn, 1) := by decide +kernel
theorem dX10_owes_0 : decode cX10_owes 0 = .ok (.aload_n 0, 1) := by decide +kernel
theorem dX10_owes_1 : decode cX10_owes 1 = .ok (.getfield 33, 3) := by decide +kernel
theorem dX10_owes_4 : decode cX10_owes 4 = .ok (.iload_n 1, 1) := by decide +kernel
theorem dX10_owes_5 : decode cX10_owes 5 = .ok (.invokevirtual 127, 3) := by decide +kernel
theorem dX10_owes_8 : decode cX10_owes 8 = .ok (.ifCond .eq 18, 3) := by decide +kernel
theorem dX10_owes_11 : decode cX10_owes 11 = .ok (.iload_n 2, 1) := by decide +kernel
theorem dX10_owes_12 : decode cX10_owes 12 = .ok (.invokestatic 86, 3) := by decide +kernel
theorem dX10_owes_15 : decode cX10_owes 15 = .ok (.ifCond .eq 11, 3) := by decide +kernel
theorem dX10_owes_18 : decode cX10_owes 18 = .ok (.aload_n 0, 1) := by decide +kernel
theorem dX10_owes_19 : decode cX10_owes 19 = .ok (.iload_n 3, 1) := by decide +kernel
theorem dX10_owes_20 : decode cX10_owes 20 = .ok (.invokevirtual 153, 3) := by decide +kernel
theorem dX10_owes_23 : decode cX10_owes 23 = .ok (.ifCond .ne 5, 3) := by decide +kernel
theorem dX10_owes_26 : decode cX10_owes 26 = .ok (.iconst 0, 1) := by decide +kernel
theorem dX10_owes_27 : decode cX10_owes 27 = .ok (.ireturn, 1) := by decide +kernel
theorem dX10_owes_28 : decode cX10_owes 28 = .ok (.aload_n 0, 1) := by decide +kernel
theorem dX10_owes_29 : decode cX10_owes 29 = .ok (.getfield 63, 3) := by decide +kernel
theorem dX10_owes_32 : decode cX10_owes 32 = .ok (.iload_n 3, 1) := by decide +kernel
theorem dX10_owes_33 : decode cX10_owes 33 = .ok (.invokevirtual 156, 3) := by decide +kernel
theorem dX10_owes_36 : decode cX10_owes 36 = .ok (.iconst 0, 1) := by decide +kernel
theorem dX10_owes_37 : decode cX10_owes 37 = .ok (.istore 4, 2) := by decide +kernel
theorem dX10_owes_39 : decode cX10_owes 39 = .ok (.iconst 0, 1) := by decide +kernel
theorem dX10_owes_40 : decode cX10_owes 40 = .ok (.istore 5, 2) := by decide +kernel
theorem dX10_owes_42 : decode cX10_owes 42 = .ok (.iload 5, 2) := by decide +kernel
theorem dX10_owes_44 : decode cX10_owes 44 = .ok (.aload_n 0, 1) := by decide +kernel
theorem dX10_owes_45 : decode cX10_owes 45 = .ok (.getfield 47, 3) := by decide +kernel
theorem dX10_owes_48 : decode cX10_owes 48 = .ok (.getfield 193, 3) := by decide +kernel
theorem dX10_owes_51 : decode cX10_owes 51 = .ok (.if_icmp .ge 79, 3) := by decide +kernel
theorem dX10_owes_54 : decode cX10_owes 54 = .ok (.aload_n 0, 1) := by decide +kernel
theorem dX10_owes_55 : decode cX10_owes 55 = .ok (.getfield 47, 3) := by decide +kernel
theorem dX10_owes_58 : decode cX10_owes 58 = .ok (.getfield 197, 3) := by decide +kernel
theorem dX10_owes_61 : decode cX10_owes 61 = .ok (.iload 5, 2) := by decide +kernel
theorem dX10_owes_63 : decode cX10_owes 63 = .ok (.iaload, 1) := by decide +kernel
theorem dX10_owes_64 : decode cX10_owes 64 = .ok (.istore 6, 2) := by decide +kernel
theorem dX10_owes_66 : decode cX10_owes 66 = .ok (.aload_n 0, 1) := by decide +kernel
theorem dX10_owes_67 : decode cX10_owes 67 = .ok (.getfield 40, 3) := by decide +kernel
theorem dX10_owes_70 : decode cX10_owes 70 = .ok (.iload 6, 2) := by decide +kernel
theorem dX10_owes_72 : decode cX10_owes 72 = .ok (.iload_n 1, 1) := by decide +kernel
theorem dX10_owes_73 : decode cX10_owes 73 = .ok (.invokevirtual 130, 3) := by decide +kernel
theorem dX10_owes_76 : decode cX10_owes 76 = .ok (.ifCond .eq 48, 3) := by decide +kernel
theorem dX10_owes_79 : decode cX10_owes 79 = .ok (.aload_n 0, 1) := by decide +kernel
theorem dX10_owes_80 : decode cX10_owes 80 = .ok (.iload 5, 2) := by decide +kernel
theorem dX10_owes_82 : decode cX10_owes 82 = .ok (.iload_n 2, 1) := by decide +kernel
theorem dX10_owes_83 : decode cX10_owes 83 = .ok (.invokevirtual 194, 3) := by decide +kernel
theorem dX10_owes_86 : decode cX10_owes 86 = .ok (.istore 7, 2) := by decide +kernel
theorem dX10_owes_88 : decode cX10_owes 88 = .ok (.iload 4, 2) := by decide +kernel
theorem dX10_owes_90 : decode cX10_owes 90 = .ok (.aload_n 0, 1) := by decide +kernel
theorem dX10_owes_91 : decode cX10_owes 91 = .ok (.getfield 40, 3) := by decide +kernel
theorem dX10_owes_94 : decode cX10_owes 94 = .ok (.iload 6, 2) := by decide +kernel
theorem dX10_owes_96 : decode cX10_owes 96 = .ok (.iload_n 1, 1) := by decide +kernel
theorem dX10_owes_97 : decode cX10_owes 97 = .ok (.invokevirtual 200, 3) := by decide +kernel
theorem dX10_owes_100 : decode cX10_owes 100 = .ok (.aload_n 0, 1) := by decide +kernel
theorem dX10_owes_101 : decode cX10_owes 101 = .ok (.getfield 47, 3) := by decide +kernel
theorem dX10_owes_104 : decode cX10_owes 104 = .ok (.getfield 203, 3) := by decide +kernel
theorem dX10_owes_107 : decode cX10_owes 107 = .ok (.iload 5, 2) := by decide +kernel
theorem dX10_owes_109 : decode cX10_owes 109 = .ok (.iaload, 1) := by decide +kernel
theorem dX10_owes_110 : decode cX10_owes 110 = .ok (.if_icmp .ne 9, 3) := by decide +kernel
theorem dX10_owes_113 : decode cX10_owes 113 = .ok (.iload 7, 2) := by decide +kernel
theorem dX10_owes_115 : decode cX10_owes 115 = .ok (.ineg, 1) := by decide +kernel
theorem dX10_owes_116 : decode cX10_owes 116 = .ok (.goto 5, 3) := by decide +kernel
theorem dX10_owes_119 : decode cX10_owes 119 = .ok (.iload 7, 2) := by decide +kernel
theorem dX10_owes_121 : decode cX10_owes 121 = .ok (.iadd, 1) := by decide +kernel
theorem dX10_owes_122 : decode cX10_owes 122 = .ok (.istore 4, 2) := by decide +kernel
theorem dX10_owes_124 : decode cX10_owes 124 = .ok (.iinc 5 1, 3) := by decide +kernel
theorem dX10_owes_127 : decode cX10_owes 127 = .ok (.goto (-85), 3) := by decide +kernel
theorem dX10_owes_130 : decode cX10_owes 130 = .ok (.iload 4, 2) := by decide +kernel
theorem dX10_owes_132 : decode cX10_owes 132 = .ok (.ireturn, 1) := by decide +kernel
theorem dX10_changed_0 : decode cX10_changed 0 = .ok (.iload_n 1, 1) := by decide +kernel
theorem dX10_changed_1 : decode cX10_changed 1 = .ok (.invokestatic 86, 3) := by decide +kernel
theorem dX10_changed_4 : decode cX10_changed 4 = .ok (.ifCond .eq 19, 3) := by decide +kernel
theorem dX10_changed_7 : decode cX10_changed 7 = .ok (.aload_n 0, 1) := by decide +kernel
theorem dX10_changed_8 : decode cX10_changed 8 = .ok (.iload_n 2, 1) := by decide +kernel
theorem dX10_changed_9 : decode cX10_changed 9 = .ok (.invokevirtual 153, 3) := by decide +kernel
theorem dX10_changed_12 : decode cX10_changed 12 = .ok (.ifCond .eq 11, 3) := by decide +kernel
theorem dX10_changed_15 : decode cX10_changed 15 = .ok (.aload_n 0, 1) := by decide +kernel
theorem dX10_changed_16 : decode cX10_changed 16 = .ok (.iload_n 3, 1) := by decide +kernel
theorem dX10_changed_17 : decode cX10_changed 17 = .ok (.invokevirtual 153, 3) := by decide +kernel
theorem dX10_changed_20 : decode cX10_changed 20 = .ok (.ifCond .ne 5, 3) := by decide +kernel
theorem dX10_changed_23 : decode cX10_changed 23 = .ok (.iconst (-1), 1) := by decide +kernel
theorem dX10_changed_24 : decode cX10_changed 24 = .ok (.ireturn, 1) := by decide +kernel
theorem dX10_changed_25 : decode cX10_changed 25 = .ok (.aload_n 0, 1) := by decide +kernel
theorem dX10_changed_26 : decode cX10_changed 26 = .ok (.getfield 63, 3) := by decide +kernel
theorem dX10_changed_29 : decode cX10_changed 29 = .ok (.iload_n 2, 1) := by decide +kernel
theorem dX10_changed_30 : decode cX10_changed 30 = .ok (.invokevirtual 156, 3) := by decide +kernel
theorem dX10_changed_33 : decode cX10_changed 33 = .ok (.iconst 0, 1) := by decide +kernel
theorem dX10_changed_34 : decode cX10_changed 34 = .ok (.istore 4, 2) := by decide +kernel
theorem dX10_changed_36 : decode cX10_changed 36 = .ok (.iload 4, 2) := by decide +kernel
theorem dX10_changed_38 : decode cX10_changed 38 = .ok (.aload_n 0, 1) := by decide +kernel
theorem dX10_changed_39 : decode cX10_changed 39 = .ok (.getfield 40, 3) := by decide +kernel
theorem dX10_changed_42 : decode cX10_changed 42 = .ok (.getfield 189, 3) := by decide +kernel
theorem dX10_changed_45 : decode cX10_changed 45 = .ok (.if_icmp .ge 26, 3) := by decide +kernel
theorem dX10_changed_48 : decode cX10_changed 48 = .ok (.aload_n 0, 1) := by decide +kernel
theorem dX10_changed_49 : decode cX10_changed 49 = .ok (.getfield 67, 3) := by decide +kernel
theorem dX10_changed_52 : decode cX10_changed 52 = .ok (.iload 4, 2) := by decide +kernel
theorem dX10_changed_54 : decode cX10_changed 54 = .ok (.aload_n 0, 1) := by decide +kernel
theorem dX10_changed_55 : decode cX10_changed 55 = .ok (.getfield 63, 3) := by decide +kernel
theorem dX10_changed_58 : decode cX10_changed 58 = .ok (.iload 4, 2) := by decide +kernel
theorem dX10_changed_60 : decode cX10_changed 60 = .ok (.iload_n 1, 1) := by decide +kernel
theorem dX10_changed_61 : decode cX10_changed 61 = .ok (.invokevirtual 165, 3) := by decide +kernel
theorem dX10_changed_64 : decode cX10_changed 64 = .ok (.iastore, 1) := by decide +kernel
theorem dX10_changed_65 : decode cX10_changed 65 = .ok (.iinc 4 1, 3) := by decide +kernel
theorem dX10_changed_68 : decode cX10_changed 68 = .ok (.goto (-32), 3) := by decide +kernel
theorem dX10_changed_71 : decode cX10_changed 71 = .ok (.aload_n 0, 1) := by decide +kernel
theorem dX10_changed_72 : decode cX10_changed 72 = .ok (.getfield 63, 3) := by decide +kernel
theorem dX10_changed_75 : decode cX10_changed 75 = .ok (.iload_n 3, 1) := by decide +kernel
theorem dX10_changed_76 : decode cX10_changed 76 = .ok (.invokevirtual 156, 3) := by decide +kernel
theorem dX10_changed_79 : decode cX10_changed 79 = .ok (.iconst 0, 1) := by decide +kernel
theorem dX10_changed_80 : decode cX10_changed 80 = .ok (.istore 4, 2) := by decide +kernel
theorem dX10_changed_82 : decode cX10_changed 82 = .ok (.iload 4, 2) := by decide +kernel
theorem dX10_changed_84 : decode cX10_changed 84 = .ok (.aload_n 0, 1) := by decide +kernel
theorem dX10_changed_85 : decode cX10_changed 85 = .ok (.getfield 40, 3) := by decide +kernel
theorem dX10_changed_88 : decode cX10_changed 88 = .ok (.getfield 189, 3) := by decide +kernel
theorem dX10_changed_91 : decode cX10_changed 91 = .ok (.if_icmp .ge 32, 3) := by decide +kernel
theorem dX10_changed_94 : decode cX10_changed 94 = .ok (.aload_n 0, 1) := by decide +kernel
theorem dX10_changed_95 : decode cX10_changed 95 = .ok (.getfield 63, 3) := by decide +kernel
theorem dX10_changed_98 : decode cX10_changed 98 = .ok (.iload 4, 2) := by decide +kernel
theorem dX10_changed_100 : decode cX10_changed 100 = .ok (.iload_n 1, 1) := by decide +kernel
theorem dX10_changed_101 : decode cX10_changed 101 = .ok (.invokevirtual 165, 3) := by decide +kernel
theorem dX10_changed_104 : decode cX10_changed 104 = .ok (.aload_n 0, 1) := by decide +kernel
theorem dX10_changed_105 : decode cX10_changed 105 = .ok (.getfield 67, 3) := by decide +kernel
theorem dX10_changed_108 : decode cX10_changed 108 = .ok (.iload 4, 2) := by decide +kernel
theorem dX10_changed_110 : decode cX10_changed 110 = .ok (.iaload, 1) := by decide +kernel
theorem dX10_changed_111 : decode cX10_changed 111 = .ok (.if_icmp .eq 6, 3) := by decide +kernel
theorem dX10_changed_114 : decode cX10_changed 114 = .ok (.iload 4, 2) := by decide +kernel
theorem dX10_changed_116 : decode cX10_changed 116 = .ok (.ireturn, 1) := by decide +kernel
theorem dX10_changed_117 : decode cX10_changed 117 = .ok (.iinc 4 1, 3) := by decide +kernel
theorem dX10_changed_120 : decode cX10_changed 120 = .ok (.goto (-38), 3) := by decide +kernel
theorem dX10_changed_123 : decode cX10_changed 123 = .ok (.iconst (-1), 1) := by decide +kernel
theorem dX10_changed_124 : decode cX10_changed 124 = .ok (.ireturn, 1) := by decide +kernel
theorem dX10_count_0 : decode cX10_count 0 = .ok (.iload_n 1, 1) := by decide +kernel
theorem dX10_count_1 : decode cX10_count 1 = .ok (.tableswitch 87 0 5 #[39, 47, 55, 63, 71, 79], 39) := by decide +kernel
theorem dX10_count_40 : decode cX10_count 40 = .ok (.aload_n 0, 1) := by decide +kernel
theorem dX10_count_41 : decode cX10_count 41 = .ok (.getfield 33, 3) := by decide +kernel
theorem dX10_count_44 : decode cX10_count 44 = .ok (.getfield 206, 3) := by decide +kernel
theorem dX10_count_47 : decode cX10_count 47 = .ok (.ireturn, 1) := by decide +kernel
theorem dX10_count_48 : decode cX10_count 48 = .ok (.aload_n 0, 1) := by decide +kernel
theorem dX10_count_49 : decode cX10_count 49 = .ok (.getfield 40, 3) := by decide +kernel
theorem dX10_count_52 : decode cX10_count 52 = .ok (.getfield 189, 3) := by decide +kernel
theorem dX10_count_55 : decode cX10_count 55 = .ok (.ireturn, 1) := by decide +kernel
theorem dX10_count_56 : decode cX10_count 56 = .ok (.aload_n 0, 1) := by decide +kernel
theorem dX10_count_57 : decode cX10_count 57 = .ok (.getfield 47, 3) := by decide +kernel
theorem dX10_count_60 : decode cX10_count 60 = .ok (.getfield 193, 3) := by decide +kernel
theorem dX10_count_63 : decode cX10_count 63 = .ok (.ireturn, 1) := by decide +kernel
theorem dX10_count_64 : decode cX10_count 64 = .ok (.aload_n 0, 1) := by decide +kernel
theorem dX10_count_65 : decode cX10_count 65 = .ok (.getfield 54, 3) := by decide +kernel
theorem dX10_count_68 : decode cX10_count 68 = .ok (.getfield 207, 3) := by decide +kernel
theorem dX10_count_71 : decode cX10_count 71 = .ok (.ireturn, 1) := by decide +kernel
theorem dX10_count_72 : decode cX10_count 72 = .ok (.aload_n 0, 1) := by decide +kernel
theorem dX10_count_73 : decode cX10_count 73 = .ok (.getfield 26, 3) := by decide +kernel
theorem dX10_count_76 : decode cX10_count 76 = .ok (.getfield 89, 3) := by decide +kernel
theorem dX10_count_79 : decode cX10_count 79 = .ok (.ireturn, 1) := by decide +kernel
theorem dX10_count_80 : decode cX10_count 80 = .ok (.aload_n 0, 1) := by decide +kernel
theorem dX10_count_81 : decode cX10_count 81 = .ok (.getfield 12, 3) := by decide +kernel
theorem dX10_count_84 : decode cX10_count 84 = .ok (.getfield 75, 3) := by decide +kernel
theorem dX10_count_87 : decode cX10_count 87 = .ok (.ireturn, 1) := by decide +kernel
theorem dX10_count_88 : decode cX10_count 88 = .ok (.iconst (-1), 1) := by decide +kernel
theorem dX10_count_89 : decode cX10_count 89 = .ok (.ireturn, 1) := by decide +kernel
theorem dX10_goingBack_0 : decode cX10_goingBack 0 = .ok (.aload_n 0, 1) := by decide +kernel
theorem dX10_goingBack_1 : decode cX10_goingBack 1 = .ok (.getfield 63, 3) := by decide +kernel
theorem dX10_goingBack_4 : decode cX10_goingBack 4 = .ok (.aload_n 0, 1) := by decide +kernel
theorem dX10_goingBack_5 : decode cX10_goingBack 5 = .ok (.getfield 47, 3) := by decide +kernel
theorem dX10_goingBack_8 : decode cX10_goingBack 8 = .ok (.getfield 197, 3) := by decide +kernel
theorem dX10_goingBack_11 : decode cX10_goingBack 11 = .ok (.iload_n 1, 1) := by decide +kernel
theorem dX10_goingBack_12 : decode cX10_goingBack 12 = .ok (.iaload, 1) := by decide +kernel
theorem dX10_goingBack_13 : decode cX10_goingBack 13 = .ok (.aload_n 0, 1) := by decide +kernel
theorem dX10_goingBack_14 : decode cX10_goingBack 14 = .ok (.getfield 47, 3) := by decide +kernel
theorem dX10_goingBack_17 : decode cX10_goingBack 17 = .ok (.getfield 203, 3) := by decide +kernel
theorem dX10_goingBack_20 : decode cX10_goingBack 20 = .ok (.iload_n 1, 1) := by decide +kernel
theorem dX10_goingBack_21 : decode cX10_goingBack 21 = .ok (.iaload, 1) := by decide +kernel
theorem dX10_goingBack_22 : decode cX10_goingBack 22 = .ok (.iload_n 2, 1) := by decide +kernel
theorem dX10_goingBack_23 : decode cX10_goingBack 23 = .ok (.invokevirtual 208, 3) := by decide +kernel
theorem dX10_goingBack_26 : decode cX10_goingBack 26 = .ok (.istore_n 3, 1) := by decide +kernel
theorem dX10_goingBack_27 : decode cX10_goingBack 27 = .ok (.aload_n 0, 1) := by decide +kernel
theorem dX10_goingBack_28 : decode cX10_goingBack 28 = .ok (.getfield 47, 3) := by decide +kernel
theorem dX10_goingBack_31 : decode cX10_goingBack 31 = .ok (.getfield 211, 3) := by decide +kernel
theorem dX10_goingBack_34 : decode cX10_goingBack 34 = .ok (.iload_n 1, 1) := by decide +kernel
theorem dX10_goingBack_35 : decode cX10_goingBack 35 = .ok (.iaload, 1) := by decide +kernel
theorem dX10_goingBack_36 : decode cX10_goingBack 36 = .ok (.iload_n 3, 1) := by decide +kernel
theorem dX10_goingBack_37 : decode cX10_goingBack 37 = .ok (.imul, 1) := by decide +kernel
theorem dX10_goingBack_38 : decode cX10_goingBack 38 = .ok (.bipush 100, 2) := by decide +kernel
theorem dX10_goingBack_40 : decode cX10_goingBack 40 = .ok (.idiv, 1) := by decide +kernel
theorem dX10_goingBack_41 : decode cX10_goingBack 41 = .ok (.ireturn, 1) := by decide +kernel
theorem dX10_areTwoPersons_0 : decode cX10_areTwoPersons 0 = .ok (.aload_n 0, 1) := by decide +kernel
theorem dX10_areTwoPersons_1 : decode cX10_areTwoPersons 1 = .ok (.getfield 33, 3) := by decide +kernel
theorem dX10_areTwoPersons_4 : decode cX10_areTwoPersons 4 = .ok (.iload_n 1, 1) := by decide +kernel
theorem dX10_areTwoPersons_5 : decode cX10_areTwoPersons 5 = .ok (.invokevirtual 127, 3) := by decide +kernel
theorem dX10_areTwoPersons_8 : decode cX10_areTwoPersons 8 = .ok (.ifCond .eq 23, 3) := by decide +kernel
theorem dX10_areTwoPersons_11 : decode cX10_areTwoPersons 11 = .ok (.aload_n 0, 1) := by decide +kernel
theorem dX10_areTwoPersons_12 : decode cX10_areTwoPersons 12 = .ok (.getfield 33, 3) := by decide +kernel
theorem dX10_areTwoPersons_15 : decode cX10_areTwoPersons 15 = .ok (.iload_n 2, 1) := by decide +kernel
theorem dX10_areTwoPersons_16 : decode cX10_areTwoPersons 16 = .ok (.invokevirtual 127, 3) := by decide +kernel
theorem dX10_areTwoPersons_19 : decode cX10_areTwoPersons 19 = .ok (.ifCond .eq 12, 3) := by decide +kernel
theorem dX10_areTwoPersons_22 : decode cX10_areTwoPersons 22 = .ok (.iload_n 1, 1) := by decide +kernel
theorem dX10_areTwoPersons_23 : decode cX10_areTwoPersons 23 = .ok (.iload_n 2, 1) := by decide +kernel
theorem dX10_areTwoPersons_24 : decode cX10_areTwoPersons 24 = .ok (.if_icmp .eq 7, 3) := by decide +kernel
theorem dX10_areTwoPersons_27 : decode cX10_areTwoPersons 27 = .ok (.iconst 1, 1) := by decide +kernel
theorem dX10_areTwoPersons_28 : decode cX10_areTwoPersons 28 = .ok (.goto 4, 3) := by decide +kernel
theorem dX10_areTwoPersons_31 : decode cX10_areTwoPersons 31 = .ok (.iconst 0, 1) := by decide +kernel
theorem dX10_areTwoPersons_32 : decode cX10_areTwoPersons 32 = .ok (.ireturn, 1) := by decide +kernel
theorem dX10_isPromise_0 : decode cX10_isPromise 0 = .ok (.iload_n 1, 1) := by decide +kernel
theorem dX10_isPromise_1 : decode cX10_isPromise 1 = .ok (.ifCond .lt 18, 3) := by decide +kernel
theorem dX10_isPromise_4 : decode cX10_isPromise 4 = .ok (.iload_n 1, 1) := by decide +kernel
theorem dX10_isPromise_5 : decode cX10_isPromise 5 = .ok (.aload_n 0, 1) := by decide +kernel
theorem dX10_isPromise_6 : decode cX10_isPromise 6 = .ok (.getfield 40, 3) := by decide +kernel
theorem dX10_isPromise_9 : decode cX10_isPromise 9 = .ok (.getfield 189, 3) := by decide +kernel
theorem dX10_isPromise_12 : decode cX10_isPromise 12 = .ok (.if_icmp .ge 7, 3) := by decide +kernel
theorem dX10_isPromise_15 : decode cX10_isPromise 15 = .ok (.iconst 1, 1) := by decide +kernel
theorem dX10_isPromise_16 : decode cX10_isPromise 16 = .ok (.goto 4, 3) := by decide +kernel
theorem dX10_isPromise_19 : decode cX10_isPromise 19 = .ok (.iconst 0, 1) := by decide +kernel
theorem dX10_isPromise_20 : decode cX10_isPromise 20 = .ok (.ireturn, 1) := by decide +kernel
theorem dX10_isKnown_0 : decode cX10_isKnown 0 = .ok (.iload_n 1, 1) := by decide +kernel
theorem dX10_isKnown_1 : decode cX10_isKnown 1 = .ok (.ifCond .lt 18, 3) := by decide +kernel
theorem dX10_isKnown_4 : decode cX10_isKnown 4 = .ok (.iload_n 1, 1) := by decide +kernel
theorem dX10_isKnown_5 : decode cX10_isKnown 5 = .ok (.aload_n 0, 1) := by decide +kernel
theorem dX10_isKnown_6 : decode cX10_isKnown 6 = .ok (.getfield 54, 3) := by decide +kernel
theorem dX10_isKnown_9 : decode cX10_isKnown 9 = .ok (.getfield 207, 3) := by decide +kernel
theorem dX10_isKnown_12 : decode cX10_isKnown 12 = .ok (.if_icmp .gt 7, 3) := by decide +kernel
theorem dX10_isKnown_15 : decode cX10_isKnown 15 = .ok (.iconst 1, 1) := by decide +kernel
theorem dX10_isKnown_16 : decode cX10_isKnown 16 = .ok (.goto 4, 3) := by decide +kernel
theorem dX10_isKnown_19 : decode cX10_isKnown 19 = .ok (.iconst 0, 1) := by decide +kernel
theorem dX10_isKnown_20 : decode cX10_isKnown 20 = .ok (.ireturn, 1) := by decide +kernel
theorem dX10_isPlace_0 : decode cX10_isPlace 0 = .ok (.iload_n 0, 1) := by decide +kernel
theorem dX10_isPlace_1 : decode cX10_isPlace 1 = .ok (.ifCond .lt 12, 3) := by decide +kernel
theorem dX10_isPlace_4 : decode cX10_isPlace 4 = .ok (.iload_n 0, 1) := by decide +kernel
theorem dX10_isPlace_5 : decode cX10_isPlace 5 = .ok (.iconst 4, 1) := by decide +kernel
theorem dX10_isPlace_6 : decode cX10_isPlace 6 = .ok (.if_icmp .ge 7, 3) := by decide +kernel
theorem dX10_isPlace_9 : decode cX10_isPlace 9 = .ok (.iconst 1, 1) := by decide +kernel
theorem dX10_isPlace_10 : decode cX10_isPlace 10 = .ok (.goto 4, 3) := by decide +kernel
theorem dX10_isPlace_13 : decode cX10_isPlace 13 = .ok (.iconst 0, 1) := by decide +kernel
theorem dX10_isPlace_14 : decode cX10_isPlace 14 = .ok (.ireturn, 1) := by decide +kernel
theorem dX10_isDay_0 : decode cX10_isDay 0 = .ok (.iload_n 0, 1) := by decide +kernel
theorem dX10_isDay_1 : decode cX10_isDay 1 = .ok (.ifCond .lt 14, 3) := by decide +kernel
theorem dX10_isDay_4 : decode cX10_isDay 4 = .ok (.iload_n 0, 1) := by decide +kernel
theorem dX10_isDay_5 : decode cX10_isDay 5 = .ok (.sipush 9999, 3) := by decide +kernel
theorem dX10_isDay_8 : decode cX10_isDay 8 = .ok (.if_icmp .gt 7, 3) := by decide +kernel
theorem dX10_isDay_11 : decode cX10_isDay 11 = .ok (.iconst 1, 1) := by decide +kernel
theorem dX10_isDay_12 : decode cX10_isDay 12 = .ok (.goto 4, 3) := by decide +kernel
theorem dX10_isDay_15 : decode cX10_isDay 15 = .ok (.iconst 0, 1) := by decide +kernel
theorem dX10_isDay_16 : decode cX10_isDay 16 = .ok (.ireturn, 1) := by decide +kernel
theorem dX10_isCondition_0 : decode cX10_isCondition 0 = .ok (.iload_n 0, 1) := by decide +kernel
theorem dX10_isCondition_1 : decode cX10_isCondition 1 = .ok (.ifCond .lt 13, 3) := by decide +kernel
theorem dX10_isCondition_4 : decode cX10_isCondition 4 = .ok (.iload_n 0, 1) := by decide +kernel
theorem dX10_isCondition_5 : decode cX10_isCondition 5 = .ok (.bipush 6, 2) := by decide +kernel
theorem dX10_isCondition_7 : decode cX10_isCondition 7 = .ok (.if_icmp .ge 7, 3) := by decide +kernel
theorem dX10_isCondition_10 : decode cX10_isCondition 10 = .ok (.iconst 1, 1) := by decide +kernel
theorem dX10_isCondition_11 : decode cX10_isCondition 11 = .ok (.goto 4, 3) := by decide +kernel
theorem dX10_isCondition_14 : decode cX10_isCondition 14 = .ok (.iconst 0, 1) := by decide +kernel
theorem dX10_isCondition_15 : decode cX10_isCondition 15 = .ok (.ireturn, 1) := by decide +kernel
theorem dX10_isInt_0 : decode cX10_isInt 0 = .ok (.iload_n 0, 1) := by decide +kernel
theorem dX10_isInt_1 : decode cX10_isInt 1 = .ok (.ifCond .lt 14, 3) := by decide +kernel
theorem dX10_isInt_4 : decode cX10_isInt 4 = .ok (.iload_n 0, 1) := by decide +kernel
theorem dX10_isInt_5 : decode cX10_isInt 5 = .ok (.sipush 10000, 3) := by decide +kernel
theorem dX10_isInt_8 : decode cX10_isInt 8 = .ok (.if_icmp .ge 7, 3) := by decide +kernel
theorem dX10_isInt_11 : decode cX10_isInt 11 = .ok (.iconst 1, 1) := by decide +kernel
theorem dX10_isInt_12 : decode cX10_isInt 12 = .ok (.goto 4, 3) := by decide +kernel
theorem dX10_isInt_15 : decode cX10_isInt 15 = .ok (.iconst 0, 1) := by decide +kernel
theorem dX10_isInt_16 : decode cX10_isInt 16 = .ok (.ireturn, 1) := by decide +kernel
theorem dX10_isVar_0 : decode cX10_isVar 0 = .ok (.iload_n 0, 1) := by decide +kernel
theorem dX10_isVar_1 : decode cX10_isVar 1 = .ok (.sipush 10008, 3) := by decide +kernel
theorem dX10_isVar_4 : decode cX10_isVar 4 = .ok (.if_icmp .lt 14, 3) := by decide +kernel
theorem dX10_isVar_7 : decode cX10_isVar 7 = .ok (.iload_n 0, 1) := by decide +kernel
theorem dX10_isVar_8 : decode cX10_isVar 8 = .ok (.sipush 10020, 3) := by decide +kernel
theorem dX10_isVar_11 : decode cX10_isVar 11 = .ok (.if_icmp .ge 7, 3) := by decide +kernel
theorem dX10_isVar_14 : decode cX10_isVar 14 = .ok (.iconst 1, 1) := by decide +kernel
theorem dX10_isVar_15 : decode cX10_isVar 15 = .ok (.goto 4, 3) := by decide +kernel
theorem dX10_isVar_18 : decode cX10_isVar 18 = .ok (.iconst 0, 1) := by decide +kernel
theorem dX10_isVar_19 : decode cX10_isVar 19 = .ok (.ireturn, 1) := by decide +kernel
end
section
theorem dX11_init_0 : decode cX11_init 0 = .ok (.aload_n 0, 1) := by decide +kernel
theorem dX11_init_1 : decode cX11_init 1 = .ok (.invokespecial 7, 3) := by decide +kernel
theorem dX11_init_4 : decode cX11_init 4 = .ok (.aload_n 0, 1) := by decide +kernel
theorem dX11_init_5 : decode cX11_init 5 = .ok (.sipush 2000, 3) := by decide +kernel
theorem dX11_init_8 : decode cX11_init 8 = .ok (.newarray .byte, 2) := by decide +kernel
theorem dX11_init_10 : decode cX11_init 10 = .ok (.putfield 13, 3) := by decide +kernel
theorem dX11_init_13 : decode cX11_init 13 = .ok (.aload_n 0, 1) := by decide +kernel
theorem dX11_init_14 : decode cX11_init 14 = .ok (.sipush 2000, 3) := by decide +kernel
theorem dX11_init_17 : decode cX11_init 17 = .ok (.newarray .byte, 2) := by decide +kernel
theorem dX11_init_19 : decode cX11_init 19 = .ok (.putfield 17, 3) := by decide +kernel
theorem dX11_init_22 : decode cX11_init 22 = .ok (.aload_n 0, 1) := by decide +kernel
theorem dX11_init_23 : decode cX11_init 23 = .ok (.sipush 403, 3) := by decide +kernel
theorem dX11_init_26 : decode cX11_init 26 = .ok (.newarray .int, 2) := by decide +kernel
theorem dX11_init_28 : decode cX11_init 28 = .ok (.putfield 20, 3) := by decide +kernel
theorem dX11_init_31 : decode cX11_init 31 = .ok (.aload_n 0, 1) := by decide +kernel
theorem dX11_init_32 : decode cX11_init 32 = .ok (.sipush 403, 3) := by decide +kernel
theorem dX11_init_35 : decode cX11_init 35 = .ok (.newarray .int, 2) := by decide +kernel
theorem dX11_init_37 : decode cX11_init 37 = .ok (.putfield 24, 3) := by decide +kernel
theorem dX11_init_40 : decode cX11_init 40 = .ok (.aload_n 0, 1) := by decide +kernel
theorem dX11_init_41 : decode cX11_init 41 = .ok (.sipush 403, 3) := by decide +kernel
theorem dX11_init_44 : decode cX11_init 44 = .ok (.newarray .int, 2) := by decide +kernel
theorem dX11_init_46 : decode cX11_init 46 = .ok (.putfield 27, 3) := by decide +kernel
theorem dX11_init_49 : decode cX11_init 49 = .ok (.aload_n 0, 1) := by decide +kernel
theorem dX11_init_50 : decode cX11_init 50 = .ok (.sipush 403, 3) := by decide +kernel
theorem dX11_init_53 : decode cX11_init 53 = .ok (.newarray .long, 2) := by decide +kernel
theorem dX11_init_55 : decode cX11_init 55 = .ok (.putfield 30, 3) := by decide +kernel
theorem dX11_init_58 : decode cX11_init 58 = .ok (.aload_n 0, 1) := by decide +kernel
theorem dX11_init_59 : decode cX11_init 59 = .ok (.bipush 20, 2) := by decide +kernel
theorem dX11_init_61 : decode cX11_init 61 = .ok (.newarray .long, 2) := by decide +kernel
theorem dX11_init_63 : decode cX11_init 63 = .ok (.putfield 34, 3) := by decide +kernel
theorem dX11_init_66 : decode cX11_init 66 = .ok (.aload_n 0, 1) := by decide +kernel
theorem dX11_init_67 : decode cX11_init 67 = .ok (.iconst (-1), 1) := by decide +kernel
theorem dX11_init_68 : decode cX11_init 68 = .ok (.putfield 37, 3) := by decide +kernel
theorem dX11_init_71 : decode cX11_init 71 = .ok (.aload_n 0, 1) := by decide +kernel
theorem dX11_init_72 : decode cX11_init 72 = .ok (.bipush 9, 2) := by decide +kernel
theorem dX11_init_74 : decode cX11_init 74 = .ok (.newarray .int, 2) := by decide +kernel
theorem dX11_init_76 : decode cX11_init 76 = .ok (.putfield 40, 3) := by decide +kernel
theorem dX11_init_79 : decode cX11_init 79 = .ok (.aload_n 0, 1) := by decide +kernel
theorem dX11_init_80 : decode cX11_init 80 = .ok (.bipush 9, 2) := by decide +kernel
theorem dX11_init_82 : decode cX11_init 82 = .ok (.newarray .int, 2) := by decide +kernel
theorem dX11_init_84 : decode cX11_init 84 = .ok (.putfield 43, 3) := by decide +kernel
theorem dX11_init_87 : decode cX11_init 87 = .ok (.aload_n 0, 1) := by decide +kernel
theorem dX11_init_88 : decode cX11_init 88 = .ok (.bipush 9, 2) := by decide +kernel
theorem dX11_init_90 : decode cX11_init 90 = .ok (.newarray .int, 2) := by decide +kernel
theorem dX11_init_92 : decode cX11_init 92 = .ok (.putfield 46, 3) := by decide +kernel
theorem dX11_init_95 : decode cX11_init 95 = .ok (.aload_n 0, 1) := by decide +kernel
theorem dX11_init_96 : decode cX11_init 96 = .ok (.sipush 144, 3) := by decide +kernel
theorem dX11_init_99 : decode cX11_init 99 = .ok (.newarray .int, 2) := by decide +kernel
theorem dX11_init_101 : decode cX11_init 101 = .ok (.putfield 49, 3) := by decide +kernel
theorem dX11_init_104 : decode cX11_init 104 = .ok (.aload_n 0, 1) := by decide +kernel
theorem dX11_init_105 : decode cX11_init 105 = .ok (.sipush 144, 3) := by decide +kernel
theorem dX11_init_108 : decode cX11_init 108 = .ok (.newarray .int, 2) := by decide +kernel
theorem dX11_init_110 : decode cX11_init 110 = .ok (.putfield 52, 3) := by decide +kernel
theorem dX11_init_113 : decode cX11_init 113 = .ok (.aload_n 0, 1) := by decide +kernel
theorem dX11_init_114 : decode cX11_init 114 = .ok (.sipush 144, 3) := by decide +kernel
theorem dX11_init_117 : decode cX11_init 117 = .ok (.newarray .int, 2) := by decide +kernel
theorem dX11_init_119 : decode cX11_init 119 = .ok (.putfield 55, 3) := by decide +kernel
theorem dX11_init_122 : decode cX11_init 122 = .ok (.aload_n 0, 1) := by decide +kernel
theorem dX11_init_123 : decode cX11_init 123 = .ok (.sipush 144, 3) := by decide +kernel
theorem dX11_init_126 : decode cX11_init 126 = .ok (.newarray .int, 2) := by decide +kernel
theorem dX11_init_128 : decode cX11_init 128 = .ok (.putfield 58, 3) := by decide +kernel
theorem dX11_init_131 : decode cX11_init 131 = .ok (.aload_n 0, 1) := by decide +kernel
theorem dX11_init_132 : decode cX11_init 132 = .ok (.sipush 144, 3) := by decide +kernel
theorem dX11_init_135 : decode cX11_init 135 = .ok (.newarray .int, 2) := by decide +kernel
theorem dX11_init_137 : decode cX11_init 137 = .ok (.putfield 61, 3) := by decide +kernel
theorem dX11_init_140 : decode cX11_init 140 = .ok (.aload_n 0, 1) := by decide +kernel
theorem dX11_init_141 : decode cX11_init 141 = .ok (.sipush 144, 3) := by decide +kernel
theorem dX11_init_144 : decode cX11_init 144 = .ok (.newarray .int, 2) := by decide +kernel
theorem dX11_init_146 : decode cX11_init 146 = .ok (.putfield 64, 3) := by decide +kernel
theorem dX11_init_149 : decode cX11_init 149 = .ok (.aload_n 0, 1) := by decide +kernel
theorem dX11_init_150 : decode cX11_init 150 = .ok (.bipush 9, 2) := by decide +kernel
theorem dX11_init_152 : decode cX11_init 152 = .ok (.newarray .int, 2) := by decide +kernel
theorem dX11_init_154 : decode cX11_init 154 = .ok (.putfield 67, 3) := by decide +kernel
theorem dX11_init_157 : decode cX11_init 157 = .ok (.aload_n 0, 1) := by decide +kernel
theorem dX11_init_158 : decode cX11_init 158 = .ok (.sipush 1800, 3) := by decide +kernel
theorem dX11_init_161 : decode cX11_init 161 = .ok (.newarray .int, 2) := by decide +kernel
theorem dX11_init_163 : decode cX11_init 163 = .ok (.putfield 70, 3) := by decide +kernel
theorem dX11_init_166 : decode cX11_init 166 = .ok (.aload_n 0, 1) := by decide +kernel
theorem dX11_init_167 : decode cX11_init 167 = .ok (.sipush 1800, 3) := by decide +kernel
theorem dX11_init_170 : decode cX11_init 170 = .ok (.newarray .int, 2) := by decide +kernel
theorem dX11_init_172 : decode cX11_init 172 = .ok (.putfield 73, 3) := by decide +kernel
theorem dX11_init_175 : decode cX11_init 175 = .ok (.aload_n 0, 1) := by decide +kernel
theorem dX11_init_176 : decode cX11_init 176 = .ok (.sipush 1800, 3) := by decide +kernel
theorem dX11_init_179 : decode cX11_init 179 = .ok (.newarray .int, 2) := by decide +kernel
theorem dX11_init_181 : decode cX11_init 181 = .ok (.putfield 76, 3) := by decide +kernel
theorem dX11_init_184 : decode cX11_init 184 = .ok (.aload_n 0, 1) := by decide +kernel
theorem dX11_init_185 : decode cX11_init 185 = .ok (.sipush 1800, 3) := by decide +kernel
theorem dX11_init_188 : decode cX11_init 188 = .ok (.newarray .int, 2) := by decide +kernel
theorem dX11_init_190 : decode cX11_init 190 = .ok (.putfield 79, 3) := by decide +kernel
theorem dX11_init_193 : decode cX11_init 193 = .ok (.aload_n 0, 1) := by decide +kernel
theorem dX11_init_194 : decode cX11_init 194 = .ok (.sipush 1800, 3) := by decide +kernel
theorem dX11_init_197 : decode cX11_init 197 = .ok (.newarray .boolean, 2) := by decide +kernel
theorem dX11_init_199 : decode cX11_init 199 = .ok (.putfield 82, 3) := by decide +kernel
theorem dX11_init_202 : decode cX11_init 202 = .ok (.aload_n 0, 1) := by decide +kernel
theorem dX11_init_203 : decode cX11_init 203 = .ok (.sipush 4500, 3) := by decide +kernel
theorem dX11_init_206 : decode cX11_init 206 = .ok (.newarray .int, 2) := by decide +kernel
theorem dX11_init_208 : decode cX11_init 208 = .ok (.putfield 86, 3) := by decide +kernel
theorem dX11_init_211 : decode cX11_init 211 = .ok (.aload_n 0, 1) := by decide +kernel
theorem dX11_init_212 : decode cX11_init 212 = .ok (.sipush 4500, 3) := by decide +kernel
theorem dX11_init_215 : decode cX11_init 215 = .ok (.newarray .int, 2) := by decide +kernel
theorem dX11_init_217 : decode cX11_init 217 = .ok (.putfield 89, 3) := by decide +kernel
theorem dX11_init_220 : decode cX11_init 220 = .ok (.aload_n 0, 1) := by decide +kernel
theorem dX11_init_221 : decode cX11_init 221 = .ok (.bipush 48, 2) := by decide +kernel
theorem dX11_init_223 : decode cX11_init 223 = .ok (.newarray .int, 2) := by decide +kernel
theorem dX11_init_225 : decode cX11_init 225 = .ok (.putfield 92, 3) := by decide +kernel
theorem dX11_init_228 : decode cX11_init 228 = .ok (.aload_n 0, 1) := by decide +kernel
theorem dX11_init_229 : decode cX11_init 229 = .ok (.bipush 12, 2) := by decide +kernel
theorem dX11_init_231 : decode cX11_init 231 = .ok (.newarray .int, 2) := by decide +kernel
theorem dX11_init_233 : decode cX11_init 233 = .ok (.putfield 95, 3) := by decide +kernel
theorem dX11_init_236 : decode cX11_init 236 = .ok (.aload_n 0, 1) := by decide +kernel
theorem dX11_init_237 : decode cX11_init 237 = .ok (.bipush 12, 2) := by decide +kernel
theorem dX11_init_239 : decode cX11_init 239 = .ok (.newarray .int, 2) := by decide +kernel
theorem dX11_init_241 : decode cX11_init 241 = .ok (.putfield 98, 3) := by decide +kernel
theorem dX11_init_244 : decode cX11_init 244 = .ok (.aload_n 0, 1) := by decide +kernel
theorem dX11_init_245 : decode cX11_init 245 = .ok (.bipush 12, 2) := by decide +kernel
theorem dX11_init_247 : decode cX11_init 247 = .ok (.newarray .int, 2) := by decide +kernel
theorem dX11_init_249 : decode cX11_init 249 = .ok (.putfield 101, 3) := by decide +kernel
theorem dX11_init_252 : decode cX11_init 252 = .ok (.aload_n 0, 1) := by decide +kernel
theorem dX11_init_253 : decode cX11_init 253 = .ok (.sipush 144, 3) := by decide +kernel
theorem dX11_init_256 : decode cX11_init 256 = .ok (.newarray .int, 2) := by decide +kernel
theorem dX11_init_258 : decode cX11_init 258 = .ok (.putfield 104, 3) := by decide +kernel
theorem dX11_init_261 : decode cX11_init 261 = .ok (.aload_n 0, 1) := by decide +kernel
theorem dX11_init_262 : decode cX11_init 262 = .ok (.bipush 15, 2) := by decide +kernel
theorem dX11_init_264 : decode cX11_init 264 = .ok (.newarray .int, 2) := by decide +kernel
theorem dX11_init_266 : decode cX11_init 266 = .ok (.putfield 107, 3) := by decide +kernel
theorem dX11_init_269 : decode cX11_init 269 = .ok (.aload_n 0, 1) := by decide +kernel
theorem dX11_init_270 : decode cX11_init 270 = .ok (.bipush 10, 2) := by decide +kernel
theorem dX11_init_272 : decode cX11_init 272 = .ok (.newarray .int, 2) := by decide +kernel
theorem dX11_init_274 : decode cX11_init 274 = .ok (.putfield 110, 3) := by decide +kernel
theorem dX11_init_277 : decode cX11_init 277 = .ok (.aload_n 0, 1) := by decide +kernel
theorem dX11_init_278 : decode cX11_init 278 = .ok (.bipush 10, 2) := by decide +kernel
theorem dX11_init_280 : decode cX11_init 280 = .ok (.newarray .int, 2) := by decide +kernel
theorem dX11_init_282 : decode cX11_init 282 = .ok (.putfield 113, 3) := by decide +kernel
theorem dX11_init_285 : decode cX11_init 285 = .ok (.aload_n 0, 1) := by decide +kernel
theorem dX11_init_286 : decode cX11_init 286 = .ok (.bipush 10, 2) := by decide +kernel
theorem dX11_init_288 : decode cX11_init 288 = .ok (.newarray .int, 2) := by decide +kernel
theorem dX11_init_290 : decode cX11_init 290 = .ok (.putfield 116, 3) := by decide +kernel
theorem dX11_init_293 : decode cX11_init 293 = .ok (.aload_n 0, 1) := by decide +kernel
theorem dX11_init_294 : decode cX11_init 294 = .ok (.bipush 10, 2) := by decide +kernel
theorem dX11_init_296 : decode cX11_init 296 = .ok (.newarray .int, 2) := by decide +kernel
theorem dX11_init_298 : decode cX11_init 298 = .ok (.putfield 119, 3) := by decide +kernel
theorem dX11_init_301 : decode cX11_init 301 = .ok (.aload_n 0, 1) := by decide +kernel
theorem dX11_init_302 : decode cX11_init 302 = .ok (.bipush 10, 2) := by decide +kernel
theorem dX11_init_304 : decode cX11_init 304 = .ok (.newarray .int, 2) := by decide +kernel
theorem dX11_init_306 : decode cX11_init 306 = .ok (.putfield 122, 3) := by decide +kernel
theorem dX11_init_309 : decode cX11_init 309 = .ok (.aload_n 0, 1) := by decide +kernel
theorem dX11_init_310 : decode cX11_init 310 = .ok (.bipush 10, 2) := by decide +kernel
theorem dX11_init_312 : decode cX11_init 312 = .ok (.newarray .int, 2) := by decide +kernel
theorem dX11_init_314 : decode cX11_init 314 = .ok (.putfield 125, 3) := by decide +kernel
theorem dX11_init_317 : decode cX11_init 317 = .ok (.aload_n 0, 1) := by decide +kernel
theorem dX11_init_318 : decode cX11_init 318 = .ok (.bipush 20, 2) := by decide +kernel
theorem dX11_init_320 : decode cX11_init 320 = .ok (.newarray .int, 2) := by decide +kernel
theorem dX11_init_322 : decode cX11_init 322 = .ok (.putfield 128, 3) := by decide +kernel
theorem dX11_init_325 : decode cX11_init 325 = .ok (.aload_n 0, 1) := by decide +kernel
theorem dX11_init_326 : decode cX11_init 326 = .ok (.bipush 20, 2) := by decide +kernel
theorem dX11_init_328 : decode cX11_init 328 = .ok (.newarray .int, 2) := by decide +kernel
theorem dX11_init_330 : decode cX11_init 330 = .ok (.putfield 131, 3) := by decide +kernel
theorem dX11_init_333 : decode cX11_init 333 = .ok (.aload_n 0, 1) := by decide +kernel
theorem dX11_init_334 : decode cX11_init 334 = .ok (.bipush 20, 2) := by decide +kernel
theorem dX11_init_336 : decode cX11_init 336 = .ok (.newarray .int, 2) := by decide +kernel
theorem dX11_init_338 : decode cX11_init 338 = .ok (.putfield 134, 3) := by decide +kernel
theorem dX11_init_341 : decode cX11_init 341 = .ok (.aload_n 0, 1) := by decide +kernel
theorem dX11_init_342 : decode cX11_init 342 = .ok (.sipush 200, 3) := by decide +kernel
theorem dX11_init_345 : decode cX11_init 345 = .ok (.newarray .int, 2) := by decide +kernel
theorem dX11_init_347 : decode cX11_init 347 = .ok (.putfield 137, 3) := by decide +kernel
theorem dX11_init_350 : decode cX11_init 350 = .ok (.aload_n 0, 1) := by decide +kernel
theorem dX11_init_351 : decode cX11_init 351 = .ok (.sipush 200, 3) := by decide +kernel
theorem dX11_init_354 : decode cX11_init 354 = .ok (.newarray .int, 2) := by decide +kernel
theorem dX11_init_356 : decode cX11_init 356 = .ok (.putfield 140, 3) := by decide +kernel
theorem dX11_init_359 : decode cX11_init 359 = .ok (.aload_n 0, 1) := by decide +kernel
theorem dX11_init_360 : decode cX11_init 360 = .ok (.sipush 200, 3) := by decide +kernel
theorem dX11_init_363 : decode cX11_init 363 = .ok (.newarray .int, 2) := by decide +kernel
theorem dX11_init_365 : decode cX11_init 365 = .ok (.putfield 143, 3) := by decide +kernel
theorem dX11_init_368 : decode cX11_init 368 = .ok (.aload_n 0, 1) := by decide +kernel
theorem dX11_init_369 : decode cX11_init 369 = .ok (.sipush 200, 3) := by decide +kernel
theorem dX11_init_372 : decode cX11_init 372 = .ok (.newarray .int, 2) := by decide +kernel
theorem dX11_init_374 : decode cX11_init 374 = .ok (.putfield 146, 3) := by decide +kernel
theorem dX11_init_377 : decode cX11_init 377 = .ok (.aload_n 0, 1) := by decide +kernel
theorem dX11_init_378 : decode cX11_init 378 = .ok (.bipush 12, 2) := by decide +kernel
theorem dX11_init_380 : decode cX11_init 380 = .ok (.newarray .int, 2) := by decide +kernel
theorem dX11_init_382 : decode cX11_init 382 = .ok (.putfield 149, 3) := by decide +kernel
theorem dX11_init_385 : decode cX11_init 385 = .ok (.aload_n 0, 1) := by decide +kernel
theorem dX11_init_386 : decode cX11_init 386 = .ok (.sipush 500, 3) := by decide +kernel
theorem dX11_init_389 : decode cX11_init 389 = .ok (.newarray .int, 2) := by decide +kernel
theorem dX11_init_391 : decode cX11_init 391 = .ok (.putfield 152, 3) := by decide +kernel
theorem dX11_init_394 : decode cX11_init 394 = .ok (.aload_n 0, 1) := by decide +kernel
theorem dX11_init_395 : decode cX11_init 395 = .ok (.iconst (-1), 1) := by decide +kernel
theorem dX11_init_396 : decode cX11_init 396 = .ok (.putfield 155, 3) := by decide +kernel
theorem dX11_init_399 : decode cX11_init 399 = .ok (.aload_n 0, 1) := by decide +kernel
theorem dX11_init_400 : decode cX11_init 400 = .ok (.bipush 10, 2) := by decide +kernel
theorem dX11_init_402 : decode cX11_init 402 = .ok (.newarray .int, 2) := by decide +kernel
theorem dX11_init_404 : decode cX11_init 404 = .ok (.putfield 158, 3) := by decide +kernel
theorem dX11_init_407 : decode cX11_init 407 = .ok (.aload_n 0, 1) := by decide +kernel
theorem dX11_init_408 : decode cX11_init 408 = .ok (.bipush 10, 2) := by decide +kernel
theorem dX11_init_410 : decode cX11_init 410 = .ok (.newarray .int, 2) := by decide +kernel
theorem dX11_init_412 : decode cX11_init 412 = .ok (.putfield 161, 3) := by decide +kernel
theorem dX11_init_415 : decode cX11_init 415 = .ok (.aload_n 0, 1) := by decide +kernel
theorem dX11_init_416 : decode cX11_init 416 = .ok (.bipush 10, 2) := by decide +kernel
theorem dX11_init_418 : decode cX11_init 418 = .ok (.newarray .int, 2) := by decide +kernel
theorem dX11_init_420 : decode cX11_init 420 = .ok (.putfield 164, 3) := by decide +kernel
theorem dX11_init_423 : decode cX11_init 423 = .ok (.aload_n 0, 1) := by decide +kernel
theorem dX11_init_424 : decode cX11_init 424 = .ok (.bipush 10, 2) := by decide +kernel
theorem dX11_init_426 : decode cX11_init 426 = .ok (.newarray .boolean, 2) := by decide +kernel
theorem dX11_init_428 : decode cX11_init 428 = .ok (.putfield 167, 3) := by decide +kernel
theorem dX11_init_431 : decode cX11_init 431 = .ok (.aload_n 0, 1) := by decide +kernel
theorem dX11_init_432 : decode cX11_init 432 = .ok (.bipush 10, 2) := by decide +kernel
theorem dX11_init_434 : decode cX11_init 434 = .ok (.newarray .int, 2) := by decide +kernel
theorem dX11_init_436 : decode cX11_init 436 = .ok (.putfield 170, 3) := by decide +kernel
theorem dX11_init_439 : decode cX11_init 439 = .ok (.aload_n 0, 1) := by decide +kernel
theorem dX11_init_440 : decode cX11_init 440 = .ok (.bipush 10, 2) := by decide +kernel
theorem dX11_init_442 : decode cX11_init 442 = .ok (.newarray .int, 2) := by decide +kernel
theorem dX11_init_444 : decode cX11_init 444 = .ok (.putfield 173, 3) := by decide +kernel
theorem dX11_init_447 : decode cX11_init 447 = .ok (.aload_n 0, 1) := by decide +kernel
theorem dX11_init_448 : decode cX11_init 448 = .ok (.bipush 10, 2) := by decide +kernel
theorem dX11_init_450 : decode cX11_init 450 = .ok (.newarray .int, 2) := by decide +kernel
theorem dX11_init_452 : decode cX11_init 452 = .ok (.putfield 176, 3) := by decide +kernel
theorem dX11_init_455 : decode cX11_init 455 = .ok (.aload_n 0, 1) := by decide +kernel
theorem dX11_init_456 : decode cX11_init 456 = .ok (.bipush 10, 2) := by decide +kernel
theorem dX11_init_458 : decode cX11_init 458 = .ok (.newarray .int, 2) := by decide +kernel
theorem dX11_init_460 : decode cX11_init 460 = .ok (.putfield 179, 3) := by decide +kernel
theorem dX11_init_463 : decode cX11_init 463 = .ok (.aload_n 0, 1) := by decide +kernel
theorem dX11_init_464 : decode cX11_init 464 = .ok (.bipush 10, 2) := by decide +kernel
theorem dX11_init_466 : decode cX11_init 466 = .ok (.newarray .int, 2) := by decide +kernel
theorem dX11_init_468 : decode cX11_init 468 = .ok (.putfield 182, 3) := by decide +kernel
theorem dX11_init_471 : decode cX11_init 471 = .ok (.aload_n 0, 1) := by decide +kernel
theorem dX11_init_472 : decode cX11_init 472 = .ok (.bipush 10, 2) := by decide +kernel
theorem dX11_init_474 : decode cX11_init 474 = .ok (.newarray .int, 2) := by decide +kernel
theorem dX11_init_476 : decode cX11_init 476 = .ok (.putfield 185, 3) := by decide +kernel
theorem dX11_init_479 : decode cX11_init 479 = .ok (.aload_n 0, 1) := by decide +kernel
theorem dX11_init_480 : decode cX11_init 480 = .ok (.bipush 10, 2) := by decide +kernel
theorem dX11_init_482 : decode cX11_init 482 = .ok (.newarray .boolean, 2) := by decide +kernel
theorem dX11_init_484 : decode cX11_init 484 = .ok (.putfield 188, 3) := by decide +kernel
theorem dX11_init_487 : decode cX11_init 487 = .ok (.aload_n 0, 1) := by decide +kernel
theorem dX11_init_488 : decode cX11_init 488 = .ok (.bipush 10, 2) := by decide +kernel
theorem dX11_init_490 : decode cX11_init 490 = .ok (.newarray .int, 2) := by decide +kernel
theorem dX11_init_492 : decode cX11_init 492 = .ok (.putfield 191, 3) := by decide +kernel
theorem dX11_init_495 : decode cX11_init 495 = .ok (.aload_n 0, 1) := by decide +kernel
theorem dX11_init_496 : decode cX11_init 496 = .ok (.getfield 34, 3) := by decide +kernel
theorem dX11_init_499 : decode cX11_init 499 = .ok (.iconst 0, 1) := by decide +kernel
theorem dX11_init_500 : decode cX11_init 500 = .ok (.bipush 112, 2) := by decide +kernel
theorem dX11_init_502 : decode cX11_init 502 = .ok (.bipush 114, 2) := by decide +kernel
theorem dX11_init_504 : decode cX11_init 504 = .ok (.bipush 111, 2) := by decide +kernel
theorem dX11_init_506 : decode cX11_init 506 = .ok (.bipush 111, 2) := by decide +kernel
theorem dX11_init_508 : decode cX11_init 508 = .ok (.bipush 102, 2) := by decide +kernel
theorem dX11_init_510 : decode cX11_init 510 = .ok (.iconst 0, 1) := by decide +kernel
theorem dX11_init_511 : decode cX11_init 511 = .ok (.iconst 0, 1) := by decide +kernel
theorem dX11_init_512 : decode cX11_init 512 = .ok (.invokestatic 194, 3) := by decide +kernel
theorem dX11_init_515 : decode cX11_init 515 = .ok (.lastore, 1) := by decide +kernel
theorem dX11_init_516 : decode cX11_init 516 = .ok (.aload_n 0, 1) := by decide +kernel
theorem dX11_init_517 : decode cX11_init 517 = .ok (.getfield 34, 3) := by decide +kernel
theorem dX11_init_520 : decode cX11_init 520 = .ok (.iconst 1, 1) := by decide +kernel
theorem dX11_init_521 : decode cX11_init 521 = .ok (.bipush 98, 2) := by decide +kernel
theorem dX11_init_523 : decode cX11_init 523 = .ok (.bipush 97, 2) := by decide +kernel
theorem dX11_init_525 : decode cX11_init 525 = .ok (.bipush 114, 2) := by decide +kernel
theorem dX11_init_527 : decode cX11_init 527 = .ok (.iconst 0, 1) := by decide +kernel
theorem dX11_init_528 : decode cX11_init 528 = .ok (.iconst 0, 1) := by decide +kernel
theorem dX11_init_529 : decode cX11_init 529 = .ok (.iconst 0, 1) := by decide +kernel
theorem dX11_init_530 : decode cX11_init 530 = .ok (.iconst 0, 1) := by decide +kernel
theorem dX11_init_531 : decode cX11_init 531 = .ok (.invokestatic 194, 3) := by decide +kernel
theorem dX11_init_534 : decode cX11_init 534 = .ok (.lastore, 1) := by decide +kernel
theorem dX11_init_535 : decode cX11_init 535 = .ok (.aload_n 0, 1) := by decide +kernel
theorem dX11_init_536 : decode cX11_init 536 = .ok (.getfield 34, 3) := by decide +kernel
theorem dX11_init_539 : decode cX11_init 539 = .ok (.iconst 2, 1) := by decide +kernel
theorem dX11_init_540 : decode cX11_init 540 = .ok (.bipush 111, 2) := by decide +kernel
theorem dX11_init_542 : decode cX11_init 542 = .ok (.bipush 118, 2) := by decide +kernel
theorem dX11_init_544 : decode cX11_init 544 = .ok (.bipush 101, 2) := by decide +kernel
theorem dX11_init_546 : decode cX11_init 546 = .ok (.bipush 114, 2) := by decide +kernel
theorem dX11_init_548 : decode cX11_init 548 = .ok (.iconst 0, 1) := by decide +kernel
theorem dX11_init_549 : decode cX11_init 549 = .ok (.iconst 0, 1) := by decide +kernel
theorem dX11_init_550 : decode cX11_init 550 = .ok (.iconst 0, 1) := by decide +kernel
theorem dX11_init_551 : decode cX11_init 551 = .ok (.invokestatic 194, 3) := by decide +kernel
theorem dX11_init_554 : decode cX11_init 554 = .ok (.lastore, 1) := by decide +kernel
theorem dX11_init_555 : decode cX11_init 555 = .ok (.aload_n 0, 1) := by decide +kernel
theorem dX11_init_556 : decode cX11_init 556 = .ok (.getfield 34, 3) := by decide +kernel
theorem dX11_init_559 : decode cX11_init 559 = .ok (.iconst 3, 1) := by decide +kernel
theorem dX11_init_560 : decode cX11_init 560 = .ok (.bipush 108, 2) := by decide +kernel
theorem dX11_init_562 : decode cX11_init 562 = .ok (.bipush 97, 2) := by decide +kernel
theorem dX11_init_564 : decode cX11_init 564 = .ok (.bipush 112, 2) := by decide +kernel
theorem dX11_init_566 : decode cX11_init 566 = .ok (.bipush 115, 2) := by decide +kernel
theorem dX11_init_568 : decode cX11_init 568 = .ok (.bipush 101, 2) := by decide +kernel
theorem dX11_init_570 : decode cX11_init 570 = .ok (.iconst 0, 1) := by decide +kernel
theorem dX11_init_571 : decode cX11_init 571 = .ok (.iconst 0, 1) := by decide +kernel
theorem dX11_init_572 : decode cX11_init 572 = .ok (.invokestatic 194, 3) := by decide +kernel
theorem dX11_init_575 : decode cX11_init 575 = .ok (.lastore, 1) := by decide +kernel
theorem dX11_init_576 : decode cX11_init 576 = .ok (.aload_n 0, 1) := by decide +kernel
theorem dX11_init_577 : decode cX11_init 577 = .ok (.getfield 34, 3) := by decide +kernel
theorem dX11_init_580 : decode cX11_init 580 = .ok (.iconst 4, 1) := by decide +kernel
theorem dX11_init_581 : decode cX11_init 581 = .ok (.bipush 98, 2) := by decide +kernel
theorem dX11_init_583 : decode cX11_init 583 = .ok (.bipush 97, 2) := by decide +kernel
theorem dX11_init_585 : decode cX11_init 585 = .ok (.bipush 99, 2) := by decide +kernel
theorem dX11_init_587 : decode cX11_init 587 = .ok (.bipush 107, 2) := by decide +kernel
theorem dX11_init_589 : decode cX11_init 589 = .ok (.iconst 0, 1) := by decide +kernel
theorem dX11_init_590 : decode cX11_init 590 = .ok (.iconst 0, 1) := by decide +kernel
theorem dX11_init_591 : decode cX11_init 591 = .ok (.iconst 0, 1) := by decide +kernel
theorem dX11_init_592 : decode cX11_init 592 = .ok (.invokestatic 194, 3) := by decide +kernel
theorem dX11_init_595 : decode cX11_init 595 = .ok (.lastore, 1) := by decide +kernel
theorem dX11_init_596 : decode cX11_init 596 = .ok (.aload_n 0, 1) := by decide +kernel
theorem dX11_init_597 : decode cX11_init 597 = .ok (.getfield 34, 3) := by decide +kernel
theorem dX11_init_600 : decode cX11_init 600 = .ok (.iconst 5, 1) := by decide +kernel
theorem dX11_init_601 : decode cX11_init 601 = .ok (.bipush 105, 2) := by decide +kernel
theorem dX11_init_603 : decode cX11_init 603 = .ok (.bipush 102, 2) := by decide +kernel
theorem dX11_init_605 : decode cX11_init 605 = .ok (.iconst 0, 1) := by decide +kernel
theorem dX11_init_606 : decode cX11_init 606 = .ok (.iconst 0, 1) := by decide +kernel
theorem dX11_init_607 : decode cX11_init 607 = .ok (.iconst 0, 1) := by decide +kernel
theorem dX11_init_608 : decode cX11_init 608 = .ok (.iconst 0, 1) := by decide +kernel
theorem dX11_init_609 : decode cX11_init 609 = .ok (.iconst 0, 1) := by decide +kernel
theorem dX11_init_610 : decode cX11_init 610 = .ok (.invokestatic 194, 3) := by decide +kernel
theorem dX11_init_613 : decode cX11_init 613 = .ok (.lastore, 1) := by decide +kernel
theorem dX11_init_614 : decode cX11_init 614 = .ok (.aload_n 0, 1) := by decide +kernel
theorem dX11_init_615 : decode cX11_init 615 = .ok (.getfield 34, 3) := by decide +kernel
theorem dX11_init_618 : decode cX11_init 618 = .ok (.bipush 6, 2) := by decide +kernel
theorem dX11_init_620 : decode cX11_init 620 = .ok (.bipush 111, 2) := by decide +kernel
theorem dX11_init_622 : decode cX11_init 622 = .ok (.bipush 114, 2) := by decide +kernel
theorem dX11_init_624 : decode cX11_init 624 = .ok (.iconst 0, 1) := by decide +kernel
theorem dX11_init_625 : decode cX11_init 625 = .ok (.iconst 0, 1) := by decide +kernel
theorem dX11_init_626 : decode cX11_init 626 = .ok (.iconst 0, 1) := by decide +kernel
theorem dX11_init_627 : decode cX11_init 627 = .ok (.iconst 0, 1) := by decide +kernel
theorem dX11_init_628 : decode cX11_init 628 = .ok (.iconst 0, 1) := by decide +kernel
theorem dX11_init_629 : decode cX11_init 629 = .ok (.invokestatic 194, 3) := by decide +kernel
theorem dX11_init_632 : decode cX11_init 632 = .ok (.lastore, 1) := by decide +kernel
theorem dX11_init_633 : decode cX11_init 633 = .ok (.aload_n 0, 1) := by decide +kernel
theorem dX11_init_634 : decode cX11_init 634 = .ok (.getfield 34, 3) := by decide +kernel
theorem dX11_init_637 : decode cX11_init 637 = .ok (.bipush 7, 2) := by decide +kernel
theorem dX11_init_639 : decode cX11_init 639 = .ok (.bipush 97, 2) := by decide +kernel
theorem dX11_init_641 : decode cX11_init 641 = .ok (.bipush 110, 2) := by decide +kernel
theorem dX11_init_643 : decode cX11_init 643 = .ok (.bipush 100, 2) := by decide +kernel
theorem dX11_init_645 : decode cX11_init 645 = .ok (.iconst 0, 1) := by decide +kernel
theorem dX11_init_646 : decode cX11_init 646 = .ok (.iconst 0, 1) := by decide +kernel
theorem dX11_init_647 : decode cX11_init 647 = .ok (.iconst 0, 1) := by decide +kernel
theorem dX11_init_648 : decode cX11_init 648 = .ok (.iconst 0, 1) := by decide +kernel
theorem dX11_init_649 : decode cX11_init 649 = .ok (.invokestatic 194, 3) := by decide +kernel
theorem dX11_init_652 : decode cX11_init 652 = .ok (.lastore, 1) := by decide +kernel
theorem dX11_init_653 : decode cX11_init 653 = .ok (.aload_n 0, 1) := by decide +kernel
theorem dX11_init_654 : decode cX11_init 654 = .ok (.getfield 34, 3) := by decide +kernel
theorem dX11_init_657 : decode cX11_init 657 = .ok (.bipush 8, 2) := by decide +kernel
theorem dX11_init_659 : decode cX11_init 659 = .ok (.bipush 121, 2) := by decide +kernel
theorem dX11_init_661 : decode cX11_init 661 = .ok (.bipush 101, 2) := by decide +kernel
theorem dX11_init_663 : decode cX11_init 663 = .ok (.bipush 115, 2) := by decide +kernel
theorem dX11_init_665 : decode cX11_init 665 = .ok (.iconst 0, 1) := by decide +kernel
theorem dX11_init_666 : decode cX11_init 666 = .ok (.iconst 0, 1) := by decide +kernel
theorem dX11_init_667 : decode cX11_init 667 = .ok (.iconst 0, 1) := by decide +kernel
theorem dX11_init_668 : decode cX11_init 668 = .ok (.iconst 0, 1) := by decide +kernel
theorem dX11_init_669 : decode cX11_init 669 = .ok (.invokestatic 194, 3) := by decide +kernel
theorem dX11_init_672 : decode cX11_init 672 = .ok (.lastore, 1) := by decide +kernel
theorem dX11_init_673 : decode cX11_init 673 = .ok (.aload_n 0, 1) := by decide +kernel
theorem dX11_init_674 : decode cX11_init 674 = .ok (.getfield 34, 3) := by decide +kernel
theorem dX11_init_677 : decode cX11_init 677 = .ok (.bipush 9, 2) := by decide +kernel
theorem dX11_init_679 : decode cX11_init 679 = .ok (.bipush 110, 2) := by decide +kernel
theorem dX11_init_681 : decode cX11_init 681 = .ok (.bipush 111, 2) := by decide +kernel
theorem dX11_init_683 : decode cX11_init 683 = .ok (.iconst 0, 1) := by decide +kernel
theorem dX11_init_684 : decode cX11_init 684 = .ok (.iconst 0, 1) := by decide +kernel
theorem dX11_init_685 : decode cX11_init 685 = .ok (.iconst 0, 1) := by decide +kernel
theorem dX11_init_686 : decode cX11_init 686 = .ok (.iconst 0, 1) := by decide +kernel
theorem dX11_init_687 : decode cX11_init 687 = .ok (.iconst 0, 1) := by decide +kernel
theorem dX11_init_688 : decode cX11_init 688 = .ok (.invokestatic 194, 3) := by decide +kernel
theorem dX11_init_691 : decode cX11_init 691 = .ok (.lastore, 1) := by decide +kernel
theorem dX11_init_692 : decode cX11_init 692 = .ok (.aload_n 0, 1) := by decide +kernel
theorem dX11_init_693 : decode cX11_init 693 = .ok (.getfield 34, 3) := by decide +kernel
theorem dX11_init_696 : decode cX11_init 696 = .ok (.bipush 10, 2) := by decide +kernel
theorem dX11_init_698 : decode cX11_init 698 = .ok (.bipush 107, 2) := by decide +kernel
theorem dX11_init_700 : decode cX11_init 700 = .ok (.bipush 105, 2) := by decide +kernel
theorem dX11_init_702 : decode cX11_init 702 = .ok (.bipush 110, 2) := by decide +kernel
theorem dX11_init_704 : decode cX11_init 704 = .ok (.iconst 0, 1) := by decide +kernel
theorem dX11_init_705 : decode cX11_init 705 = .ok (.iconst 0, 1) := by decide +kernel
theorem dX11_init_706 : decode cX11_init 706 = .ok (.iconst 0, 1) := by decide +kernel
theorem dX11_init_707 : decode cX11_init 707 = .ok (.iconst 0, 1) := by decide +kernel
theorem dX11_init_708 : decode cX11_init 708 = .ok (.invokestatic 194, 3) := by decide +kernel
theorem dX11_init_711 : decode cX11_init 711 = .ok (.lastore, 1) := by decide +kernel
theorem dX11_init_712 : decode cX11_init 712 = .ok (.aload_n 0, 1) := by decide +kernel
theorem dX11_init_713 : decode cX11_init 713 = .ok (.getfield 34, 3) := by decide +kernel
theorem dX11_init_716 : decode cX11_init 716 = .ok (.bipush 11, 2) := by decide +kernel
theorem dX11_init_718 : decode cX11_init 718 = .ok (.bipush 102, 2) := by decide +kernel
theorem dX11_init_720 : decode cX11_init 720 = .ok (.bipush 97, 2) := by decide +kernel
theorem dX11_init_722 : decode cX11_init 722 = .ok (.bipush 109, 2) := by decide +kernel
theorem dX11_init_724 : decode cX11_init 724 = .ok (.bipush 101, 2) := by decide +kernel
theorem dX11_init_726 : decode cX11_init 726 = .ok (.iconst 0, 1) := by decide +kernel
theorem dX11_init_727 : decode cX11_init 727 = .ok (.iconst 0, 1) := by decide +kernel
theorem dX11_init_728 : decode cX11_init 728 = .ok (.iconst 0, 1) := by decide +kernel
theorem dX11_init_729 : decode cX11_init 729 = .ok (.invokestatic 194, 3) := by decide +kernel
theorem dX11_init_732 : decode cX11_init 732 = .ok (.lastore, 1) := by decide +kernel
theorem dX11_init_733 : decode cX11_init 733 = .ok (.aload_n 0, 1) := by decide +kernel
theorem dX11_init_734 : decode cX11_init 734 = .ok (.getfield 34, 3) := by decide +kernel
theorem dX11_init_737 : decode cX11_init 737 = .ok (.bipush 12, 2) := by decide +kernel
theorem dX11_init_739 : decode cX11_init 739 = .ok (.bipush 116, 2) := by decide +kernel
theorem dX11_init_741 : decode cX11_init 741 = .ok (.bipush 101, 2) := by decide +kernel
theorem dX11_init_743 : decode cX11_init 743 = .ok (.bipush 110, 2) := by decide +kernel
theorem dX11_init_745 : decode cX11_init 745 = .ok (.bipush 115, 2) := by decide +kernel
theorem dX11_init_747 : decode cX11_init 747 = .ok (.bipush 101, 2) := by decide +kernel
theorem dX11_init_749 : decode cX11_init 749 = .ok (.iconst 0, 1) := by decide +kernel
theorem dX11_init_750 : decode cX11_init 750 = .ok (.iconst 0, 1) := by decide +kernel
theorem dX11_init_751 : decode cX11_init 751 = .ok (.invokestatic 194, 3) := by decide +kernel
theorem dX11_init_754 : decode cX11_init 754 = .ok (.lastore, 1) := by decide +kernel
theorem dX11_init_755 : decode cX11_init 755 = .ok (.aload_n 0, 1) := by decide +kernel
theorem dX11_init_756 : decode cX11_init 756 = .ok (.getfield 34, 3) := by decide +kernel
theorem dX11_init_759 : decode cX11_init 759 = .ok (.bipush 13, 2) := by decide +kernel
theorem dX11_init_761 : decode cX11_init 761 = .ok (.bipush 97, 2) := by decide +kernel
theorem dX11_init_763 : decode cX11_init 763 = .ok (.bipush 103, 2) := by decide +kernel
theorem dX11_init_765 : decode cX11_init 765 = .ok (.bipush 101, 2) := by decide +kernel
theorem dX11_init_767 : decode cX11_init 767 = .ok (.iconst 0, 1) := by decide +kernel
theorem dX11_init_768 : decode cX11_init 768 = .ok (.iconst 0, 1) := by decide +kernel
theorem dX11_init_769 : decode cX11_init 769 = .ok (.iconst 0, 1) := by decide +kernel
theorem dX11_init_770 : decode cX11_init 770 = .ok (.iconst 0, 1) := by decide +kernel
theorem dX11_init_771 : decode cX11_init 771 = .ok (.invokestatic 194, 3) := by decide +kernel
theorem dX11_init_774 : decode cX11_init 774 = .ok (.lastore, 1) := by decide +kernel
theorem dX11_init_775 : decode cX11_init 775 = .ok (.aload_n 0, 1) := by decide +kernel
theorem dX11_init_776 : decode cX11_init 776 = .ok (.getfield 34, 3) := by decide +kernel
theorem dX11_init_779 : decode cX11_init 779 = .ok (.bipush 14, 2) := by decide +kernel
theorem dX11_init_781 : decode cX11_init 781 = .ok (.bipush 100, 2) := by decide +kernel
theorem dX11_init_783 : decode cX11_init 783 = .ok (.bipush 101, 2) := by decide +kernel
theorem dX11_init_785 : decode cX11_init 785 = .ok (.bipush 103, 2) := by decide +kernel
theorem dX11_init_787 : decode cX11_init 787 = .ok (.bipush 114, 2) := by decide +kernel
theorem dX11_init_789 : decode cX11_init 789 = .ok (.bipush 101, 2) := by decide +kernel
theorem dX11_init_791 : decode cX11_init 791 = .ok (.bipush 101, 2) := by decide +kernel
theorem dX11_init_793 : decode cX11_init 793 = .ok (.iconst 0, 1) := by decide +kernel
theorem dX11_init_794 : decode cX11_init 794 = .ok (.invokestatic 194, 3) := by decide +kernel
theorem dX11_init_797 : decode cX11_init 797 = .ok (.lastore, 1) := by decide +kernel
theorem dX11_init_798 : decode cX11_init 798 = .ok (.aload_n 0, 1) := by decide +kernel
theorem dX11_init_799 : decode cX11_init 799 = .ok (.getfield 34, 3) := by decide +kernel
theorem dX11_init_802 : decode cX11_init 802 = .ok (.bipush 15, 2) := by decide +kernel
theorem dX11_init_804 : decode cX11_init 804 = .ok (.bipush 118, 2) := by decide +kernel
theorem dX11_init_806 : decode cX11_init 806 = .ok (.bipush 111, 2) := by decide +kernel
theorem dX11_init_808 : decode cX11_init 808 = .ok (.bipush 119, 2) := by decide +kernel
theorem dX11_init_810 : decode cX11_init 810 = .ok (.iconst 0, 1) := by decide +kernel
theorem dX11_init_811 : decode cX11_init 811 = .ok (.iconst 0, 1) := by decide +kernel
theorem dX11_init_812 : decode cX11_init 812 = .ok (.iconst 0, 1) := by decide +kernel
theorem dX11_init_813 : decode cX11_init 813 = .ok (.iconst 0, 1) := by decide +kernel
theorem dX11_init_814 : decode cX11_init 814 = .ok (.invokestatic 194, 3) := by decide +kernel
theorem dX11_init_817 : decode cX11_init 817 = .ok (.lastore, 1) := by decide +kernel
theorem dX11_init_818 : decode cX11_init 818 = .ok (.aload_n 0, 1) := by decide +kernel
theorem dX11_init_819 : decode cX11_init 819 = .ok (.getfield 34, 3) := by decide +kernel
theorem dX11_init_822 : decode cX11_init 822 = .ok (.bipush 16, 2) := by decide +kernel
theorem dX11_init_824 : decode cX11_init 824 = .ok (.bipush 108, 2) := by decide +kernel
theorem dX11_init_826 : decode cX11_init 826 = .ok (.bipush 101, 2) := by decide +kernel
theorem dX11_init_828 : decode cX11_init 828 = .ok (.bipush 97, 2) := by decide +kernel
theorem dX11_init_830 : decode cX11_init 830 = .ok (.bipush 118, 2) := by decide +kernel
theorem dX11_init_832 : decode cX11_init 832 = .ok (.bipush 101, 2) := by decide +kernel
theorem dX11_init_834 : decode cX11_init 834 = .ok (.iconst 0, 1) := by decide +kernel
theorem dX11_init_835 : decode cX11_init 835 = .ok (.iconst 0, 1) := by decide +kernel
theorem dX11_init_836 : decode cX11_init 836 = .ok (.invokestatic 194, 3) := by decide +kernel
theorem dX11_init_839 : decode cX11_init 839 = .ok (.lastore, 1) := by decide +kernel
theorem dX11_init_840 : decode cX11_init 840 = .ok (.aload_n 0, 1) := by decide +kernel
theorem dX11_init_841 : decode cX11_init 841 = .ok (.getfield 34, 3) := by decide +kernel
theorem dX11_init_844 : decode cX11_init 844 = .ok (.bipush 17, 2) := by decide +kernel
theorem dX11_init_846 : decode cX11_init 846 = .ok (.bipush 111, 2) := by decide +kernel
theorem dX11_init_848 : decode cX11_init 848 = .ok (.bipush 108, 2) := by decide +kernel
theorem dX11_init_850 : decode cX11_init 850 = .ok (.bipush 100, 2) := by decide +kernel
theorem dX11_init_852 : decode cX11_init 852 = .ok (.iconst 0, 1) := by decide +kernel
theorem dX11_init_853 : decode cX11_init 853 = .ok (.iconst 0, 1) := by decide +kernel
theorem dX11_init_854 : decode cX11_init 854 = .ok (.iconst 0, 1) := by decide +kernel
theorem dX11_init_855 : decode cX11_init 855 = .ok (.iconst 0, 1) := by decide +kernel
theorem dX11_init_856 : decode cX11_init 856 = .ok (.invokestatic 194, 3) := by decide +kernel
theorem dX11_init_859 : decode cX11_init 859 = .ok (.lastore, 1) := by decide +kernel
theorem dX11_init_860 : decode cX11_init 860 = .ok (.aload_n 0, 1) := by decide +kernel
theorem dX11_init_861 : decode cX11_init 861 = .ok (.getfield 34, 3) := by decide +kernel
theorem dX11_init_864 : decode cX11_init 864 = .ok (.bipush 18, 2) := by decide +kernel
theorem dX11_init_866 : decode cX11_init 866 = .ok (.bipush 119, 2) := by decide +kernel
theorem dX11_init_868 : decode cX11_init 868 = .ok (.bipush 104, 2) := by decide +kernel
theorem dX11_init_870 : decode cX11_init 870 = .ok (.bipush 121, 2) := by decide +kernel
theorem dX11_init_872 : decode cX11_init 872 = .ok (.iconst 0, 1) := by decide +kernel
theorem dX11_init_873 : decode cX11_init 873 = .ok (.iconst 0, 1) := by decide +kernel
theorem dX11_init_874 : decode cX11_init 874 = .ok (.iconst 0, 1) := by decide +kernel
theorem dX11_init_875 : decode cX11_init 875 = .ok (.iconst 0, 1) := by decide +kernel
theorem dX11_init_876 : decode cX11_init 876 = .ok (.invokestatic 194, 3) := by decide +kernel
theorem dX11_init_879 : decode cX11_init 879 = .ok (.lastore, 1) := by decide +kernel
theorem dX11_init_880 : decode cX11_init 880 = .ok (.aload_n 0, 1) := by decide +kernel
theorem dX11_init_881 : decode cX11_init 881 = .ok (.getfield 34, 3) := by decide +kernel
theorem dX11_init_884 : decode cX11_init 884 = .ok (.bipush 19, 2) := by decide +kernel
theorem dX11_init_886 : decode cX11_init 886 = .ok (.bipush 100, 2) := by decide +kernel
theorem dX11_init_888 : decode cX11_init 888 = .ok (.bipush 97, 2) := by decide +kernel
theorem dX11_init_890 : decode cX11_init 890 = .ok (.bipush 121, 2) := by decide +kernel
theorem dX11_init_892 : decode cX11_init 892 = .ok (.bipush 115, 2) := by decide +kernel
theorem dX11_init_894 : decode cX11_init 894 = .ok (.iconst 0, 1) := by decide +kernel
theorem dX11_init_895 : decode cX11_init 895 = .ok (.iconst 0, 1) := by decide +kernel
theorem dX11_init_896 : decode cX11_init 896 = .ok (.iconst 0, 1) := by decide +kernel
theorem dX11_init_897 : decode cX11_init 897 = .ok (.invokestatic 194, 3) := by decide +kernel
theorem dX11_init_900 : decode cX11_init 900 = .ok (.lastore, 1) := by decide +kernel
theorem dX11_init_901 : decode cX11_init 901 = .ok (.return_, 1) := by decide +kernel
theorem dX11_feed_0 : decode cX11_feed 0 = .ok (.aload_n 0, 1) := by decide +kernel
theorem dX11_feed_1 : decode cX11_feed 1 = .ok (.getfield 198, 3) := by decide +kernel
theorem dX11_feed_4 : decode cX11_feed 4 = .ok (.bipush 20, 2) := by decide +kernel
theorem dX11_feed_6 : decode cX11_feed 6 = .ok (.iadd, 1) := by decide +kernel
theorem dX11_feed_7 : decode cX11_feed 7 = .ok (.sipush 2000, 3) := by decide +kernel
theorem dX11_feed_10 : decode cX11_feed 10 = .ok (.if_icmp .le 5, 3) := by decide +kernel
theorem dX11_feed_13 : decode cX11_feed 13 = .ok (.iconst (-1), 1) := by decide +kernel
theorem dX11_feed_14 : decode cX11_feed 14 = .ok (.ireturn, 1) := by decide +kernel
theorem dX11_feed_15 : decode cX11_feed 15 = .ok (.aload_n 0, 1) := by decide +kernel
theorem dX11_feed_16 : decode cX11_feed 16 = .ok (.iload_n 1, 1) := by decide +kernel
theorem dX11_feed_17 : decode cX11_feed 17 = .ok (.invokevirtual 201, 3) := by decide +kernel
theorem dX11_feed_20 : decode cX11_feed 20 = .ok (.aload_n 0, 1) := by decide +kernel
theorem dX11_feed_21 : decode cX11_feed 21 = .ok (.iload_n 2, 1) := by decide +kernel
theorem dX11_feed_22 : decode cX11_feed 22 = .ok (.invokevirtual 201, 3) := by decide +kernel
theorem dX11_feed_25 : decode cX11_feed 25 = .ok (.aload_n 0, 1) := by decide +kernel
theorem dX11_feed_26 : decode cX11_feed 26 = .ok (.iload_n 3, 1) := by decide +kernel
theorem dX11_feed_27 : decode cX11_feed 27 = .ok (.invokevirtual 201, 3) := by decide +kernel
theorem dX11_feed_30 : decode cX11_feed 30 = .ok (.aload_n 0, 1) := by decide +kernel
theorem dX11_feed_31 : decode cX11_feed 31 = .ok (.iload 4, 2) := by decide +kernel
theorem dX11_feed_33 : decode cX11_feed 33 = .ok (.invokevirtual 201, 3) := by decide +kernel
theorem dX11_feed_36 : decode cX11_feed 36 = .ok (.aload_n 0, 1) := by decide +kernel
theorem dX11_feed_37 : decode cX11_feed 37 = .ok (.iload 5, 2) := by decide +kernel
theorem dX11_feed_39 : decode cX11_feed 39 = .ok (.invokevirtual 201, 3) := by decide +kernel
theorem dX11_feed_42 : decode cX11_feed 42 = .ok (.aload_n 0, 1) := by decide +kernel
theorem dX11_feed_43 : decode cX11_feed 43 = .ok (.getfield 198, 3) := by decide +kernel
theorem dX11_feed_46 : decode cX11_feed 46 = .ok (.ireturn, 1) := by decide +kernel
theorem dX11_put_0 : decode cX11_put 0 = .ok (.bipush 24, 2) := by decide +kernel
theorem dX11_put_2 : decode cX11_put 2 = .ok (.istore_n 2, 1) := by decide +kernel
theorem dX11_put_3 : decode cX11_put 3 = .ok (.iload_n 2, 1) := by decide +kernel
theorem dX11_put_4 : decode cX11_put 4 = .ok (.ifCond .lt 32, 3) := by decide +kernel
theorem dX11_put_7 : decode cX11_put 7 = .ok (.aload_n 0, 1) := by decide +kernel
theorem dX11_put_8 : decode cX11_put 8 = .ok (.getfield 13, 3) := by decide +kernel
theorem dX11_put_11 : decode cX11_put 11 = .ok (.aload_n 0, 1) := by decide +kernel
theorem dX11_put_12 : decode cX11_put 12 = .ok (.getfield 198, 3) := by decide +kernel
theorem dX11_put_15 : decode cX11_put 15 = .ok (.iload_n 1, 1) := by decide +kernel
theorem dX11_put_16 : decode cX11_put 16 = .ok (.iload_n 2, 1) := by decide +kernel
theorem dX11_put_17 : decode cX11_put 17 = .ok (.ishr, 1) := by decide +kernel
theorem dX11_put_18 : decode cX11_put 18 = .ok (.i2b, 1) := by decide +kernel
theorem dX11_put_19 : decode cX11_put 19 = .ok (.bastore, 1) := by decide +kernel
theorem dX11_put_20 : decode cX11_put 20 = .ok (.aload_n 0, 1) := by decide +kernel
theorem dX11_put_21 : decode cX11_put 21 = .ok (.dup, 1) := by decide +kernel
theorem dX11_put_22 : decode cX11_put 22 = .ok (.getfield 198, 3) := by decide +kernel
theorem dX11_put_25 : decode cX11_put 25 = .ok (.iconst 1, 1) := by decide +kernel
theorem dX11_put_26 : decode cX11_put 26 = .ok (.iadd, 1) := by decide +kernel
theorem dX11_put_27 : decode cX11_put 27 = .ok (.putfield 198, 3) := by decide +kernel
theorem dX11_put_30 : decode cX11_put 30 = .ok (.iinc 2 (-8), 3) := by decide +kernel
theorem dX11_put_33 : decode cX11_put 33 = .ok (.goto (-30), 3) := by decide +kernel
theorem dX11_put_36 : decode cX11_put 36 = .ok (.return_, 1) := by decide +kernel
theorem dX11_back_0 : decode cX11_back 0 = .ok (.iload_n 1, 1) := by decide +kernel
theorem dX11_back_1 : decode cX11_back 1 = .ok (.ifCond .lt 11, 3) := by decide +kernel
theorem dX11_back_4 : decode cX11_back 4 = .ok (.iload_n 1, 1) := by decide +kernel
theorem dX11_back_5 : decode cX11_back 5 = .ok (.aload_n 0, 1) := by decide +kernel
theorem dX11_back_6 : decode cX11_back 6 = .ok (.getfield 198, 3) := by decide +kernel
theorem dX11_back_9 : decode cX11_back 9 = .ok (.if_icmp .le 5, 3) := by decide +kernel
theorem dX11_back_12 : decode cX11_back 12 = .ok (.iconst (-1), 1) := by decide +kernel
theorem dX11_back_13 : decode cX11_back 13 = .ok (.ireturn, 1) := by decide +kernel
theorem dX11_back_14 : decode cX11_back 14 = .ok (.aload_n 0, 1) := by decide +kernel
theorem dX11_back_15 : decode cX11_back 15 = .ok (.dup, 1) := by decide +kernel
theorem dX11_back_16 : decode cX11_back 16 = .ok (.getfield 198, 3) := by decide +kernel
theorem dX11_back_19 : decode cX11_back 19 = .ok (.iload_n 1, 1) := by decide +kernel
theorem dX11_back_20 : decode cX11_back 20 = .ok (.isub, 1) := by decide +kernel
theorem dX11_back_21 : decode cX11_back 21 = .ok (.putfield 198, 3) := by decide +kernel
theorem dX11_back_24 : decode cX11_back 24 = .ok (.aload_n 0, 1) := by decide +kernel
theorem dX11_back_25 : decode cX11_back 25 = .ok (.getfield 198, 3) := by decide +kernel
theorem dX11_back_28 : decode cX11_back 28 = .ok (.ireturn, 1) := by decide +kernel
theorem dX11_at_0 : decode cX11_at 0 = .ok (.iload_n 1, 1) := by decide +kernel
theorem dX11_at_1 : decode cX11_at 1 = .ok (.aload_n 0, 1) := by decide +kernel
theorem dX11_at_2 : decode cX11_at 2 = .ok (.getfield 205, 3) := by decide +kernel
theorem dX11_at_5 : decode cX11_at 5 = .ok (.if_icmp .ge 16, 3) := by decide +kernel
theorem dX11_at_8 : decode cX11_at 8 = .ok (.aload_n 0, 1) := by decide +kernel
theorem dX11_at_9 : decode cX11_at 9 = .ok (.getfield 17, 3) := by decide +kernel
theorem dX11_at_12 : decode cX11_at 12 = .ok (.iload_n 1, 1) := by decide +kernel
theorem dX11_at_13 : decode cX11_at 13 = .ok (.baload, 1) := by decide +kernel
theorem dX11_at_14 : decode cX11_at 14 = .ok (.sipush 255, 3) := by decide +kernel
theorem dX11_at_17 : decode cX11_at 17 = .ok (.iand, 1) := by decide +kernel
theorem dX11_at_18 : decode cX11_at 18 = .ok (.goto 4, 3) := by decide +kernel
theorem dX11_at_21 : decode cX11_at 21 = .ok (.iconst 0, 1) := by decide +kernel
theorem dX11_at_22 : decode cX11_at 22 = .ok (.ireturn, 1) := by decide +kernel
theorem dX11_isDigit_0 : decode cX11_isDigit 0 = .ok (.iload_n 0, 1) := by decide +kernel
theorem dX11_isDigit_1 : decode cX11_isDigit 1 = .ok (.bipush 48, 2) := by decide +kernel
theorem dX11_isDigit_3 : decode cX11_isDigit 3 = .ok (.if_icmp .lt 13, 3) := by decide +kernel
theorem dX11_isDigit_6 : decode cX11_isDigit 6 = .ok (.iload_n 0, 1) := by decide +kernel
theorem dX11_isDigit_7 : decode cX11_isDigit 7 = .ok (.bipush 57, 2) := by decide +kernel
theorem dX11_isDigit_9 : decode cX11_isDigit 9 = .ok (.if_icmp .gt 7, 3) := by decide +kernel
theorem dX11_isDigit_12 : decode cX11_isDigit 12 = .ok (.iconst 1, 1) := by decide +kernel
theorem dX11_isDigit_13 : decode cX11_isDigit 13 = .ok (.goto 4, 3) := by decide +kernel
theorem dX11_isDigit_16 : decode cX11_isDigit 16 = .ok (.iconst 0, 1) := by decide +kernel
theorem dX11_isDigit_17 : decode cX11_isDigit 17 = .ok (.ireturn, 1) := by decide +kernel
theorem dX11_isLetter_0 : decode cX11_isLetter 0 = .ok (.iload_n 0, 1) := by decide +kernel
theorem dX11_isLetter_1 : decode cX11_isLetter 1 = .ok (.bipush 97, 2) := by decide +kernel
theorem dX11_isLetter_3 : decode cX11_isLetter 3 = .ok (.if_icmp .lt 13, 3) := by decide +kernel
theorem dX11_isLetter_6 : decode cX11_isLetter 6 = .ok (.iload_n 0, 1) := by decide +kernel
theorem dX11_isLetter_7 : decode cX11_isLetter 7 = .ok (.bipush 122, 2) := by decide +kernel
theorem dX11_isLetter_9 : decode cX11_isLetter 9 = .ok (.if_icmp .gt 7, 3) := by decide +kernel
theorem dX11_isLetter_12 : decode cX11_isLetter 12 = .ok (.iconst 1, 1) := by decide +kernel
theorem dX11_isLetter_13 : decode cX11_isLetter 13 = .ok (.goto 4, 3) := by decide +kernel
theorem dX11_isLetter_16 : decode cX11_isLetter 16 = .ok (.iconst 0, 1) := by decide +kernel
theorem dX11_isLetter_17 : decode cX11_isLetter 17 = .ok (.ireturn, 1) := by decide +kernel
theorem dX11_more_0 : decode cX11_more 0 = .ok (.iload_n 2, 1) := by decide +kernel
theorem dX11_more_1 : decode cX11_more 1 = .ok (.ifCond .ne 7, 3) := by decide +kernel
theorem dX11_more_4 : decode cX11_more 4 = .ok (.lload_n 0, 1) := by decide +kernel
theorem dX11_more_5 : decode cX11_more 5 = .ok (.goto 16, 3) := by decide +kernel
theorem dX11_more_8 : decode cX11_more 8 = .ok (.ldc2_w 208, 3) := by decide +kernel
theorem dX11_more_11 : decode cX11_more 11 = .ok (.lload_n 0, 1) := by decide +kernel
theorem dX11_more_12 : decode cX11_more 12 = .ok (.lmul, 1) := by decide +kernel
theorem dX11_more_13 : decode cX11_more 13 = .ok (.iload_n 2, 1) := by decide +kernel
theorem dX11_more_14 : decode cX11_more 14 = .ok (.bipush 97, 2) := by decide +kernel
theorem dX11_more_16 : decode cX11_more 16 = .ok (.isub, 1) := by decide +kernel
theorem dX11_more_17 : decode cX11_more 17 = .ok (.iconst 1, 1) := by decide +kernel
theorem dX11_more_18 : decode cX11_more 18 = .ok (.iadd, 1) := by decide +kernel
theorem dX11_more_19 : decode cX11_more 19 = .ok (.i2l, 1) := by decide +kernel
theorem dX11_more_20 : decode cX11_more 20 = .ok (.ladd, 1) := by decide +kernel
theorem dX11_more_21 : decode cX11_more 21 = .ok (.lreturn, 1) := by decide +kernel
theorem dX11_word_0 : decode cX11_word 0 = .ok (.lconst 0, 1) := by decide +kernel
theorem dX11_word_1 : decode cX11_word 1 = .ok (.iload_n 0, 1) := by decide +kernel
theorem dX11_word_2 : decode cX11_word 2 = .ok (.invokestatic 210, 3) := by decide +kernel
theorem dX11_word_5 : decode cX11_word 5 = .ok (.iload_n 1, 1) := by decide +kernel
theorem dX11_word_6 : decode cX11_word 6 = .ok (.invokestatic 210, 3) := by decide +kernel
theorem dX11_word_9 : decode cX11_word 9 = .ok (.iload_n 2, 1) := by decide +kernel
theorem dX11_word_10 : decode cX11_word 10 = .ok (.invokestatic 210, 3) := by decide +kernel
theorem dX11_word_13 : decode cX11_word 13 = .ok (.iload_n 3, 1) := by decide +kernel
theorem dX11_word_14 : decode cX11_word 14 = .ok (.invokestatic 210, 3) := by decide +kernel
theorem dX11_word_17 : decode cX11_word 17 = .ok (.iload 4, 2) := by decide +kernel
theorem dX11_word_19 : decode cX11_word 19 = .ok (.invokestatic 210, 3) := by decide +kernel
theorem dX11_word_22 : decode cX11_word 22 = .ok (.iload 5, 2) := by decide +kernel
theorem dX11_word_24 : decode cX11_word 24 = .ok (.invokestatic 210, 3) := by decide +kernel
theorem dX11_word_27 : decode cX11_word 27 = .ok (.iload 6, 2) := by decide +kernel
theorem dX11_word_29 : decode cX11_word 29 = .ok (.invokestatic 210, 3) := by decide +kernel
theorem dX11_word_32 : decode cX11_word 32 = .ok (.lreturn, 1) := by decide +kernel
theorem dX11_token_0 : decode cX11_token 0 = .ok (.aload_n 0, 1) := by decide +kernel
theorem dX11_token_1 : decode cX11_token 1 = .ok (.getfield 20, 3) := by decide +kernel
theorem dX11_token_4 : decode cX11_token 4 = .ok (.aload_n 0, 1) := by decide +kernel
theorem dX11_token_5 : decode cX11_token 5 = .ok (.getfield 214, 3) := by decide +kernel
theorem dX11_token_8 : decode cX11_token 8 = .ok (.iload_n 1, 1) := by decide +kernel
theorem dX11_token_9 : decode cX11_token 9 = .ok (.iastore, 1) := by decide +kernel
theorem dX11_token_10 : decode cX11_token 10 = .ok (.aload_n 0, 1) := by decide +kernel
theorem dX11_token_11 : decode cX11_token 11 = .ok (.getfield 24, 3) := by decide +kernel
theorem dX11_token_14 : decode cX11_token 14 = .ok (.aload_n 0, 1) := by decide +kernel
theorem dX11_token_15 : decode cX11_token 15 = .ok (.getfield 214, 3) := by decide +kernel
theorem dX11_token_18 : decode cX11_token 18 = .ok (.iload_n 2, 1) := by decide +kernel
theorem dX11_token_19 : decode cX11_token 19 = .ok (.iastore, 1) := by decide +kernel
theorem dX11_token_20 : decode cX11_token 20 = .ok (.aload_n 0, 1) := by decide +kernel
theorem dX11_token_21 : decode cX11_token 21 = .ok (.getfield 27, 3) := by decide +kernel
theorem dX11_token_24 : decode cX11_token 24 = .ok (.aload_n 0, 1) := by decide +kernel
theorem dX11_token_25 : decode cX11_token 25 = .ok (.getfield 214, 3) := by decide +kernel
theorem dX11_token_28 : decode cX11_token 28 = .ok (.iload_n 3, 1) := by decide +kernel
theorem dX11_token_29 : decode cX11_token 29 = .ok (.iastore, 1) := by decide +kernel
theorem dX11_token_30 : decode cX11_token 30 = .ok (.aload_n 0, 1) := by decide +kernel
theorem dX11_token_31 : decode cX11_token 31 = .ok (.getfield 30, 3) := by decide +kernel
theorem dX11_token_34 : decode cX11_token 34 = .ok (.aload_n 0, 1) := by decide +kernel
theorem dX11_token_35 : decode cX11_token 35 = .ok (.getfield 214, 3) := by decide +kernel
theorem dX11_token_38 : decode cX11_token 38 = .ok (.lload 4, 2) := by decide +kernel
theorem dX11_token_40 : decode cX11_token 40 = .ok (.lastore, 1) := by decide +kernel
theorem dX11_token_41 : decode cX11_token 41 = .ok (.aload_n 0, 1) := by decide +kernel
theorem dX11_token_42 : decode cX11_token 42 = .ok (.dup, 1) := by decide +kernel
theorem dX11_token_43 : decode cX11_token 43 = .ok (.getfield 214, 3) := by decide +kernel
theorem dX11_token_46 : decode cX11_token 46 = .ok (.iconst 1, 1) := by decide +kernel
theorem dX11_token_47 : decode cX11_token 47 = .ok (.iadd, 1) := by decide +kernel
theorem dX11_token_48 : decode cX11_token 48 = .ok (.putfield 214, 3) := by decide +kernel
theorem dX11_token_51 : decode cX11_token 51 = .ok (.return_, 1) := by decide +kernel
theorem dX11_cut_0 : decode cX11_cut 0 = .ok (.aload_n 0, 1) := by decide +kernel
theorem dX11_cut_1 : decode cX11_cut 1 = .ok (.iconst 0, 1) := by decide +kernel
theorem dX11_cut_2 : decode cX11_cut 2 = .ok (.putfield 214, 3) := by decide +kernel
theorem dX11_cut_5 : decode cX11_cut 5 = .ok (.iconst 0, 1) := by decide +kernel
theorem dX11_cut_6 : decode cX11_cut 6 = .ok (.istore_n 1, 1) := by decide +kernel
theorem dX11_cut_7 : decode cX11_cut 7 = .ok (.aload_n 0, 1) := by decide +kernel
theorem dX11_cut_8 : decode cX11_cut 8 = .ok (.getfield 214, 3) := by decide +kernel
theorem dX11_cut_11 : decode cX11_cut 11 = .ok (.sipush 400, 3) := by decide +kernel
theorem dX11_cut_14 : decode cX11_cut 14 = .ok (.if_icmp .gt 280, 3) := by decide +kernel
theorem dX11_cut_17 : decode cX11_cut 17 = .ok (.aload_n 0, 1) := by decide +kernel
theorem dX11_cut_18 : decode cX11_cut 18 = .ok (.iload_n 1, 1) := by decide +kernel
theorem dX11_cut_19 : decode cX11_cut 19 = .ok (.invokevirtual 217, 3) := by decide +kernel
theorem dX11_cut_22 : decode cX11_cut 22 = .ok (.istore_n 2, 1) := by decide +kernel
theorem dX11_cut_23 : decode cX11_cut 23 = .ok (.iload_n 1, 1) := by decide +kernel
theorem dX11_cut_24 : decode cX11_cut 24 = .ok (.aload_n 0, 1) := by decide +kernel
theorem dX11_cut_25 : decode cX11_cut 25 = .ok (.getfield 205, 3) := by decide +kernel
theorem dX11_cut_28 : decode cX11_cut 28 = .ok (.if_icmp .lt 15, 3) := by decide +kernel
theorem dX11_cut_31 : decode cX11_cut 31 = .ok (.aload_n 0, 1) := by decide +kernel
theorem dX11_cut_32 : decode cX11_cut 32 = .ok (.iconst 0, 1) := by decide +kernel
theorem dX11_cut_33 : decode cX11_cut 33 = .ok (.aload_n 0, 1) := by decide +kernel
theorem dX11_cut_34 : decode cX11_cut 34 = .ok (.getfield 205, 3) := by decide +kernel
theorem dX11_cut_37 : decode cX11_cut 37 = .ok (.iconst 0, 1) := by decide +kernel
theorem dX11_cut_38 : decode cX11_cut 38 = .ok (.lconst 0, 1) := by decide +kernel
theorem dX11_cut_39 : decode cX11_cut 39 = .ok (.invokevirtual 220, 3) := by decide +kernel
theorem dX11_cut_42 : decode cX11_cut 42 = .ok (.return_, 1) := by decide +kernel
theorem dX11_cut_43 : decode cX11_cut 43 = .ok (.iload_n 2, 1) := by decide +kernel
theorem dX11_cut_44 : decode cX11_cut 44 = .ok (.bipush 9, 2) := by decide +kernel
theorem dX11_cut_46 : decode cX11_cut 46 = .ok (.if_icmp .eq 21, 3) := by decide +kernel
theorem dX11_cut_49 : decode cX11_cut 49 = .ok (.iload_n 2, 1) := by decide +kernel
theorem dX11_cut_50 : decode cX11_cut 50 = .ok (.bipush 10, 2) := by decide +kernel
theorem dX11_cut_52 : decode cX11_cut 52 = .ok (.if_icmp .eq 15, 3) := by decide +kernel
theorem dX11_cut_55 : decode cX11_cut 55 = .ok (.iload_n 2, 1) := by decide +kernel
theorem dX11_cut_56 : decode cX11_cut 56 = .ok (.bipush 13, 2) := by decide +kernel
theorem dX11_cut_58 : decode cX11_cut 58 = .ok (.if_icmp .eq 9, 3) := by decide +kernel
theorem dX11_cut_61 : decode cX11_cut 61 = .ok (.iload_n 2, 1) := by decide +kernel
theorem dX11_cut_62 : decode cX11_cut 62 = .ok (.bipush 32, 2) := by decide +kernel
theorem dX11_cut_64 : decode cX11_cut 64 = .ok (.if_icmp .ne 9, 3) := by decide +kernel
theorem dX11_cut_67 : decode cX11_cut 67 = .ok (.iinc 1 1, 3) := by decide +kernel
theorem dX11_cut_70 : decode cX11_cut 70 = .ok (.goto 221, 3) := by decide +kernel
theorem dX11_cut_73 : decode cX11_cut 73 = .ok (.iload_n 2, 1) := by decide +kernel
theorem dX11_cut_74 : decode cX11_cut 74 = .ok (.invokestatic 224, 3) := by decide +kernel
theorem dX11_cut_77 : decode cX11_cut 77 = .ok (.ifCond .eq 119, 3) := by decide +kernel
theorem dX11_cut_80 : decode cX11_cut 80 = .ok (.iconst 0, 1) := by decide +kernel
theorem dX11_cut_81 : decode cX11_cut 81 = .ok (.istore_n 3, 1) := by decide +kernel
theorem dX11_cut_82 : decode cX11_cut 82 = .ok (.lconst 0, 1) := by decide +kernel
theorem dX11_cut_83 : decode cX11_cut 83 = .ok (.lstore 4, 2) := by decide +kernel
theorem dX11_cut_85 : decode cX11_cut 85 = .ok (.aload_n 0, 1) := by decide +kernel
theorem dX11_cut_86 : decode cX11_cut 86 = .ok (.iload_n 1, 1) := by decide +kernel
theorem dX11_cut_87 : decode cX11_cut 87 = .ok (.iload_n 3, 1) := by decide +kernel
theorem dX11_cut_88 : decode cX11_cut 88 = .ok (.iadd, 1) := by decide +kernel
theorem dX11_cut_89 : decode cX11_cut 89 = .ok (.invokevirtual 217, 3) := by decide +kernel
theorem dX11_cut_92 : decode cX11_cut 92 = .ok (.invokestatic 224, 3) := by decide +kernel
theorem dX11_cut_95 : decode cX11_cut 95 = .ok (.ifCond .eq 29, 3) := by decide +kernel
theorem dX11_cut_98 : decode cX11_cut 98 = .ok (.iload_n 3, 1) := by decide +kernel
theorem dX11_cut_99 : decode cX11_cut 99 = .ok (.bipush 8, 2) := by decide +kernel
theorem dX11_cut_101 : decode cX11_cut 101 = .ok (.if_icmp .ge 17, 3) := by decide +kernel
theorem dX11_cut_104 : decode cX11_cut 104 = .ok (.lload 4, 2) := by decide +kernel
theorem dX11_cut_106 : decode cX11_cut 106 = .ok (.aload_n 0, 1) := by decide +kernel
theorem dX11_cut_107 : decode cX11_cut 107 = .ok (.iload_n 1, 1) := by decide +kernel
theorem dX11_cut_108 : decode cX11_cut 108 = .ok (.iload_n 3, 1) := by decide +kernel
theorem dX11_cut_109 : decode cX11_cut 109 = .ok (.iadd, 1) := by decide +kernel
theorem dX11_cut_110 : decode cX11_cut 110 = .ok (.invokevirtual 217, 3) := by decide +kernel
theorem dX11_cut_113 : decode cX11_cut 113 = .ok (.invokestatic 210, 3) := by decide +kernel
end
section
theorem dX11_cut_116 : decode cX11_cut 116 = .ok (.lstore 4, 2) := by decide +kernel
theorem dX11_cut_118 : decode cX11_cut 118 = .ok (.iinc 3 1, 3) := by decide +kernel
theorem dX11_cut_121 : decode cX11_cut 121 = .ok (.goto (-36), 3) := by decide +kernel
theorem dX11_cut_124 : decode cX11_cut 124 = .ok (.iload_n 3, 1) := by decide +kernel
theorem dX11_cut_125 : decode cX11_cut 125 = .ok (.bipush 8, 2) := by decide +kernel
theorem dX11_cut_127 : decode cX11_cut 127 = .ok (.if_icmp .le 7, 3) := by decide +kernel
theorem dX11_cut_130 : decode cX11_cut 130 = .ok (.iconst 3, 1) := by decide +kernel
theorem dX11_cut_131 : decode cX11_cut 131 = .ok (.goto 4, 3) := by decide +kernel
theorem dX11_cut_134 : decode cX11_cut 134 = .ok (.iconst 1, 1) := by decide +kernel
theorem dX11_cut_135 : decode cX11_cut 135 = .ok (.istore 6, 2) := by decide +kernel
theorem dX11_cut_137 : decode cX11_cut 137 = .ok (.iload_n 3, 1) := by decide +kernel
theorem dX11_cut_138 : decode cX11_cut 138 = .ok (.bipush 7, 2) := by decide +kernel
theorem dX11_cut_140 : decode cX11_cut 140 = .ok (.if_icmp .gt 39, 3) := by decide +kernel
theorem dX11_cut_143 : decode cX11_cut 143 = .ok (.iconst 0, 1) := by decide +kernel
theorem dX11_cut_144 : decode cX11_cut 144 = .ok (.istore 7, 2) := by decide +kernel
theorem dX11_cut_146 : decode cX11_cut 146 = .ok (.iload 7, 2) := by decide +kernel
theorem dX11_cut_148 : decode cX11_cut 148 = .ok (.bipush 20, 2) := by decide +kernel
theorem dX11_cut_150 : decode cX11_cut 150 = .ok (.if_icmp .ge 29, 3) := by decide +kernel
theorem dX11_cut_153 : decode cX11_cut 153 = .ok (.aload_n 0, 1) := by decide +kernel
theorem dX11_cut_154 : decode cX11_cut 154 = .ok (.getfield 34, 3) := by decide +kernel
theorem dX11_cut_157 : decode cX11_cut 157 = .ok (.iload 7, 2) := by decide +kernel
theorem dX11_cut_159 : decode cX11_cut 159 = .ok (.laload, 1) := by decide +kernel
theorem dX11_cut_160 : decode cX11_cut 160 = .ok (.lload 4, 2) := by decide +kernel
theorem dX11_cut_162 : decode cX11_cut 162 = .ok (.lcmp, 1) := by decide +kernel
theorem dX11_cut_163 : decode cX11_cut 163 = .ok (.ifCond .ne 10, 3) := by decide +kernel
theorem dX11_cut_166 : decode cX11_cut 166 = .ok (.bipush 20, 2) := by decide +kernel
theorem dX11_cut_168 : decode cX11_cut 168 = .ok (.iload 7, 2) := by decide +kernel
theorem dX11_cut_170 : decode cX11_cut 170 = .ok (.iadd, 1) := by decide +kernel
theorem dX11_cut_171 : decode cX11_cut 171 = .ok (.istore 6, 2) := by decide +kernel
theorem dX11_cut_173 : decode cX11_cut 173 = .ok (.iinc 7 1, 3) := by decide +kernel
theorem dX11_cut_176 : decode cX11_cut 176 = .ok (.goto (-30), 3) := by decide +kernel
theorem dX11_cut_179 : decode cX11_cut 179 = .ok (.aload_n 0, 1) := by decide +kernel
theorem dX11_cut_180 : decode cX11_cut 180 = .ok (.iload 6, 2) := by decide +kernel
theorem dX11_cut_182 : decode cX11_cut 182 = .ok (.iload_n 1, 1) := by decide +kernel
theorem dX11_cut_183 : decode cX11_cut 183 = .ok (.iconst 0, 1) := by decide +kernel
theorem dX11_cut_184 : decode cX11_cut 184 = .ok (.lload 4, 2) := by decide +kernel
theorem dX11_cut_186 : decode cX11_cut 186 = .ok (.invokevirtual 220, 3) := by decide +kernel
theorem dX11_cut_189 : decode cX11_cut 189 = .ok (.iload_n 1, 1) := by decide +kernel
theorem dX11_cut_190 : decode cX11_cut 190 = .ok (.iload_n 3, 1) := by decide +kernel
theorem dX11_cut_191 : decode cX11_cut 191 = .ok (.iadd, 1) := by decide +kernel
theorem dX11_cut_192 : decode cX11_cut 192 = .ok (.istore_n 1, 1) := by decide +kernel
theorem dX11_cut_193 : decode cX11_cut 193 = .ok (.goto 98, 3) := by decide +kernel
theorem dX11_cut_196 : decode cX11_cut 196 = .ok (.iload_n 2, 1) := by decide +kernel
theorem dX11_cut_197 : decode cX11_cut 197 = .ok (.invokestatic 228, 3) := by decide +kernel
theorem dX11_cut_200 : decode cX11_cut 200 = .ok (.ifCond .eq 75, 3) := by decide +kernel
theorem dX11_cut_203 : decode cX11_cut 203 = .ok (.iconst 0, 1) := by decide +kernel
theorem dX11_cut_204 : decode cX11_cut 204 = .ok (.istore_n 3, 1) := by decide +kernel
theorem dX11_cut_205 : decode cX11_cut 205 = .ok (.iconst 0, 1) := by decide +kernel
theorem dX11_cut_206 : decode cX11_cut 206 = .ok (.istore 4, 2) := by decide +kernel
theorem dX11_cut_208 : decode cX11_cut 208 = .ok (.aload_n 0, 1) := by decide +kernel
theorem dX11_cut_209 : decode cX11_cut 209 = .ok (.iload_n 1, 1) := by decide +kernel
theorem dX11_cut_210 : decode cX11_cut 210 = .ok (.iload_n 3, 1) := by decide +kernel
theorem dX11_cut_211 : decode cX11_cut 211 = .ok (.iadd, 1) := by decide +kernel
theorem dX11_cut_212 : decode cX11_cut 212 = .ok (.invokevirtual 217, 3) := by decide +kernel
theorem dX11_cut_215 : decode cX11_cut 215 = .ok (.invokestatic 228, 3) := by decide +kernel
theorem dX11_cut_218 : decode cX11_cut 218 = .ok (.ifCond .eq 32, 3) := by decide +kernel
theorem dX11_cut_221 : decode cX11_cut 221 = .ok (.iload_n 3, 1) := by decide +kernel
theorem dX11_cut_222 : decode cX11_cut 222 = .ok (.iconst 4, 1) := by decide +kernel
theorem dX11_cut_223 : decode cX11_cut 223 = .ok (.if_icmp .ge 21, 3) := by decide +kernel
theorem dX11_cut_226 : decode cX11_cut 226 = .ok (.bipush 10, 2) := by decide +kernel
theorem dX11_cut_228 : decode cX11_cut 228 = .ok (.iload 4, 2) := by decide +kernel
theorem dX11_cut_230 : decode cX11_cut 230 = .ok (.imul, 1) := by decide +kernel
theorem dX11_cut_231 : decode cX11_cut 231 = .ok (.aload_n 0, 1) := by decide +kernel
theorem dX11_cut_232 : decode cX11_cut 232 = .ok (.iload_n 1, 1) := by decide +kernel
theorem dX11_cut_233 : decode cX11_cut 233 = .ok (.iload_n 3, 1) := by decide +kernel
theorem dX11_cut_234 : decode cX11_cut 234 = .ok (.iadd, 1) := by decide +kernel
theorem dX11_cut_235 : decode cX11_cut 235 = .ok (.invokevirtual 217, 3) := by decide +kernel
theorem dX11_cut_238 : decode cX11_cut 238 = .ok (.iadd, 1) := by decide +kernel
theorem dX11_cut_239 : decode cX11_cut 239 = .ok (.bipush 48, 2) := by decide +kernel
theorem dX11_cut_241 : decode cX11_cut 241 = .ok (.isub, 1) := by decide +kernel
theorem dX11_cut_242 : decode cX11_cut 242 = .ok (.istore 4, 2) := by decide +kernel
theorem dX11_cut_244 : decode cX11_cut 244 = .ok (.iinc 3 1, 3) := by decide +kernel
theorem dX11_cut_247 : decode cX11_cut 247 = .ok (.goto (-39), 3) := by decide +kernel
theorem dX11_cut_250 : decode cX11_cut 250 = .ok (.aload_n 0, 1) := by decide +kernel
theorem dX11_cut_251 : decode cX11_cut 251 = .ok (.iload_n 3, 1) := by decide +kernel
theorem dX11_cut_252 : decode cX11_cut 252 = .ok (.iconst 4, 1) := by decide +kernel
theorem dX11_cut_253 : decode cX11_cut 253 = .ok (.if_icmp .le 7, 3) := by decide +kernel
theorem dX11_cut_256 : decode cX11_cut 256 = .ok (.iconst 3, 1) := by decide +kernel
theorem dX11_cut_257 : decode cX11_cut 257 = .ok (.goto 4, 3) := by decide +kernel
theorem dX11_cut_260 : decode cX11_cut 260 = .ok (.iconst 2, 1) := by decide +kernel
theorem dX11_cut_261 : decode cX11_cut 261 = .ok (.iload_n 1, 1) := by decide +kernel
theorem dX11_cut_262 : decode cX11_cut 262 = .ok (.iload 4, 2) := by decide +kernel
theorem dX11_cut_264 : decode cX11_cut 264 = .ok (.lconst 0, 1) := by decide +kernel
theorem dX11_cut_265 : decode cX11_cut 265 = .ok (.invokevirtual 220, 3) := by decide +kernel
theorem dX11_cut_268 : decode cX11_cut 268 = .ok (.iload_n 1, 1) := by decide +kernel
theorem dX11_cut_269 : decode cX11_cut 269 = .ok (.iload_n 3, 1) := by decide +kernel
theorem dX11_cut_270 : decode cX11_cut 270 = .ok (.iadd, 1) := by decide +kernel
theorem dX11_cut_271 : decode cX11_cut 271 = .ok (.istore_n 1, 1) := by decide +kernel
theorem dX11_cut_272 : decode cX11_cut 272 = .ok (.goto 19, 3) := by decide +kernel
theorem dX11_cut_275 : decode cX11_cut 275 = .ok (.iload_n 1, 1) := by decide +kernel
theorem dX11_cut_276 : decode cX11_cut 276 = .ok (.aload_n 0, 1) := by decide +kernel
theorem dX11_cut_277 : decode cX11_cut 277 = .ok (.iload_n 1, 1) := by decide +kernel
theorem dX11_cut_278 : decode cX11_cut 278 = .ok (.iload_n 2, 1) := by decide +kernel
theorem dX11_cut_279 : decode cX11_cut 279 = .ok (.aload_n 0, 1) := by decide +kernel
theorem dX11_cut_280 : decode cX11_cut 280 = .ok (.iload_n 1, 1) := by decide +kernel
theorem dX11_cut_281 : decode cX11_cut 281 = .ok (.iconst 1, 1) := by decide +kernel
theorem dX11_cut_282 : decode cX11_cut 282 = .ok (.iadd, 1) := by decide +kernel
theorem dX11_cut_283 : decode cX11_cut 283 = .ok (.invokevirtual 217, 3) := by decide +kernel
theorem dX11_cut_286 : decode cX11_cut 286 = .ok (.invokevirtual 231, 3) := by decide +kernel
theorem dX11_cut_289 : decode cX11_cut 289 = .ok (.iadd, 1) := by decide +kernel
theorem dX11_cut_290 : decode cX11_cut 290 = .ok (.istore_n 1, 1) := by decide +kernel
theorem dX11_cut_291 : decode cX11_cut 291 = .ok (.goto (-284), 3) := by decide +kernel
theorem dX11_cut_294 : decode cX11_cut 294 = .ok (.return_, 1) := by decide +kernel
theorem dX11_sign_0 : decode cX11_sign 0 = .ok (.iload_n 3, 1) := by decide +kernel
theorem dX11_sign_1 : decode cX11_sign 1 = .ok (.bipush 61, 2) := by decide +kernel
theorem dX11_sign_3 : decode cX11_sign 3 = .ok (.if_icmp .eq 7, 3) := by decide +kernel
theorem dX11_sign_6 : decode cX11_sign 6 = .ok (.iconst 0, 1) := by decide +kernel
theorem dX11_sign_7 : decode cX11_sign 7 = .ok (.goto 37, 3) := by decide +kernel
theorem dX11_sign_10 : decode cX11_sign 10 = .ok (.iload_n 2, 1) := by decide +kernel
theorem dX11_sign_11 : decode cX11_sign 11 = .ok (.bipush 61, 2) := by decide +kernel
theorem dX11_sign_13 : decode cX11_sign 13 = .ok (.if_icmp .ne 8, 3) := by decide +kernel
theorem dX11_sign_16 : decode cX11_sign 16 = .ok (.bipush 11, 2) := by decide +kernel
theorem dX11_sign_18 : decode cX11_sign 18 = .ok (.goto 26, 3) := by decide +kernel
theorem dX11_sign_21 : decode cX11_sign 21 = .ok (.iload_n 2, 1) := by decide +kernel
theorem dX11_sign_22 : decode cX11_sign 22 = .ok (.bipush 33, 2) := by decide +kernel
theorem dX11_sign_24 : decode cX11_sign 24 = .ok (.if_icmp .ne 8, 3) := by decide +kernel
theorem dX11_sign_27 : decode cX11_sign 27 = .ok (.bipush 12, 2) := by decide +kernel
theorem dX11_sign_29 : decode cX11_sign 29 = .ok (.goto 15, 3) := by decide +kernel
theorem dX11_sign_32 : decode cX11_sign 32 = .ok (.iload_n 2, 1) := by decide +kernel
theorem dX11_sign_33 : decode cX11_sign 33 = .ok (.bipush 60, 2) := by decide +kernel
theorem dX11_sign_35 : decode cX11_sign 35 = .ok (.if_icmp .ne 8, 3) := by decide +kernel
theorem dX11_sign_38 : decode cX11_sign 38 = .ok (.bipush 14, 2) := by decide +kernel
theorem dX11_sign_40 : decode cX11_sign 40 = .ok (.goto 4, 3) := by decide +kernel
theorem dX11_sign_43 : decode cX11_sign 43 = .ok (.iconst 0, 1) := by decide +kernel
theorem dX11_sign_44 : decode cX11_sign 44 = .ok (.istore 4, 2) := by decide +kernel
theorem dX11_sign_46 : decode cX11_sign 46 = .ok (.iconst 3, 1) := by decide +kernel
theorem dX11_sign_47 : decode cX11_sign 47 = .ok (.istore 5, 2) := by decide +kernel
theorem dX11_sign_49 : decode cX11_sign 49 = .ok (.iload 4, 2) := by decide +kernel
theorem dX11_sign_51 : decode cX11_sign 51 = .ok (.ifCond .le 10, 3) := by decide +kernel
theorem dX11_sign_54 : decode cX11_sign 54 = .ok (.iload 4, 2) := by decide +kernel
theorem dX11_sign_56 : decode cX11_sign 56 = .ok (.istore 5, 2) := by decide +kernel
theorem dX11_sign_58 : decode cX11_sign 58 = .ok (.goto 90, 3) := by decide +kernel
theorem dX11_sign_61 : decode cX11_sign 61 = .ok (.iload_n 2, 1) := by decide +kernel
theorem dX11_sign_62 : decode cX11_sign 62 = .ok (.bipush 59, 2) := by decide +kernel
theorem dX11_sign_64 : decode cX11_sign 64 = .ok (.if_icmp .ne 9, 3) := by decide +kernel
theorem dX11_sign_67 : decode cX11_sign 67 = .ok (.iconst 4, 1) := by decide +kernel
theorem dX11_sign_68 : decode cX11_sign 68 = .ok (.istore 5, 2) := by decide +kernel
theorem dX11_sign_70 : decode cX11_sign 70 = .ok (.goto 78, 3) := by decide +kernel
theorem dX11_sign_73 : decode cX11_sign 73 = .ok (.iload_n 2, 1) := by decide +kernel
theorem dX11_sign_74 : decode cX11_sign 74 = .ok (.bipush 40, 2) := by decide +kernel
theorem dX11_sign_76 : decode cX11_sign 76 = .ok (.if_icmp .ne 10, 3) := by decide +kernel
theorem dX11_sign_79 : decode cX11_sign 79 = .ok (.bipush 6, 2) := by decide +kernel
theorem dX11_sign_81 : decode cX11_sign 81 = .ok (.istore 5, 2) := by decide +kernel
theorem dX11_sign_83 : decode cX11_sign 83 = .ok (.goto 65, 3) := by decide +kernel
theorem dX11_sign_86 : decode cX11_sign 86 = .ok (.iload_n 2, 1) := by decide +kernel
theorem dX11_sign_87 : decode cX11_sign 87 = .ok (.bipush 41, 2) := by decide +kernel
theorem dX11_sign_89 : decode cX11_sign 89 = .ok (.if_icmp .ne 10, 3) := by decide +kernel
theorem dX11_sign_92 : decode cX11_sign 92 = .ok (.bipush 7, 2) := by decide +kernel
theorem dX11_sign_94 : decode cX11_sign 94 = .ok (.istore 5, 2) := by decide +kernel
theorem dX11_sign_96 : decode cX11_sign 96 = .ok (.goto 52, 3) := by decide +kernel
theorem dX11_sign_99 : decode cX11_sign 99 = .ok (.iload_n 2, 1) := by decide +kernel
theorem dX11_sign_100 : decode cX11_sign 100 = .ok (.bipush 43, 2) := by decide +kernel
theorem dX11_sign_102 : decode cX11_sign 102 = .ok (.if_icmp .ne 10, 3) := by decide +kernel
theorem dX11_sign_105 : decode cX11_sign 105 = .ok (.bipush 8, 2) := by decide +kernel
theorem dX11_sign_107 : decode cX11_sign 107 = .ok (.istore 5, 2) := by decide +kernel
theorem dX11_sign_109 : decode cX11_sign 109 = .ok (.goto 39, 3) := by decide +kernel
theorem dX11_sign_112 : decode cX11_sign 112 = .ok (.iload_n 2, 1) := by decide +kernel
theorem dX11_sign_113 : decode cX11_sign 113 = .ok (.bipush 45, 2) := by decide +kernel
theorem dX11_sign_115 : decode cX11_sign 115 = .ok (.if_icmp .ne 10, 3) := by decide +kernel
theorem dX11_sign_118 : decode cX11_sign 118 = .ok (.bipush 9, 2) := by decide +kernel
theorem dX11_sign_120 : decode cX11_sign 120 = .ok (.istore 5, 2) := by decide +kernel
theorem dX11_sign_122 : decode cX11_sign 122 = .ok (.goto 26, 3) := by decide +kernel
theorem dX11_sign_125 : decode cX11_sign 125 = .ok (.iload_n 2, 1) := by decide +kernel
theorem dX11_sign_126 : decode cX11_sign 126 = .ok (.bipush 42, 2) := by decide +kernel
theorem dX11_sign_128 : decode cX11_sign 128 = .ok (.if_icmp .ne 10, 3) := by decide +kernel
theorem dX11_sign_131 : decode cX11_sign 131 = .ok (.bipush 10, 2) := by decide +kernel
theorem dX11_sign_133 : decode cX11_sign 133 = .ok (.istore 5, 2) := by decide +kernel
theorem dX11_sign_135 : decode cX11_sign 135 = .ok (.goto 13, 3) := by decide +kernel
theorem dX11_sign_138 : decode cX11_sign 138 = .ok (.iload_n 2, 1) := by decide +kernel
theorem dX11_sign_139 : decode cX11_sign 139 = .ok (.bipush 60, 2) := by decide +kernel
theorem dX11_sign_141 : decode cX11_sign 141 = .ok (.if_icmp .ne 7, 3) := by decide +kernel
theorem dX11_sign_144 : decode cX11_sign 144 = .ok (.bipush 13, 2) := by decide +kernel
theorem dX11_sign_146 : decode cX11_sign 146 = .ok (.istore 5, 2) := by decide +kernel
theorem dX11_sign_148 : decode cX11_sign 148 = .ok (.aload_n 0, 1) := by decide +kernel
theorem dX11_sign_149 : decode cX11_sign 149 = .ok (.iload 5, 2) := by decide +kernel
theorem dX11_sign_151 : decode cX11_sign 151 = .ok (.iload_n 1, 1) := by decide +kernel
theorem dX11_sign_152 : decode cX11_sign 152 = .ok (.iconst 0, 1) := by decide +kernel
theorem dX11_sign_153 : decode cX11_sign 153 = .ok (.lconst 0, 1) := by decide +kernel
theorem dX11_sign_154 : decode cX11_sign 154 = .ok (.invokevirtual 220, 3) := by decide +kernel
theorem dX11_sign_157 : decode cX11_sign 157 = .ok (.iload 4, 2) := by decide +kernel
theorem dX11_sign_159 : decode cX11_sign 159 = .ok (.ifCond .le 7, 3) := by decide +kernel
theorem dX11_sign_162 : decode cX11_sign 162 = .ok (.iconst 2, 1) := by decide +kernel
theorem dX11_sign_163 : decode cX11_sign 163 = .ok (.goto 4, 3) := by decide +kernel
theorem dX11_sign_166 : decode cX11_sign 166 = .ok (.iconst 1, 1) := by decide +kernel
theorem dX11_sign_167 : decode cX11_sign 167 = .ok (.ireturn, 1) := by decide +kernel
theorem dX11_is_0 : decode cX11_is 0 = .ok (.aload_n 0, 1) := by decide +kernel
theorem dX11_is_1 : decode cX11_is 1 = .ok (.getfield 235, 3) := by decide +kernel
theorem dX11_is_4 : decode cX11_is 4 = .ok (.ifCond .ne 20, 3) := by decide +kernel
theorem dX11_is_7 : decode cX11_is 7 = .ok (.aload_n 0, 1) := by decide +kernel
theorem dX11_is_8 : decode cX11_is 8 = .ok (.getfield 20, 3) := by decide +kernel
theorem dX11_is_11 : decode cX11_is 11 = .ok (.aload_n 0, 1) := by decide +kernel
theorem dX11_is_12 : decode cX11_is 12 = .ok (.getfield 238, 3) := by decide +kernel
theorem dX11_is_15 : decode cX11_is 15 = .ok (.iaload, 1) := by decide +kernel
theorem dX11_is_16 : decode cX11_is 16 = .ok (.iload_n 1, 1) := by decide +kernel
theorem dX11_is_17 : decode cX11_is 17 = .ok (.if_icmp .ne 7, 3) := by decide +kernel
theorem dX11_is_20 : decode cX11_is 20 = .ok (.iconst 1, 1) := by decide +kernel
theorem dX11_is_21 : decode cX11_is 21 = .ok (.goto 4, 3) := by decide +kernel
theorem dX11_is_24 : decode cX11_is 24 = .ok (.iconst 0, 1) := by decide +kernel
theorem dX11_is_25 : decode cX11_is 25 = .ok (.ireturn, 1) := by decide +kernel
theorem dX11_fail_0 : decode cX11_fail 0 = .ok (.aload_n 0, 1) := by decide +kernel
theorem dX11_fail_1 : decode cX11_fail 1 = .ok (.getfield 235, 3) := by decide +kernel
theorem dX11_fail_4 : decode cX11_fail 4 = .ok (.ifCond .le 4, 3) := by decide +kernel
theorem dX11_fail_7 : decode cX11_fail 7 = .ok (.return_, 1) := by decide +kernel
theorem dX11_fail_8 : decode cX11_fail 8 = .ok (.aload_n 0, 1) := by decide +kernel
theorem dX11_fail_9 : decode cX11_fail 9 = .ok (.iload_n 1, 1) := by decide +kernel
theorem dX11_fail_10 : decode cX11_fail 10 = .ok (.putfield 235, 3) := by decide +kernel
theorem dX11_fail_13 : decode cX11_fail 13 = .ok (.aload_n 0, 1) := by decide +kernel
theorem dX11_fail_14 : decode cX11_fail 14 = .ok (.aload_n 0, 1) := by decide +kernel
theorem dX11_fail_15 : decode cX11_fail 15 = .ok (.getfield 24, 3) := by decide +kernel
theorem dX11_fail_18 : decode cX11_fail 18 = .ok (.aload_n 0, 1) := by decide +kernel
theorem dX11_fail_19 : decode cX11_fail 19 = .ok (.getfield 238, 3) := by decide +kernel
theorem dX11_fail_22 : decode cX11_fail 22 = .ok (.iaload, 1) := by decide +kernel
theorem dX11_fail_23 : decode cX11_fail 23 = .ok (.putfield 241, 3) := by decide +kernel
theorem dX11_fail_26 : decode cX11_fail 26 = .ok (.return_, 1) := by decide +kernel
theorem dX11_next_0 : decode cX11_next 0 = .ok (.aload_n 0, 1) := by decide +kernel
theorem dX11_next_1 : decode cX11_next 1 = .ok (.getfield 238, 3) := by decide +kernel
theorem dX11_next_4 : decode cX11_next 4 = .ok (.sipush 400, 3) := by decide +kernel
theorem dX11_next_7 : decode cX11_next 7 = .ok (.if_icmp .ne 11, 3) := by decide +kernel
theorem dX11_next_10 : decode cX11_next 10 = .ok (.aload_n 0, 1) := by decide +kernel
theorem dX11_next_11 : decode cX11_next 11 = .ok (.iconst 2, 1) := by decide +kernel
theorem dX11_next_12 : decode cX11_next 12 = .ok (.invokevirtual 250, 3) := by decide +kernel
theorem dX11_next_15 : decode cX11_next 15 = .ok (.goto 13, 3) := by decide +kernel
theorem dX11_next_18 : decode cX11_next 18 = .ok (.aload_n 0, 1) := by decide +kernel
theorem dX11_next_19 : decode cX11_next 19 = .ok (.dup, 1) := by decide +kernel
theorem dX11_next_20 : decode cX11_next 20 = .ok (.getfield 238, 3) := by decide +kernel
theorem dX11_next_23 : decode cX11_next 23 = .ok (.iconst 1, 1) := by decide +kernel
theorem dX11_next_24 : decode cX11_next 24 = .ok (.iadd, 1) := by decide +kernel
theorem dX11_next_25 : decode cX11_next 25 = .ok (.putfield 238, 3) := by decide +kernel
theorem dX11_next_28 : decode cX11_next 28 = .ok (.return_, 1) := by decide +kernel
theorem dX11_must_0 : decode cX11_must 0 = .ok (.aload_n 0, 1) := by decide +kernel
theorem dX11_must_1 : decode cX11_must 1 = .ok (.iload_n 1, 1) := by decide +kernel
theorem dX11_must_2 : decode cX11_must 2 = .ok (.invokevirtual 253, 3) := by decide +kernel
theorem dX11_must_5 : decode cX11_must 5 = .ok (.ifCond .eq 10, 3) := by decide +kernel
theorem dX11_must_8 : decode cX11_must 8 = .ok (.aload_n 0, 1) := by decide +kernel
theorem dX11_must_9 : decode cX11_must 9 = .ok (.invokevirtual 256, 3) := by decide +kernel
theorem dX11_must_12 : decode cX11_must 12 = .ok (.goto 8, 3) := by decide +kernel
theorem dX11_must_15 : decode cX11_must 15 = .ok (.aload_n 0, 1) := by decide +kernel
theorem dX11_must_16 : decode cX11_must 16 = .ok (.iconst 1, 1) := by decide +kernel
theorem dX11_must_17 : decode cX11_must 17 = .ok (.invokevirtual 250, 3) := by decide +kernel
theorem dX11_must_20 : decode cX11_must 20 = .ok (.return_, 1) := by decide +kernel
theorem dX11_read_0 : decode cX11_read 0 = .ok (.iload_n 1, 1) := by decide +kernel
theorem dX11_read_1 : decode cX11_read 1 = .ok (.ifCond .lt 24, 3) := by decide +kernel
theorem dX11_read_4 : decode cX11_read 4 = .ok (.iload_n 1, 1) := by decide +kernel
theorem dX11_read_5 : decode cX11_read 5 = .ok (.iconst 3, 1) := by decide +kernel
theorem dX11_read_6 : decode cX11_read 6 = .ok (.if_icmp .gt 19, 3) := by decide +kernel
theorem dX11_read_9 : decode cX11_read 9 = .ok (.iload_n 2, 1) := by decide +kernel
theorem dX11_read_10 : decode cX11_read 10 = .ok (.invokestatic 259, 3) := by decide +kernel
theorem dX11_read_13 : decode cX11_read 13 = .ok (.ifCond .eq 12, 3) := by decide +kernel
theorem dX11_read_16 : decode cX11_read 16 = .ok (.aload_n 0, 1) := by decide +kernel
theorem dX11_read_17 : decode cX11_read 17 = .ok (.getfield 262, 3) := by decide +kernel
theorem dX11_read_20 : decode cX11_read 20 = .ok (.bipush 8, 2) := by decide +kernel
theorem dX11_read_22 : decode cX11_read 22 = .ok (.if_icmp .ne 5, 3) := by decide +kernel
theorem dX11_read_25 : decode cX11_read 25 = .ok (.iconst (-1), 1) := by decide +kernel
theorem dX11_read_26 : decode cX11_read 26 = .ok (.ireturn, 1) := by decide +kernel
theorem dX11_read_27 : decode cX11_read 27 = .ok (.aload_n 0, 1) := by decide +kernel
theorem dX11_read_28 : decode cX11_read 28 = .ok (.aload_n 0, 1) := by decide +kernel
theorem dX11_read_29 : decode cX11_read 29 = .ok (.getfield 198, 3) := by decide +kernel
theorem dX11_read_32 : decode cX11_read 32 = .ok (.putfield 205, 3) := by decide +kernel
theorem dX11_read_35 : decode cX11_read 35 = .ok (.iconst 0, 1) := by decide +kernel
theorem dX11_read_36 : decode cX11_read 36 = .ok (.istore_n 3, 1) := by decide +kernel
theorem dX11_read_37 : decode cX11_read 37 = .ok (.iload_n 3, 1) := by decide +kernel
theorem dX11_read_38 : decode cX11_read 38 = .ok (.aload_n 0, 1) := by decide +kernel
theorem dX11_read_39 : decode cX11_read 39 = .ok (.getfield 205, 3) := by decide +kernel
theorem dX11_read_42 : decode cX11_read 42 = .ok (.if_icmp .ge 21, 3) := by decide +kernel
theorem dX11_read_45 : decode cX11_read 45 = .ok (.aload_n 0, 1) := by decide +kernel
theorem dX11_read_46 : decode cX11_read 46 = .ok (.getfield 17, 3) := by decide +kernel
theorem dX11_read_49 : decode cX11_read 49 = .ok (.iload_n 3, 1) := by decide +kernel
theorem dX11_read_50 : decode cX11_read 50 = .ok (.aload_n 0, 1) := by decide +kernel
theorem dX11_read_51 : decode cX11_read 51 = .ok (.getfield 13, 3) := by decide +kernel
theorem dX11_read_54 : decode cX11_read 54 = .ok (.iload_n 3, 1) := by decide +kernel
theorem dX11_read_55 : decode cX11_read 55 = .ok (.baload, 1) := by decide +kernel
theorem dX11_read_56 : decode cX11_read 56 = .ok (.bastore, 1) := by decide +kernel
theorem dX11_read_57 : decode cX11_read 57 = .ok (.iinc 3 1, 3) := by decide +kernel
theorem dX11_read_60 : decode cX11_read 60 = .ok (.goto (-23), 3) := by decide +kernel
theorem dX11_read_63 : decode cX11_read 63 = .ok (.aload_n 0, 1) := by decide +kernel
theorem dX11_read_64 : decode cX11_read 64 = .ok (.iconst 0, 1) := by decide +kernel
theorem dX11_read_65 : decode cX11_read 65 = .ok (.putfield 198, 3) := by decide +kernel
theorem dX11_read_68 : decode cX11_read 68 = .ok (.aload_n 0, 1) := by decide +kernel
theorem dX11_read_69 : decode cX11_read 69 = .ok (.invokevirtual 265, 3) := by decide +kernel
theorem dX11_read_72 : decode cX11_read 72 = .ok (.aload_n 0, 1) := by decide +kernel
theorem dX11_read_73 : decode cX11_read 73 = .ok (.iconst 0, 1) := by decide +kernel
theorem dX11_read_74 : decode cX11_read 74 = .ok (.putfield 238, 3) := by decide +kernel
theorem dX11_read_77 : decode cX11_read 77 = .ok (.aload_n 0, 1) := by decide +kernel
theorem dX11_read_78 : decode cX11_read 78 = .ok (.iconst 0, 1) := by decide +kernel
theorem dX11_read_79 : decode cX11_read 79 = .ok (.putfield 268, 3) := by decide +kernel
theorem dX11_read_82 : decode cX11_read 82 = .ok (.aload_n 0, 1) := by decide +kernel
theorem dX11_read_83 : decode cX11_read 83 = .ok (.iconst 0, 1) := by decide +kernel
theorem dX11_read_84 : decode cX11_read 84 = .ok (.putfield 235, 3) := by decide +kernel
theorem dX11_read_87 : decode cX11_read 87 = .ok (.aload_n 0, 1) := by decide +kernel
theorem dX11_read_88 : decode cX11_read 88 = .ok (.iconst 0, 1) := by decide +kernel
theorem dX11_read_89 : decode cX11_read 89 = .ok (.putfield 244, 3) := by decide +kernel
theorem dX11_read_92 : decode cX11_read 92 = .ok (.aload_n 0, 1) := by decide +kernel
theorem dX11_read_93 : decode cX11_read 93 = .ok (.aload_n 0, 1) := by decide +kernel
theorem dX11_read_94 : decode cX11_read 94 = .ok (.getfield 262, 3) := by decide +kernel
theorem dX11_read_97 : decode cX11_read 97 = .ok (.putfield 271, 3) := by decide +kernel
theorem dX11_read_100 : decode cX11_read 100 = .ok (.aload_n 0, 1) := by decide +kernel
theorem dX11_read_101 : decode cX11_read 101 = .ok (.getfield 46, 3) := by decide +kernel
theorem dX11_read_104 : decode cX11_read 104 = .ok (.aload_n 0, 1) := by decide +kernel
theorem dX11_read_105 : decode cX11_read 105 = .ok (.getfield 271, 3) := by decide +kernel
theorem dX11_read_108 : decode cX11_read 108 = .ok (.iconst 0, 1) := by decide +kernel
theorem dX11_read_109 : decode cX11_read 109 = .ok (.iastore, 1) := by decide +kernel
theorem dX11_read_110 : decode cX11_read 110 = .ok (.aload_n 0, 1) := by decide +kernel
theorem dX11_read_111 : decode cX11_read 111 = .ok (.getfield 67, 3) := by decide +kernel
theorem dX11_read_114 : decode cX11_read 114 = .ok (.aload_n 0, 1) := by decide +kernel
theorem dX11_read_115 : decode cX11_read 115 = .ok (.getfield 271, 3) := by decide +kernel
theorem dX11_read_118 : decode cX11_read 118 = .ok (.iconst 0, 1) := by decide +kernel
theorem dX11_read_119 : decode cX11_read 119 = .ok (.iastore, 1) := by decide +kernel
theorem dX11_read_120 : decode cX11_read 120 = .ok (.aload_n 0, 1) := by decide +kernel
theorem dX11_read_121 : decode cX11_read 121 = .ok (.sipush 500, 3) := by decide +kernel
theorem dX11_read_124 : decode cX11_read 124 = .ok (.aload_n 0, 1) := by decide +kernel
theorem dX11_read_125 : decode cX11_read 125 = .ok (.getfield 271, 3) := by decide +kernel
theorem dX11_read_128 : decode cX11_read 128 = .ok (.imul, 1) := by decide +kernel
theorem dX11_read_129 : decode cX11_read 129 = .ok (.putfield 274, 3) := by decide +kernel
theorem dX11_read_132 : decode cX11_read 132 = .ok (.aload_n 0, 1) := by decide +kernel
theorem dX11_read_133 : decode cX11_read 133 = .ok (.getfield 235, 3) := by decide +kernel
theorem dX11_read_136 : decode cX11_read 136 = .ok (.ifCond .ne 18, 3) := by decide +kernel
theorem dX11_read_139 : decode cX11_read 139 = .ok (.aload_n 0, 1) := by decide +kernel
theorem dX11_read_140 : decode cX11_read 140 = .ok (.iconst 0, 1) := by decide +kernel
theorem dX11_read_141 : decode cX11_read 141 = .ok (.invokevirtual 253, 3) := by decide +kernel
theorem dX11_read_144 : decode cX11_read 144 = .ok (.ifCond .ne 10, 3) := by decide +kernel
theorem dX11_read_147 : decode cX11_read 147 = .ok (.aload_n 0, 1) := by decide +kernel
theorem dX11_read_148 : decode cX11_read 148 = .ok (.invokevirtual 277, 3) := by decide +kernel
theorem dX11_read_151 : decode cX11_read 151 = .ok (.goto (-19), 3) := by decide +kernel
theorem dX11_read_154 : decode cX11_read 154 = .ok (.aload_n 0, 1) := by decide +kernel
theorem dX11_read_155 : decode cX11_read 155 = .ok (.aload_n 0, 1) := by decide +kernel
theorem dX11_read_156 : decode cX11_read 156 = .ok (.getfield 235, 3) := by decide +kernel
theorem dX11_read_159 : decode cX11_read 159 = .ok (.ifCond .le 10, 3) := by decide +kernel
theorem dX11_read_162 : decode cX11_read 162 = .ok (.aload_n 0, 1) := by decide +kernel
theorem dX11_read_163 : decode cX11_read 163 = .ok (.getfield 241, 3) := by decide +kernel
theorem dX11_read_166 : decode cX11_read 166 = .ok (.goto 4, 3) := by decide +kernel
theorem dX11_read_169 : decode cX11_read 169 = .ok (.iconst (-1), 1) := by decide +kernel
theorem dX11_read_170 : decode cX11_read 170 = .ok (.putfield 37, 3) := by decide +kernel
theorem dX11_read_173 : decode cX11_read 173 = .ok (.aload_n 0, 1) := by decide +kernel
theorem dX11_read_174 : decode cX11_read 174 = .ok (.getfield 235, 3) := by decide +kernel
theorem dX11_read_177 : decode cX11_read 177 = .ok (.ifCond .le 8, 3) := by decide +kernel
theorem dX11_read_180 : decode cX11_read 180 = .ok (.aload_n 0, 1) := by decide +kernel
theorem dX11_read_181 : decode cX11_read 181 = .ok (.getfield 235, 3) := by decide +kernel
theorem dX11_read_184 : decode cX11_read 184 = .ok (.ireturn, 1) := by decide +kernel
theorem dX11_read_185 : decode cX11_read 185 = .ok (.aload_n 0, 1) := by decide +kernel
theorem dX11_read_186 : decode cX11_read 186 = .ok (.getfield 40, 3) := by decide +kernel
theorem dX11_read_189 : decode cX11_read 189 = .ok (.aload_n 0, 1) := by decide +kernel
theorem dX11_read_190 : decode cX11_read 190 = .ok (.getfield 262, 3) := by decide +kernel
theorem dX11_read_193 : decode cX11_read 193 = .ok (.iload_n 1, 1) := by decide +kernel
theorem dX11_read_194 : decode cX11_read 194 = .ok (.iastore, 1) := by decide +kernel
theorem dX11_read_195 : decode cX11_read 195 = .ok (.aload_n 0, 1) := by decide +kernel
theorem dX11_read_196 : decode cX11_read 196 = .ok (.getfield 43, 3) := by decide +kernel
theorem dX11_read_199 : decode cX11_read 199 = .ok (.aload_n 0, 1) := by decide +kernel
theorem dX11_read_200 : decode cX11_read 200 = .ok (.getfield 262, 3) := by decide +kernel
theorem dX11_read_203 : decode cX11_read 203 = .ok (.iload_n 2, 1) := by decide +kernel
theorem dX11_read_204 : decode cX11_read 204 = .ok (.iastore, 1) := by decide +kernel
theorem dX11_read_205 : decode cX11_read 205 = .ok (.aload_n 0, 1) := by decide +kernel
theorem dX11_read_206 : decode cX11_read 206 = .ok (.dup, 1) := by decide +kernel
theorem dX11_read_207 : decode cX11_read 207 = .ok (.getfield 262, 3) := by decide +kernel
theorem dX11_read_210 : decode cX11_read 210 = .ok (.iconst 1, 1) := by decide +kernel
theorem dX11_read_211 : decode cX11_read 211 = .ok (.iadd, 1) := by decide +kernel
theorem dX11_read_212 : decode cX11_read 212 = .ok (.putfield 262, 3) := by decide +kernel
theorem dX11_read_215 : decode cX11_read 215 = .ok (.aload_n 0, 1) := by decide +kernel
theorem dX11_read_216 : decode cX11_read 216 = .ok (.iconst (-1), 1) := by decide +kernel
theorem dX11_read_217 : decode cX11_read 217 = .ok (.putfield 155, 3) := by decide +kernel
theorem dX11_read_220 : decode cX11_read 220 = .ok (.iconst 0, 1) := by decide +kernel
theorem dX11_read_221 : decode cX11_read 221 = .ok (.ireturn, 1) := by decide +kernel
theorem dX11_place_0 : decode cX11_place 0 = .ok (.aload_n 0, 1) := by decide +kernel
theorem dX11_place_1 : decode cX11_place 1 = .ok (.getfield 37, 3) := by decide +kernel
theorem dX11_place_4 : decode cX11_place 4 = .ok (.ireturn, 1) := by decide +kernel
theorem dX11_tellRule_0 : decode cX11_tellRule 0 = .ok (.aload_n 0, 1) := by decide +kernel
theorem dX11_tellRule_1 : decode cX11_tellRule 1 = .ok (.bipush 20, 2) := by decide +kernel
theorem dX11_tellRule_3 : decode cX11_tellRule 3 = .ok (.invokevirtual 253, 3) := by decide +kernel
theorem dX11_tellRule_6 : decode cX11_tellRule 6 = .ok (.ifCond .ne 39, 3) := by decide +kernel
theorem dX11_tellRule_9 : decode cX11_tellRule 9 = .ok (.aload_n 0, 1) := by decide +kernel
theorem dX11_tellRule_10 : decode cX11_tellRule 10 = .ok (.bipush 21, 2) := by decide +kernel
theorem dX11_tellRule_12 : decode cX11_tellRule 12 = .ok (.invokevirtual 253, 3) := by decide +kernel
theorem dX11_tellRule_15 : decode cX11_tellRule 15 = .ok (.ifCond .ne 30, 3) := by decide +kernel
theorem dX11_tellRule_18 : decode cX11_tellRule 18 = .ok (.aload_n 0, 1) := by decide +kernel
theorem dX11_tellRule_19 : decode cX11_tellRule 19 = .ok (.bipush 22, 2) := by decide +kernel
theorem dX11_tellRule_21 : decode cX11_tellRule 21 = .ok (.invokevirtual 253, 3) := by decide +kernel
theorem dX11_tellRule_24 : decode cX11_tellRule 24 = .ok (.ifCond .ne 21, 3) := by decide +kernel
theorem dX11_tellRule_27 : decode cX11_tellRule 27 = .ok (.aload_n 0, 1) := by decide +kernel
theorem dX11_tellRule_28 : decode cX11_tellRule 28 = .ok (.bipush 23, 2) := by decide +kernel
theorem dX11_tellRule_30 : decode cX11_tellRule 30 = .ok (.invokevirtual 253, 3) := by decide +kernel
theorem dX11_tellRule_33 : decode cX11_tellRule 33 = .ok (.ifCond .ne 12, 3) := by decide +kernel
theorem dX11_tellRule_36 : decode cX11_tellRule 36 = .ok (.aload_n 0, 1) := by decide +kernel
theorem dX11_tellRule_37 : decode cX11_tellRule 37 = .ok (.bipush 24, 2) := by decide +kernel
theorem dX11_tellRule_39 : decode cX11_tellRule 39 = .ok (.invokevirtual 253, 3) := by decide +kernel
theorem dX11_tellRule_42 : decode cX11_tellRule 42 = .ok (.ifCond .eq 7, 3) := by decide +kernel
theorem dX11_tellRule_45 : decode cX11_tellRule 45 = .ok (.iconst 1, 1) := by decide +kernel
theorem dX11_tellRule_46 : decode cX11_tellRule 46 = .ok (.goto 4, 3) := by decide +kernel
theorem dX11_tellRule_49 : decode cX11_tellRule 49 = .ok (.iconst 0, 1) := by decide +kernel
theorem dX11_tellRule_50 : decode cX11_tellRule 50 = .ok (.istore_n 1, 1) := by decide +kernel
theorem dX11_tellRule_51 : decode cX11_tellRule 51 = .ok (.iload_n 1, 1) := by decide +kernel
theorem dX11_tellRule_52 : decode cX11_tellRule 52 = .ok (.ifCond .ne 11, 3) := by decide +kernel
theorem dX11_tellRule_55 : decode cX11_tellRule 55 = .ok (.aload_n 0, 1) := by decide +kernel
theorem dX11_tellRule_56 : decode cX11_tellRule 56 = .ok (.iconst 1, 1) := by decide +kernel
theorem dX11_tellRule_57 : decode cX11_tellRule 57 = .ok (.invokevirtual 250, 3) := by decide +kernel
theorem dX11_tellRule_60 : decode cX11_tellRule 60 = .ok (.goto 22, 3) := by decide +kernel
theorem dX11_tellRule_63 : decode cX11_tellRule 63 = .ok (.aload_n 0, 1) := by decide +kernel
theorem dX11_tellRule_64 : decode cX11_tellRule 64 = .ok (.getfield 46, 3) := by decide +kernel
theorem dX11_tellRule_67 : decode cX11_tellRule 67 = .ok (.aload_n 0, 1) := by decide +kernel
theorem dX11_tellRule_68 : decode cX11_tellRule 68 = .ok (.getfield 271, 3) := by decide +kernel
theorem dX11_tellRule_71 : decode cX11_tellRule 71 = .ok (.iaload, 1) := by decide +kernel
theorem dX11_tellRule_72 : decode cX11_tellRule 72 = .ok (.bipush 16, 2) := by decide +kernel
theorem dX11_tellRule_74 : decode cX11_tellRule 74 = .ok (.if_icmp .ne 8, 3) := by decide +kernel
theorem dX11_tellRule_77 : decode cX11_tellRule 77 = .ok (.aload_n 0, 1) := by decide +kernel
theorem dX11_tellRule_78 : decode cX11_tellRule 78 = .ok (.iconst 2, 1) := by decide +kernel
theorem dX11_tellRule_79 : decode cX11_tellRule 79 = .ok (.invokevirtual 250, 3) := by decide +kernel
theorem dX11_tellRule_82 : decode cX11_tellRule 82 = .ok (.aload_n 0, 1) := by decide +kernel
theorem dX11_tellRule_83 : decode cX11_tellRule 83 = .ok (.getfield 235, 3) := by decide +kernel
theorem dX11_tellRule_86 : decode cX11_tellRule 86 = .ok (.ifCond .le 4, 3) := by decide +kernel
theorem dX11_tellRule_89 : decode cX11_tellRule 89 = .ok (.return_, 1) := by decide +kernel
theorem dX11_tellRule_90 : decode cX11_tellRule 90 = .ok (.bipush 16, 2) := by decide +kernel
theorem dX11_tellRule_92 : decode cX11_tellRule 92 = .ok (.aload_n 0, 1) := by decide +kernel
theorem dX11_tellRule_93 : decode cX11_tellRule 93 = .ok (.getfield 271, 3) := by decide +kernel
theorem dX11_tellRule_96 : decode cX11_tellRule 96 = .ok (.imul, 1) := by decide +kernel
theorem dX11_tellRule_97 : decode cX11_tellRule 97 = .ok (.aload_n 0, 1) := by decide +kernel
theorem dX11_tellRule_98 : decode cX11_tellRule 98 = .ok (.getfield 46, 3) := by decide +kernel
theorem dX11_tellRule_101 : decode cX11_tellRule 101 = .ok (.aload_n 0, 1) := by decide +kernel
theorem dX11_tellRule_102 : decode cX11_tellRule 102 = .ok (.getfield 271, 3) := by decide +kernel
theorem dX11_tellRule_105 : decode cX11_tellRule 105 = .ok (.iaload, 1) := by decide +kernel
theorem dX11_tellRule_106 : decode cX11_tellRule 106 = .ok (.iadd, 1) := by decide +kernel
theorem dX11_tellRule_107 : decode cX11_tellRule 107 = .ok (.istore_n 2, 1) := by decide +kernel
theorem dX11_tellRule_108 : decode cX11_tellRule 108 = .ok (.aload_n 0, 1) := by decide +kernel
theorem dX11_tellRule_109 : decode cX11_tellRule 109 = .ok (.getfield 49, 3) := by decide +kernel
theorem dX11_tellRule_112 : decode cX11_tellRule 112 = .ok (.iload_n 2, 1) := by decide +kernel
theorem dX11_tellRule_113 : decode cX11_tellRule 113 = .ok (.aload_n 0, 1) := by decide +kernel
theorem dX11_tellRule_114 : decode cX11_tellRule 114 = .ok (.getfield 20, 3) := by decide +kernel
theorem dX11_tellRule_117 : decode cX11_tellRule 117 = .ok (.aload_n 0, 1) := by decide +kernel
theorem dX11_tellRule_118 : decode cX11_tellRule 118 = .ok (.getfield 238, 3) := by decide +kernel
theorem dX11_tellRule_121 : decode cX11_tellRule 121 = .ok (.iaload, 1) := by decide +kernel
theorem dX11_tellRule_122 : decode cX11_tellRule 122 = .ok (.bipush 20, 2) := by decide +kernel
theorem dX11_tellRule_124 : decode cX11_tellRule 124 = .ok (.isub, 1) := by decide +kernel
theorem dX11_tellRule_125 : decode cX11_tellRule 125 = .ok (.iastore, 1) := by decide +kernel
theorem dX11_tellRule_126 : decode cX11_tellRule 126 = .ok (.aload_n 0, 1) := by decide +kernel
theorem dX11_tellRule_127 : decode cX11_tellRule 127 = .ok (.getfield 52, 3) := by decide +kernel
theorem dX11_tellRule_130 : decode cX11_tellRule 130 = .ok (.iload_n 2, 1) := by decide +kernel
theorem dX11_tellRule_131 : decode cX11_tellRule 131 = .ok (.iconst 0, 1) := by decide +kernel
theorem dX11_tellRule_132 : decode cX11_tellRule 132 = .ok (.iastore, 1) := by decide +kernel
theorem dX11_tellRule_133 : decode cX11_tellRule 133 = .ok (.aload_n 0, 1) := by decide +kernel
theorem dX11_tellRule_134 : decode cX11_tellRule 134 = .ok (.invokevirtual 256, 3) := by decide +kernel
theorem dX11_tellRule_137 : decode cX11_tellRule 137 = .ok (.aload_n 0, 1) := by decide +kernel
theorem dX11_tellRule_138 : decode cX11_tellRule 138 = .ok (.getfield 55, 3) := by decide +kernel
theorem dX11_tellRule_141 : decode cX11_tellRule 141 = .ok (.iload_n 2, 1) := by decide +kernel
theorem dX11_tellRule_142 : decode cX11_tellRule 142 = .ok (.aload_n 0, 1) := by decide +kernel
theorem dX11_tellRule_143 : decode cX11_tellRule 143 = .ok (.getfield 274, 3) := by decide +kernel
theorem dX11_tellRule_146 : decode cX11_tellRule 146 = .ok (.iastore, 1) := by decide +kernel
theorem dX11_tellRule_147 : decode cX11_tellRule 147 = .ok (.aload_n 0, 1) := by decide +kernel
theorem dX11_tellRule_148 : decode cX11_tellRule 148 = .ok (.getfield 49, 3) := by decide +kernel
theorem dX11_tellRule_151 : decode cX11_tellRule 151 = .ok (.iload_n 2, 1) := by decide +kernel
theorem dX11_tellRule_152 : decode cX11_tellRule 152 = .ok (.iaload, 1) := by decide +kernel
theorem dX11_tellRule_153 : decode cX11_tellRule 153 = .ok (.iconst 3, 1) := by decide +kernel
theorem dX11_tellRule_154 : decode cX11_tellRule 154 = .ok (.if_icmp .ne 33, 3) := by decide +kernel
theorem dX11_tellRule_157 : decode cX11_tellRule 157 = .ok (.aload_n 0, 1) := by decide +kernel
theorem dX11_tellRule_158 : decode cX11_tellRule 158 = .ok (.getfield 238, 3) := by decide +kernel
theorem dX11_tellRule_161 : decode cX11_tellRule 161 = .ok (.istore_n 3, 1) := by decide +kernel
theorem dX11_tellRule_162 : decode cX11_tellRule 162 = .ok (.aload_n 0, 1) := by decide +kernel
theorem dX11_tellRule_163 : decode cX11_tellRule 163 = .ok (.iconst 2, 1) := by decide +kernel
theorem dX11_tellRule_164 : decode cX11_tellRule 164 = .ok (.invokevirtual 280, 3) := by decide +kernel
theorem dX11_tellRule_167 : decode cX11_tellRule 167 = .ok (.aload_n 0, 1) := by decide +kernel
theorem dX11_tellRule_168 : decode cX11_tellRule 168 = .ok (.getfield 235, 3) := by decide +kernel
theorem dX11_tellRule_171 : decode cX11_tellRule 171 = .ok (.ifCond .le 4, 3) := by decide +kernel
theorem dX11_tellRule_174 : decode cX11_tellRule 174 = .ok (.return_, 1) := by decide +kernel
theorem dX11_tellRule_175 : decode cX11_tellRule 175 = .ok (.aload_n 0, 1) := by decide +kernel
theorem dX11_tellRule_176 : decode cX11_tellRule 176 = .ok (.getfield 52, 3) := by decide +kernel
theorem dX11_tellRule_179 : decode cX11_tellRule 179 = .ok (.iload_n 2, 1) := by decide +kernel
theorem dX11_tellRule_180 : decode cX11_tellRule 180 = .ok (.aload_n 0, 1) := by decide +kernel
theorem dX11_tellRule_181 : decode cX11_tellRule 181 = .ok (.getfield 27, 3) := by decide +kernel
theorem dX11_tellRule_184 : decode cX11_tellRule 184 = .ok (.iload_n 3, 1) := by decide +kernel
theorem dX11_tellRule_185 : decode cX11_tellRule 185 = .ok (.iaload, 1) := by decide +kernel
theorem dX11_tellRule_186 : decode cX11_tellRule 186 = .ok (.iastore, 1) := by decide +kernel
theorem dX11_tellRule_187 : decode cX11_tellRule 187 = .ok (.aload_n 0, 1) := by decide +kernel
theorem dX11_tellRule_188 : decode cX11_tellRule 188 = .ok (.getfield 49, 3) := by decide +kernel
theorem dX11_tellRule_191 : decode cX11_tellRule 191 = .ok (.iload_n 2, 1) := by decide +kernel
theorem dX11_tellRule_192 : decode cX11_tellRule 192 = .ok (.iaload, 1) := by decide +kernel
theorem dX11_tellRule_193 : decode cX11_tellRule 193 = .ok (.iconst 4, 1) := by decide +kernel
theorem dX11_tellRule_194 : decode cX11_tellRule 194 = .ok (.if_icmp .ne 7, 3) := by decide +kernel
theorem dX11_tellRule_197 : decode cX11_tellRule 197 = .ok (.aload_n 0, 1) := by decide +kernel
theorem dX11_tellRule_198 : decode cX11_tellRule 198 = .ok (.invokevirtual 283, 3) := by decide +kernel
theorem dX11_tellRule_201 : decode cX11_tellRule 201 = .ok (.aload_n 0, 1) := by decide +kernel
theorem dX11_tellRule_202 : decode cX11_tellRule 202 = .ok (.getfield 58, 3) := by decide +kernel
theorem dX11_tellRule_205 : decode cX11_tellRule 205 = .ok (.iload_n 2, 1) := by decide +kernel
theorem dX11_tellRule_206 : decode cX11_tellRule 206 = .ok (.aload_n 0, 1) := by decide +kernel
theorem dX11_tellRule_207 : decode cX11_tellRule 207 = .ok (.getfield 274, 3) := by decide +kernel
theorem dX11_tellRule_210 : decode cX11_tellRule 210 = .ok (.iastore, 1) := by decide +kernel
theorem dX11_tellRule_211 : decode cX11_tellRule 211 = .ok (.aload_n 0, 1) := by decide +kernel
theorem dX11_tellRule_212 : decode cX11_tellRule 212 = .ok (.getfield 61, 3) := by decide +kernel
theorem dX11_tellRule_215 : decode cX11_tellRule 215 = .ok (.iload_n 2, 1) := by decide +kernel
theorem dX11_tellRule_216 : decode cX11_tellRule 216 = .ok (.aload_n 0, 1) := by decide +kernel
theorem dX11_tellRule_217 : decode cX11_tellRule 217 = .ok (.getfield 67, 3) := by decide +kernel
theorem dX11_tellRule_220 : decode cX11_tellRule 220 = .ok (.aload_n 0, 1) := by decide +kernel
theorem dX11_tellRule_221 : decode cX11_tellRule 221 = .ok (.getfield 271, 3) := by decide +kernel
theorem dX11_tellRule_224 : decode cX11_tellRule 224 = .ok (.iaload, 1) := by decide +kernel
theorem dX11_tellRule_225 : decode cX11_tellRule 225 = .ok (.iastore, 1) := by decide +kernel
theorem dX11_tellRule_226 : decode cX11_tellRule 226 = .ok (.aload_n 0, 1) := by decide +kernel
theorem dX11_tellRule_227 : decode cX11_tellRule 227 = .ok (.getfield 49, 3) := by decide +kernel
theorem dX11_tellRule_230 : decode cX11_tellRule 230 = .ok (.iload_n 2, 1) := by decide +kernel
theorem dX11_tellRule_231 : decode cX11_tellRule 231 = .ok (.iaload, 1) := by decide +kernel
theorem dX11_tellRule_232 : decode cX11_tellRule 232 = .ok (.iconst 3, 1) := by decide +kernel
theorem dX11_tellRule_233 : decode cX11_tellRule 233 = .ok (.if_icmp .lt 22, 3) := by decide +kernel
theorem dX11_tellRule_236 : decode cX11_tellRule 236 = .ok (.aload_n 0, 1) := by decide +kernel
theorem dX11_tellRule_237 : decode cX11_tellRule 237 = .ok (.getfield 49, 3) := by decide +kernel
theorem dX11_tellRule_240 : decode cX11_tellRule 240 = .ok (.iload_n 2, 1) := by decide +kernel
theorem dX11_tellRule_241 : decode cX11_tellRule 241 = .ok (.iaload, 1) := by decide +kernel
theorem dX11_tellRule_242 : decode cX11_tellRule 242 = .ok (.iconst 4, 1) := by decide +kernel
theorem dX11_tellRule_243 : decode cX11_tellRule 243 = .ok (.if_icmp .ne 16, 3) := by decide +kernel
theorem dX11_tellRule_246 : decode cX11_tellRule 246 = .ok (.aload_n 0, 1) := by decide +kernel
theorem dX11_tellRule_247 : decode cX11_tellRule 247 = .ok (.bipush 25, 2) := by decide +kernel
theorem dX11_tellRule_249 : decode cX11_tellRule 249 = .ok (.invokevirtual 253, 3) := by decide +kernel
theorem dX11_tellRule_252 : decode cX11_tellRule 252 = .ok (.ifCond .eq 7, 3) := by decide +kernel
theorem dX11_tellRule_255 : decode cX11_tellRule 255 = .ok (.iconst 1, 1) := by decide +kernel
theorem dX11_tellRule_256 : decode cX11_tellRule 256 = .ok (.goto 4, 3) := by decide +kernel
theorem dX11_tellRule_259 : decode cX11_tellRule 259 = .ok (.iconst 0, 1) := by decide +kernel
theorem dX11_tellRule_260 : decode cX11_tellRule 260 = .ok (.istore_n 3, 1) := by decide +kernel
theorem dX11_tellRule_261 : decode cX11_tellRule 261 = .ok (.iload_n 3, 1) := by decide +kernel
theorem dX11_tellRule_262 : decode cX11_tellRule 262 = .ok (.ifCond .eq 9, 3) := by decide +kernel
theorem dX11_tellRule_265 : decode cX11_tellRule 265 = .ok (.aload_n 0, 1) := by decide +kernel
theorem dX11_tellRule_266 : decode cX11_tellRule 266 = .ok (.bipush 25, 2) := by decide +kernel
theorem dX11_tellRule_268 : decode cX11_tellRule 268 = .ok (.invokevirtual 280, 3) := by decide +kernel
theorem dX11_tellRule_271 : decode cX11_tellRule 271 = .ok (.iconst 1, 1) := by decide +kernel
theorem dX11_tellRule_272 : decode cX11_tellRule 272 = .ok (.istore 4, 2) := by decide +kernel
theorem dX11_tellRule_274 : decode cX11_tellRule 274 = .ok (.iload_n 3, 1) := by decide +kernel
theorem dX11_tellRule_275 : decode cX11_tellRule 275 = .ok (.ifCond .eq 55, 3) := by decide +kernel
theorem dX11_tellRule_278 : decode cX11_tellRule 278 = .ok (.aload_n 0, 1) := by decide +kernel
theorem dX11_tellRule_279 : decode cX11_tellRule 279 = .ok (.getfield 235, 3) := by decide +kernel
theorem dX11_tellRule_282 : decode cX11_tellRule 282 = .ok (.ifCond .ne 48, 3) := by decide +kernel
theorem dX11_tellRule_285 : decode cX11_tellRule 285 = .ok (.aload_n 0, 1) := by decide +kernel
theorem dX11_tellRule_286 : decode cX11_tellRule 286 = .ok (.iload 4, 2) := by decide +kernel
theorem dX11_tellRule_288 : decode cX11_tellRule 288 = .ok (.invokevirtual 286, 3) := by decide +kernel
theorem dX11_tellRule_291 : decode cX11_tellRule 291 = .ok (.aload_n 0, 1) := by decide +kernel
theorem dX11_tellRule_292 : decode cX11_tellRule 292 = .ok (.bipush 26, 2) := by decide +kernel
theorem dX11_tellRule_294 : decode cX11_tellRule 294 = .ok (.invokevirtual 253, 3) := by decide +kernel
theorem dX11_tellRule_297 : decode cX11_tellRule 297 = .ok (.istore 4, 2) := by decide +kernel
theorem dX11_tellRule_299 : decode cX11_tellRule 299 = .ok (.iload 4, 2) := by decide +kernel
theorem dX11_tellRule_301 : decode cX11_tellRule 301 = .ok (.ifCond .ne 12, 3) := by decide +kernel
theorem dX11_tellRule_304 : decode cX11_tellRule 304 = .ok (.aload_n 0, 1) := by decide +kernel
theorem dX11_tellRule_305 : decode cX11_tellRule 305 = .ok (.bipush 27, 2) := by decide +kernel
theorem dX11_tellRule_307 : decode cX11_tellRule 307 = .ok (.invokevirtual 253, 3) := by decide +kernel
theorem dX11_tellRule_310 : decode cX11_tellRule 310 = .ok (.ifCond .eq 7, 3) := by decide +kernel
theorem dX11_tellRule_313 : decode cX11_tellRule 313 = .ok (.iconst 1, 1) := by decide +kernel
theorem dX11_tellRule_314 : decode cX11_tellRule 314 = .ok (.goto 4, 3) := by decide +kernel
theorem dX11_tellRule_317 : decode cX11_tellRule 317 = .ok (.iconst 0, 1) := by decide +kernel
theorem dX11_tellRule_318 : decode cX11_tellRule 318 = .ok (.istore_n 3, 1) := by decide +kernel
theorem dX11_tellRule_319 : decode cX11_tellRule 319 = .ok (.iload_n 3, 1) := by decide +kernel
theorem dX11_tellRule_320 : decode cX11_tellRule 320 = .ok (.ifCond .eq (-46), 3) := by decide +kernel
theorem dX11_tellRule_323 : decode cX11_tellRule 323 = .ok (.aload_n 0, 1) := by decide +kernel
theorem dX11_tellRule_324 : decode cX11_tellRule 324 = .ok (.invokevirtual 256, 3) := by decide +kernel
theorem dX11_tellRule_327 : decode cX11_tellRule 327 = .ok (.goto (-53), 3) := by decide +kernel
theorem dX11_tellRule_330 : decode cX11_tellRule 330 = .ok (.aload_n 0, 1) := by decide +kernel
theorem dX11_tellRule_331 : decode cX11_tellRule 331 = .ok (.iconst 4, 1) := by decide +kernel
theorem dX11_tellRule_332 : decode cX11_tellRule 332 = .ok (.invokevirtual 280, 3) := by decide +kernel
theorem dX11_tellRule_335 : decode cX11_tellRule 335 = .ok (.aload_n 0, 1) := by decide +kernel
theorem dX11_tellRule_336 : decode cX11_tellRule 336 = .ok (.getfield 235, 3) := by decide +kernel
theorem dX11_tellRule_339 : decode cX11_tellRule 339 = .ok (.ifCond .le 4, 3) := by decide +kernel
theorem dX11_tellRule_342 : decode cX11_tellRule 342 = .ok (.return_, 1) := by decide +kernel
theorem dX11_tellRule_343 : decode cX11_tellRule 343 = .ok (.aload_n 0, 1) := by decide +kernel
theorem dX11_tellRule_344 : decode cX11_tellRule 344 = .ok (.getfield 64, 3) := by decide +kernel
theorem dX11_tellRule_347 : decode cX11_tellRule 347 = .ok (.iload_n 2, 1) := by decide +kernel
theorem dX11_tellRule_348 : decode cX11_tellRule 348 = .ok (.aload_n 0, 1) := by decide +kernel
theorem dX11_tellRule_349 : decode cX11_tellRule 349 = .ok (.getfield 67, 3) := by decide +kernel
theorem dX11_tellRule_352 : decode cX11_tellRule 352 = .ok (.aload_n 0, 1) := by decide +kernel
theorem dX11_tellRule_353 : decode cX11_tellRule 353 = .ok (.getfield 271, 3) := by decide +kernel
theorem dX11_tellRule_356 : decode cX11_tellRule 356 = .ok (.iaload, 1) := by decide +kernel
theorem dX11_tellRule_357 : decode cX11_tellRule 357 = .ok (.iastore, 1) := by decide +kernel
theorem dX11_tellRule_358 : decode cX11_tellRule 358 = .ok (.aload_n 0, 1) := by decide +kernel
theorem dX11_tellRule_359 : decode cX11_tellRule 359 = .ok (.getfield 46, 3) := by decide +kernel
theorem dX11_tellRule_362 : decode cX11_tellRule 362 = .ok (.aload_n 0, 1) := by decide +kernel
theorem dX11_tellRule_363 : decode cX11_tellRule 363 = .ok (.getfield 271, 3) := by decide +kernel
theorem dX11_tellRule_366 : decode cX11_tellRule 366 = .ok (.dup2, 1) := by decide +kernel
theorem dX11_tellRule_367 : decode cX11_tellRule 367 = .ok (.iaload, 1) := by decide +kernel
theorem dX11_tellRule_368 : decode cX11_tellRule 368 = .ok (.iconst 1, 1) := by decide +kernel
theorem dX11_tellRule_369 : decode cX11_tellRule 369 = .ok (.iadd, 1) := by decide +kernel
theorem dX11_tellRule_370 : decode cX11_tellRule 370 = .ok (.iastore, 1) := by decide +kernel
theorem dX11_tellRule_371 : decode cX11_tellRule 371 = .ok (.return_, 1) := by decide +kernel
theorem dX11_relation_0 : decode cX11_relation 0 = .ok (.aload_n 0, 1) := by decide +kernel
theorem dX11_relation_1 : decode cX11_relation 1 = .ok (.getfield 274, 3) := by decide +kernel
theorem dX11_relation_4 : decode cX11_relation 4 = .ok (.istore_n 2, 1) := by decide +kernel
theorem dX11_relation_5 : decode cX11_relation 5 = .ok (.aload_n 0, 1) := by decide +kernel
theorem dX11_relation_6 : decode cX11_relation 6 = .ok (.invokevirtual 283, 3) := by decide +kernel
theorem dX11_relation_9 : decode cX11_relation 9 = .ok (.aload_n 0, 1) := by decide +kernel
theorem dX11_relation_10 : decode cX11_relation 10 = .ok (.getfield 235, 3) := by decide +kernel
theorem dX11_relation_13 : decode cX11_relation 13 = .ok (.ifCond .le 7, 3) := by decide +kernel
theorem dX11_relation_16 : decode cX11_relation 16 = .ok (.iconst 0, 1) := by decide +kernel
theorem dX11_relation_17 : decode cX11_relation 17 = .ok (.goto 15, 3) := by decide +kernel
theorem dX11_relation_20 : decode cX11_relation 20 = .ok (.aload_n 0, 1) := by decide +kernel
theorem dX11_relation_21 : decode cX11_relation 21 = .ok (.getfield 20, 3) := by decide +kernel
theorem dX11_relation_24 : decode cX11_relation 24 = .ok (.aload_n 0, 1) := by decide +kernel
theorem dX11_relation_25 : decode cX11_relation 25 = .ok (.getfield 238, 3) := by decide +kernel
theorem dX11_relation_28 : decode cX11_relation 28 = .ok (.iaload, 1) := by decide +kernel
theorem dX11_relation_29 : decode cX11_relation 29 = .ok (.bipush 11, 2) := by decide +kernel
theorem dX11_relation_31 : decode cX11_relation 31 = .ok (.isub, 1) := by decide +kernel
theorem dX11_relation_32 : decode cX11_relation 32 = .ok (.istore_n 3, 1) := by decide +kernel
theorem dX11_relation_33 : decode cX11_relation 33 = .ok (.aload_n 0, 1) := by decide +kernel
theorem dX11_relation_34 : decode cX11_relation 34 = .ok (.getfield 235, 3) := by decide +kernel
theorem dX11_relation_37 : decode cX11_relation 37 = .ok (.ifCond .ne 17, 3) := by decide +kernel
theorem dX11_relation_40 : decode cX11_relation 40 = .ok (.iload_n 3, 1) := by decide +kernel
theorem dX11_relation_41 : decode cX11_relation 41 = .ok (.ifCond .lt 8, 3) := by decide +kernel
theorem dX11_relation_44 : decode cX11_relation 44 = .ok (.iload_n 3, 1) := by decide +kernel
theorem dX11_relation_45 : decode cX11_relation 45 = .ok (.iconst 3, 1) := by decide +kernel
theorem dX11_relation_46 : decode cX11_relation 46 = .ok (.if_icmp .le 8, 3) := by decide +kernel
theorem dX11_relation_49 : decode cX11_relation 49 = .ok (.aload_n 0, 1) := by decide +kernel
theorem dX11_relation_50 : decode cX11_relation 50 = .ok (.iconst 1, 1) := by decide +kernel
theorem dX11_relation_51 : decode cX11_relation 51 = .ok (.invokevirtual 250, 3) := by decide +kernel
theorem dX11_relation_54 : decode cX11_relation 54 = .ok (.aload_n 0, 1) := by decide +kernel
theorem dX11_relation_55 : decode cX11_relation 55 = .ok (.invokevirtual 256, 3) := by decide +kernel
theorem dX11_relation_58 : decode cX11_relation 58 = .ok (.aload_n 0, 1) := by decide +kernel
theorem dX11_relation_59 : decode cX11_relation 59 = .ok (.getfield 274, 3) := by decide +kernel
theorem dX11_relation_62 : decode cX11_relation 62 = .ok (.istore 4, 2) := by decide +kernel
theorem dX11_relation_64 : decode cX11_relation 64 = .ok (.aload_n 0, 1) := by decide +kernel
theorem dX11_relation_65 : decode cX11_relation 65 = .ok (.invokevirtual 283, 3) := by decide +kernel
theorem dX11_relation_68 : decode cX11_relation 68 = .ok (.aload_n 0, 1) := by decide +kernel
theorem dX11_relation_69 : decode cX11_relation 69 = .ok (.getfield 235, 3) := by decide +kernel
theorem dX11_relation_72 : decode cX11_relation 72 = .ok (.ifCond .le 4, 3) := by decide +kernel
theorem dX11_relation_75 : decode cX11_relation 75 = .ok (.return_, 1) := by decide +kernel
theorem dX11_relation_76 : decode cX11_relation 76 = .ok (.sipush 200, 3) := by decide +kernel
theorem dX11_relation_79 : decode cX11_relation 79 = .ok (.aload_n 0, 1) := by decide +kernel
theorem dX11_relation_80 : decode cX11_relation 80 = .ok (.getfield 271, 3) := by decide +kernel
theorem dX11_relation_83 : decode cX11_relation 83 = .ok (.imul, 1) := by decide +kernel
theorem dX11_relation_84 : decode cX11_relation 84 = .ok (.aload_n 0, 1) := by decide +kernel
theorem dX11_relation_85 : decode cX11_relation 85 = .ok (.getfield 67, 3) := by decide +kernel
theorem dX11_relation_88 : decode cX11_relation 88 = .ok (.aload_n 0, 1) := by decide +kernel
theorem dX11_relation_89 : decode cX11_relation 89 = .ok (.getfield 271, 3) := by decide +kernel
theorem dX11_relation_92 : decode cX11_relation 92 = .ok (.iaload, 1) := by decide +kernel
theorem dX11_relation_93 : decode cX11_relation 93 = .ok (.iadd, 1) := by decide +kernel
theorem dX11_relation_94 : decode cX11_relation 94 = .ok (.istore 5, 2) := by decide +kernel
theorem dX11_relation_96 : decode cX11_relation 96 = .ok (.aload_n 0, 1) := by decide +kernel
theorem dX11_relation_97 : decode cX11_relation 97 = .ok (.getfield 70, 3) := by decide +kernel
theorem dX11_relation_100 : decode cX11_relation 100 = .ok (.iload 5, 2) := by decide +kernel
theorem dX11_relation_102 : decode cX11_relation 102 = .ok (.iload_n 3, 1) := by decide +kernel
theorem dX11_relation_103 : decode cX11_relation 103 = .ok (.iastore, 1) := by decide +kernel
theorem dX11_relation_104 : decode cX11_relation 104 = .ok (.aload_n 0, 1) := by decide +kernel
theorem dX11_relation_105 : decode cX11_relation 105 = .ok (.getfield 73, 3) := by decide +kernel
theorem dX11_relation_108 : decode cX11_relation 108 = .ok (.iload 5, 2) := by decide +kernel
theorem dX11_relation_110 : decode cX11_relation 110 = .ok (.iload_n 2, 1) := by decide +kernel
theorem dX11_relation_111 : decode cX11_relation 111 = .ok (.iastore, 1) := by decide +kernel
theorem dX11_relation_112 : decode cX11_relation 112 = .ok (.aload_n 0, 1) := by decide +kernel
theorem dX11_relation_113 : decode cX11_relation 113 = .ok (.getfield 76, 3) := by decide +kernel
theorem dX11_relation_116 : decode cX11_relation 116 = .ok (.iload 5, 2) := by decide +kernel
theorem dX11_relation_118 : decode cX11_relation 118 = .ok (.iload 4, 2) := by decide +kernel
theorem dX11_relation_120 : decode cX11_relation 120 = .ok (.iastore, 1) := by decide +kernel
theorem dX11_relation_121 : decode cX11_relation 121 = .ok (.aload_n 0, 1) := by decide +kernel
theorem dX11_relation_122 : decode cX11_relation 122 = .ok (.getfield 79, 3) := by decide +kernel
theorem dX11_relation_125 : decode cX11_relation 125 = .ok (.iload 5, 2) := by decide +kernel
theorem dX11_relation_127 : decode cX11_relation 127 = .ok (.aload_n 0, 1) := by decide +kernel
theorem dX11_relation_128 : decode cX11_relation 128 = .ok (.getfield 274, 3) := by decide +kernel
theorem dX11_relation_131 : decode cX11_relation 131 = .ok (.iastore, 1) := by decide +kernel
theorem dX11_relation_132 : decode cX11_relation 132 = .ok (.aload_n 0, 1) := by decide +kernel
theorem dX11_relation_133 : decode cX11_relation 133 = .ok (.getfield 82, 3) := by decide +kernel
theorem dX11_relation_136 : decode cX11_relation 136 = .ok (.iload 5, 2) := by decide +kernel
theorem dX11_relation_138 : decode cX11_relation 138 = .ok (.iload_n 1, 1) := by decide +kernel
theorem dX11_relation_139 : decode cX11_relation 139 = .ok (.bastore, 1) := by decide +kernel
theorem dX11_relation_140 : decode cX11_relation 140 = .ok (.aload_n 0, 1) := by decide +kernel
theorem dX11_relation_141 : decode cX11_relation 141 = .ok (.getfield 67, 3) := by decide +kernel
theorem dX11_relation_144 : decode cX11_relation 144 = .ok (.aload_n 0, 1) := by decide +kernel
theorem dX11_relation_145 : decode cX11_relation 145 = .ok (.getfield 271, 3) := by decide +kernel
theorem dX11_relation_148 : decode cX11_relation 148 = .ok (.dup2, 1) := by decide +kernel
theorem dX11_relation_149 : decode cX11_relation 149 = .ok (.iaload, 1) := by decide +kernel
theorem dX11_relation_150 : decode cX11_relation 150 = .ok (.iconst 1, 1) := by decide +kernel
theorem dX11_relation_151 : decode cX11_relation 151 = .ok (.iadd, 1) := by decide +kernel
theorem dX11_relation_152 : decode cX11_relation 152 = .ok (.iastore, 1) := by decide +kernel
theorem dX11_relation_153 : decode cX11_relation 153 = .ok (.return_, 1) := by decide +kernel
theorem dX11_emit_0 : decode cX11_emit 0 = .ok (.aload_n 0, 1) := by decide +kernel
theorem dX11_emit_1 : decode cX11_emit 1 = .ok (.getfield 86, 3) := by decide +kernel
theorem dX11_emit_4 : decode cX11_emit 4 = .ok (.aload_n 0, 1) := by decide +kernel
theorem dX11_emit_5 : decode cX11_emit 5 = .ok (.getfield 274, 3) := by decide +kernel
theorem dX11_emit_8 : decode cX11_emit 8 = .ok (.iload_n 1, 1) := by decide +kernel
theorem dX11_emit_9 : decode cX11_emit 9 = .ok (.iastore, 1) := by decide +kernel
theorem dX11_emit_10 : decode cX11_emit 10 = .ok (.aload_n 0, 1) := by decide +kernel
theorem dX11_emit_11 : decode cX11_emit 11 = .ok (.getfield 89, 3) := by decide +kernel
theorem dX11_emit_14 : decode cX11_emit 14 = .ok (.aload_n 0, 1) := by decide +kernel
theorem dX11_emit_15 : decode cX11_emit 15 = .ok (.getfield 274, 3) := by decide +kernel
theorem dX11_emit_18 : decode cX11_emit 18 = .ok (.iload_n 2, 1) := by decide +kernel
theorem dX11_emit_19 : decode cX11_emit 19 = .ok (.iastore, 1) := by decide +kernel
theorem dX11_emit_20 : decode cX11_emit 20 = .ok (.aload_n 0, 1) := by decide +kernel
theorem dX11_emit_21 : decode cX11_emit 21 = .ok (.dup, 1) := by decide +kernel
theorem dX11_emit_22 : decode cX11_emit 22 = .ok (.getfield 274, 3) := by decide +kernel
theorem dX11_emit_25 : decode cX11_emit 25 = .ok (.iconst 1, 1) := by decide +kernel
theorem dX11_emit_26 : decode cX11_emit 26 = .ok (.iadd, 1) := by decide +kernel
theorem dX11_emit_27 : decode cX11_emit 27 = .ok (.putfield 274, 3) := by decide +kernel
theorem dX11_emit_30 : decode cX11_emit 30 = .ok (.return_, 1) := by decide +kernel
theorem dX11_comesOut_0 : decode cX11_comesOut 0 = .ok (.aload_n 0, 1) := by decide +kernel
theorem dX11_comesOut_1 : decode cX11_comesOut 1 = .ok (.getfield 290, 3) := by decide +kernel
theorem dX11_comesOut_4 : decode cX11_comesOut 4 = .ok (.ifCond .le 88, 3) := by decide +kernel
theorem dX11_comesOut_7 : decode cX11_comesOut 7 = .ok (.aload_n 0, 1) := by decide +kernel
theorem dX11_comesOut_8 : decode cX11_comesOut 8 = .ok (.getfield 92, 3) := by decide +kernel
theorem dX11_comesOut_11 : decode cX11_comesOut 11 = .ok (.aload_n 0, 1) := by decide +kernel
theorem dX11_comesOut_12 : decode cX11_comesOut 12 = .ok (.getfield 290, 3) := by decide +kernel
theorem dX11_comesOut_15 : decode cX11_comesOut 15 = .ok (.iconst 1, 1) := by decide +kernel
theorem dX11_comesOut_16 : decode cX11_comesOut 16 = .ok (.isub, 1) := by decide +kernel
theorem dX11_comesOut_17 : decode cX11_comesOut 17 = .ok (.iaload, 1) := by decide +kernel
theorem dX11_comesOut_18 : decode cX11_comesOut 18 = .ok (.bipush 6, 2) := by decide +kernel
theorem dX11_comesOut_20 : decode cX11_comesOut 20 = .ok (.if_icmp .eq 72, 3) := by decide +kernel
theorem dX11_comesOut_23 : decode cX11_comesOut 23 = .ok (.iload_n 1, 1) := by decide +kernel
theorem dX11_comesOut_24 : decode cX11_comesOut 24 = .ok (.ifCond .eq 19, 3) := by decide +kernel
theorem dX11_comesOut_27 : decode cX11_comesOut 27 = .ok (.aload_n 0, 1) := by decide +kernel
theorem dX11_comesOut_28 : decode cX11_comesOut 28 = .ok (.getfield 92, 3) := by decide +kernel
theorem dX11_comesOut_31 : decode cX11_comesOut 31 = .ok (.aload_n 0, 1) := by decide +kernel
theorem dX11_comesOut_32 : decode cX11_comesOut 32 = .ok (.getfield 290, 3) := by decide +kernel
theorem dX11_comesOut_35 : decode cX11_comesOut 35 = .ok (.iconst 1, 1) := by decide +kernel
theorem dX11_comesOut_36 : decode cX11_comesOut 36 = .ok (.isub, 1) := by decide +kernel
theorem dX11_comesOut_37 : decode cX11_comesOut 37 = .ok (.iaload, 1) := by decide +kernel
theorem dX11_comesOut_38 : decode cX11_comesOut 38 = .ok (.bipush 10, 2) := by decide +kernel
theorem dX11_comesOut_40 : decode cX11_comesOut 40 = .ok (.if_icmp .ne 52, 3) := by decide +kernel
theorem dX11_comesOut_43 : decode cX11_comesOut 43 = .ok (.aload_n 0, 1) := by decide +kernel
end
section
theorem dX11_comesOut_44 : decode cX11_comesOut 44 = .ok (.dup, 1) := by decide +kernel
theorem dX11_comesOut_45 : decode cX11_comesOut 45 = .ok (.getfield 290, 3) := by decide +kernel
theorem dX11_comesOut_48 : decode cX11_comesOut 48 = .ok (.iconst 1, 1) := by decide +kernel
theorem dX11_comesOut_49 : decode cX11_comesOut 49 = .ok (.isub, 1) := by decide +kernel
theorem dX11_comesOut_50 : decode cX11_comesOut 50 = .ok (.putfield 290, 3) := by decide +kernel
theorem dX11_comesOut_53 : decode cX11_comesOut 53 = .ok (.aload_n 0, 1) := by decide +kernel
theorem dX11_comesOut_54 : decode cX11_comesOut 54 = .ok (.getfield 92, 3) := by decide +kernel
theorem dX11_comesOut_57 : decode cX11_comesOut 57 = .ok (.aload_n 0, 1) := by decide +kernel
theorem dX11_comesOut_58 : decode cX11_comesOut 58 = .ok (.getfield 290, 3) := by decide +kernel
theorem dX11_comesOut_61 : decode cX11_comesOut 61 = .ok (.iaload, 1) := by decide +kernel
theorem dX11_comesOut_62 : decode cX11_comesOut 62 = .ok (.istore_n 2, 1) := by decide +kernel
theorem dX11_comesOut_63 : decode cX11_comesOut 63 = .ok (.aload_n 0, 1) := by decide +kernel
theorem dX11_comesOut_64 : decode cX11_comesOut 64 = .ok (.iload_n 2, 1) := by decide +kernel
theorem dX11_comesOut_65 : decode cX11_comesOut 65 = .ok (.bipush 8, 2) := by decide +kernel
theorem dX11_comesOut_67 : decode cX11_comesOut 67 = .ok (.if_icmp .ne 7, 3) := by decide +kernel
theorem dX11_comesOut_70 : decode cX11_comesOut 70 = .ok (.iconst 2, 1) := by decide +kernel
theorem dX11_comesOut_71 : decode cX11_comesOut 71 = .ok (.goto 14, 3) := by decide +kernel
theorem dX11_comesOut_74 : decode cX11_comesOut 74 = .ok (.iload_n 2, 1) := by decide +kernel
theorem dX11_comesOut_75 : decode cX11_comesOut 75 = .ok (.bipush 9, 2) := by decide +kernel
theorem dX11_comesOut_77 : decode cX11_comesOut 77 = .ok (.if_icmp .ne 7, 3) := by decide +kernel
theorem dX11_comesOut_80 : decode cX11_comesOut 80 = .ok (.iconst 3, 1) := by decide +kernel
theorem dX11_comesOut_81 : decode cX11_comesOut 81 = .ok (.goto 4, 3) := by decide +kernel
theorem dX11_comesOut_84 : decode cX11_comesOut 84 = .ok (.iconst 4, 1) := by decide +kernel
theorem dX11_comesOut_85 : decode cX11_comesOut 85 = .ok (.iconst 0, 1) := by decide +kernel
theorem dX11_comesOut_86 : decode cX11_comesOut 86 = .ok (.invokevirtual 293, 3) := by decide +kernel
theorem dX11_comesOut_89 : decode cX11_comesOut 89 = .ok (.goto (-89), 3) := by decide +kernel
theorem dX11_comesOut_92 : decode cX11_comesOut 92 = .ok (.return_, 1) := by decide +kernel
theorem dX11_expression_0 : decode cX11_expression 0 = .ok (.aload_n 0, 1) := by decide +kernel
theorem dX11_expression_1 : decode cX11_expression 1 = .ok (.iconst 0, 1) := by decide +kernel
theorem dX11_expression_2 : decode cX11_expression 2 = .ok (.putfield 290, 3) := by decide +kernel
theorem dX11_expression_5 : decode cX11_expression 5 = .ok (.aload_n 0, 1) := by decide +kernel
theorem dX11_expression_6 : decode cX11_expression 6 = .ok (.getfield 268, 3) := by decide +kernel
theorem dX11_expression_9 : decode cX11_expression 9 = .ok (.istore_n 1, 1) := by decide +kernel
theorem dX11_expression_10 : decode cX11_expression 10 = .ok (.iconst 1, 1) := by decide +kernel
theorem dX11_expression_11 : decode cX11_expression 11 = .ok (.istore_n 2, 1) := by decide +kernel
theorem dX11_expression_12 : decode cX11_expression 12 = .ok (.iload_n 2, 1) := by decide +kernel
theorem dX11_expression_13 : decode cX11_expression 13 = .ok (.ifCond .eq 347, 3) := by decide +kernel
theorem dX11_expression_16 : decode cX11_expression 16 = .ok (.aload_n 0, 1) := by decide +kernel
theorem dX11_expression_17 : decode cX11_expression 17 = .ok (.getfield 235, 3) := by decide +kernel
theorem dX11_expression_20 : decode cX11_expression 20 = .ok (.ifCond .ne 340, 3) := by decide +kernel
theorem dX11_expression_23 : decode cX11_expression 23 = .ok (.aload_n 0, 1) := by decide +kernel
theorem dX11_expression_24 : decode cX11_expression 24 = .ok (.bipush 6, 2) := by decide +kernel
theorem dX11_expression_26 : decode cX11_expression 26 = .ok (.invokevirtual 253, 3) := by decide +kernel
theorem dX11_expression_29 : decode cX11_expression 29 = .ok (.ifCond .eq 63, 3) := by decide +kernel
theorem dX11_expression_32 : decode cX11_expression 32 = .ok (.aload_n 0, 1) := by decide +kernel
theorem dX11_expression_33 : decode cX11_expression 33 = .ok (.getfield 268, 3) := by decide +kernel
theorem dX11_expression_36 : decode cX11_expression 36 = .ok (.bipush 6, 2) := by decide +kernel
theorem dX11_expression_38 : decode cX11_expression 38 = .ok (.if_icmp .ne 8, 3) := by decide +kernel
theorem dX11_expression_41 : decode cX11_expression 41 = .ok (.aload_n 0, 1) := by decide +kernel
theorem dX11_expression_42 : decode cX11_expression 42 = .ok (.iconst 2, 1) := by decide +kernel
theorem dX11_expression_43 : decode cX11_expression 43 = .ok (.invokevirtual 250, 3) := by decide +kernel
theorem dX11_expression_46 : decode cX11_expression 46 = .ok (.aload_n 0, 1) := by decide +kernel
theorem dX11_expression_47 : decode cX11_expression 47 = .ok (.getfield 235, 3) := by decide +kernel
theorem dX11_expression_50 : decode cX11_expression 50 = .ok (.ifCond .le 4, 3) := by decide +kernel
theorem dX11_expression_53 : decode cX11_expression 53 = .ok (.return_, 1) := by decide +kernel
theorem dX11_expression_54 : decode cX11_expression 54 = .ok (.aload_n 0, 1) := by decide +kernel
theorem dX11_expression_55 : decode cX11_expression 55 = .ok (.dup, 1) := by decide +kernel
theorem dX11_expression_56 : decode cX11_expression 56 = .ok (.getfield 268, 3) := by decide +kernel
theorem dX11_expression_59 : decode cX11_expression 59 = .ok (.iconst 1, 1) := by decide +kernel
theorem dX11_expression_60 : decode cX11_expression 60 = .ok (.iadd, 1) := by decide +kernel
theorem dX11_expression_61 : decode cX11_expression 61 = .ok (.putfield 268, 3) := by decide +kernel
theorem dX11_expression_64 : decode cX11_expression 64 = .ok (.aload_n 0, 1) := by decide +kernel
theorem dX11_expression_65 : decode cX11_expression 65 = .ok (.invokevirtual 256, 3) := by decide +kernel
theorem dX11_expression_68 : decode cX11_expression 68 = .ok (.aload_n 0, 1) := by decide +kernel
theorem dX11_expression_69 : decode cX11_expression 69 = .ok (.getfield 92, 3) := by decide +kernel
theorem dX11_expression_72 : decode cX11_expression 72 = .ok (.aload_n 0, 1) := by decide +kernel
theorem dX11_expression_73 : decode cX11_expression 73 = .ok (.getfield 290, 3) := by decide +kernel
theorem dX11_expression_76 : decode cX11_expression 76 = .ok (.bipush 6, 2) := by decide +kernel
theorem dX11_expression_78 : decode cX11_expression 78 = .ok (.iastore, 1) := by decide +kernel
theorem dX11_expression_79 : decode cX11_expression 79 = .ok (.aload_n 0, 1) := by decide +kernel
theorem dX11_expression_80 : decode cX11_expression 80 = .ok (.dup, 1) := by decide +kernel
theorem dX11_expression_81 : decode cX11_expression 81 = .ok (.getfield 290, 3) := by decide +kernel
theorem dX11_expression_84 : decode cX11_expression 84 = .ok (.iconst 1, 1) := by decide +kernel
theorem dX11_expression_85 : decode cX11_expression 85 = .ok (.iadd, 1) := by decide +kernel
theorem dX11_expression_86 : decode cX11_expression 86 = .ok (.putfield 290, 3) := by decide +kernel
theorem dX11_expression_89 : decode cX11_expression 89 = .ok (.goto (-77), 3) := by decide +kernel
theorem dX11_expression_92 : decode cX11_expression 92 = .ok (.aload_n 0, 1) := by decide +kernel
theorem dX11_expression_93 : decode cX11_expression 93 = .ok (.getfield 235, 3) := by decide +kernel
theorem dX11_expression_96 : decode cX11_expression 96 = .ok (.ifCond .ne 35, 3) := by decide +kernel
theorem dX11_expression_99 : decode cX11_expression 99 = .ok (.aload_n 0, 1) := by decide +kernel
theorem dX11_expression_100 : decode cX11_expression 100 = .ok (.getfield 20, 3) := by decide +kernel
theorem dX11_expression_103 : decode cX11_expression 103 = .ok (.aload_n 0, 1) := by decide +kernel
theorem dX11_expression_104 : decode cX11_expression 104 = .ok (.getfield 238, 3) := by decide +kernel
theorem dX11_expression_107 : decode cX11_expression 107 = .ok (.iaload, 1) := by decide +kernel
theorem dX11_expression_108 : decode cX11_expression 108 = .ok (.bipush 28, 2) := by decide +kernel
theorem dX11_expression_110 : decode cX11_expression 110 = .ok (.if_icmp .lt 21, 3) := by decide +kernel
theorem dX11_expression_113 : decode cX11_expression 113 = .ok (.aload_n 0, 1) := by decide +kernel
theorem dX11_expression_114 : decode cX11_expression 114 = .ok (.getfield 20, 3) := by decide +kernel
theorem dX11_expression_117 : decode cX11_expression 117 = .ok (.aload_n 0, 1) := by decide +kernel
theorem dX11_expression_118 : decode cX11_expression 118 = .ok (.getfield 238, 3) := by decide +kernel
theorem dX11_expression_121 : decode cX11_expression 121 = .ok (.iaload, 1) := by decide +kernel
theorem dX11_expression_122 : decode cX11_expression 122 = .ok (.bipush 39, 2) := by decide +kernel
theorem dX11_expression_124 : decode cX11_expression 124 = .ok (.if_icmp .gt 7, 3) := by decide +kernel
theorem dX11_expression_127 : decode cX11_expression 127 = .ok (.iconst 1, 1) := by decide +kernel
theorem dX11_expression_128 : decode cX11_expression 128 = .ok (.goto 4, 3) := by decide +kernel
theorem dX11_expression_131 : decode cX11_expression 131 = .ok (.iconst 0, 1) := by decide +kernel
theorem dX11_expression_132 : decode cX11_expression 132 = .ok (.istore_n 3, 1) := by decide +kernel
theorem dX11_expression_133 : decode cX11_expression 133 = .ok (.aload_n 0, 1) := by decide +kernel
theorem dX11_expression_134 : decode cX11_expression 134 = .ok (.iconst 2, 1) := by decide +kernel
theorem dX11_expression_135 : decode cX11_expression 135 = .ok (.invokevirtual 253, 3) := by decide +kernel
theorem dX11_expression_138 : decode cX11_expression 138 = .ok (.ifCond .ne 12, 3) := by decide +kernel
theorem dX11_expression_141 : decode cX11_expression 141 = .ok (.iload_n 3, 1) := by decide +kernel
theorem dX11_expression_142 : decode cX11_expression 142 = .ok (.ifCond .ne 8, 3) := by decide +kernel
theorem dX11_expression_145 : decode cX11_expression 145 = .ok (.aload_n 0, 1) := by decide +kernel
theorem dX11_expression_146 : decode cX11_expression 146 = .ok (.iconst 1, 1) := by decide +kernel
theorem dX11_expression_147 : decode cX11_expression 147 = .ok (.invokevirtual 250, 3) := by decide +kernel
theorem dX11_expression_150 : decode cX11_expression 150 = .ok (.aload_n 0, 1) := by decide +kernel
theorem dX11_expression_151 : decode cX11_expression 151 = .ok (.getfield 235, 3) := by decide +kernel
theorem dX11_expression_154 : decode cX11_expression 154 = .ok (.ifCond .le 4, 3) := by decide +kernel
theorem dX11_expression_157 : decode cX11_expression 157 = .ok (.return_, 1) := by decide +kernel
theorem dX11_expression_158 : decode cX11_expression 158 = .ok (.iload_n 3, 1) := by decide +kernel
theorem dX11_expression_159 : decode cX11_expression 159 = .ok (.ifCond .eq 23, 3) := by decide +kernel
theorem dX11_expression_162 : decode cX11_expression 162 = .ok (.aload_n 0, 1) := by decide +kernel
theorem dX11_expression_163 : decode cX11_expression 163 = .ok (.iconst 1, 1) := by decide +kernel
theorem dX11_expression_164 : decode cX11_expression 164 = .ok (.aload_n 0, 1) := by decide +kernel
theorem dX11_expression_165 : decode cX11_expression 165 = .ok (.getfield 20, 3) := by decide +kernel
theorem dX11_expression_168 : decode cX11_expression 168 = .ok (.aload_n 0, 1) := by decide +kernel
theorem dX11_expression_169 : decode cX11_expression 169 = .ok (.getfield 238, 3) := by decide +kernel
theorem dX11_expression_172 : decode cX11_expression 172 = .ok (.iaload, 1) := by decide +kernel
theorem dX11_expression_173 : decode cX11_expression 173 = .ok (.bipush 28, 2) := by decide +kernel
theorem dX11_expression_175 : decode cX11_expression 175 = .ok (.isub, 1) := by decide +kernel
theorem dX11_expression_176 : decode cX11_expression 176 = .ok (.invokevirtual 293, 3) := by decide +kernel
theorem dX11_expression_179 : decode cX11_expression 179 = .ok (.goto 17, 3) := by decide +kernel
theorem dX11_expression_182 : decode cX11_expression 182 = .ok (.aload_n 0, 1) := by decide +kernel
theorem dX11_expression_183 : decode cX11_expression 183 = .ok (.iconst 0, 1) := by decide +kernel
theorem dX11_expression_184 : decode cX11_expression 184 = .ok (.aload_n 0, 1) := by decide +kernel
theorem dX11_expression_185 : decode cX11_expression 185 = .ok (.getfield 27, 3) := by decide +kernel
theorem dX11_expression_188 : decode cX11_expression 188 = .ok (.aload_n 0, 1) := by decide +kernel
theorem dX11_expression_189 : decode cX11_expression 189 = .ok (.getfield 238, 3) := by decide +kernel
theorem dX11_expression_192 : decode cX11_expression 192 = .ok (.iaload, 1) := by decide +kernel
theorem dX11_expression_193 : decode cX11_expression 193 = .ok (.invokevirtual 293, 3) := by decide +kernel
theorem dX11_expression_196 : decode cX11_expression 196 = .ok (.aload_n 0, 1) := by decide +kernel
theorem dX11_expression_197 : decode cX11_expression 197 = .ok (.invokevirtual 256, 3) := by decide +kernel
theorem dX11_expression_200 : decode cX11_expression 200 = .ok (.aload_n 0, 1) := by decide +kernel
theorem dX11_expression_201 : decode cX11_expression 201 = .ok (.bipush 7, 2) := by decide +kernel
theorem dX11_expression_203 : decode cX11_expression 203 = .ok (.invokevirtual 253, 3) := by decide +kernel
theorem dX11_expression_206 : decode cX11_expression 206 = .ok (.ifCond .eq 43, 3) := by decide +kernel
theorem dX11_expression_209 : decode cX11_expression 209 = .ok (.aload_n 0, 1) := by decide +kernel
theorem dX11_expression_210 : decode cX11_expression 210 = .ok (.getfield 268, 3) := by decide +kernel
theorem dX11_expression_213 : decode cX11_expression 213 = .ok (.iload_n 1, 1) := by decide +kernel
theorem dX11_expression_214 : decode cX11_expression 214 = .ok (.if_icmp .le 35, 3) := by decide +kernel
theorem dX11_expression_217 : decode cX11_expression 217 = .ok (.aload_n 0, 1) := by decide +kernel
theorem dX11_expression_218 : decode cX11_expression 218 = .ok (.iconst 0, 1) := by decide +kernel
theorem dX11_expression_219 : decode cX11_expression 219 = .ok (.invokevirtual 297, 3) := by decide +kernel
theorem dX11_expression_222 : decode cX11_expression 222 = .ok (.aload_n 0, 1) := by decide +kernel
theorem dX11_expression_223 : decode cX11_expression 223 = .ok (.dup, 1) := by decide +kernel
theorem dX11_expression_224 : decode cX11_expression 224 = .ok (.getfield 290, 3) := by decide +kernel
theorem dX11_expression_227 : decode cX11_expression 227 = .ok (.iconst 1, 1) := by decide +kernel
theorem dX11_expression_228 : decode cX11_expression 228 = .ok (.isub, 1) := by decide +kernel
theorem dX11_expression_229 : decode cX11_expression 229 = .ok (.putfield 290, 3) := by decide +kernel
theorem dX11_expression_232 : decode cX11_expression 232 = .ok (.aload_n 0, 1) := by decide +kernel
theorem dX11_expression_233 : decode cX11_expression 233 = .ok (.dup, 1) := by decide +kernel
theorem dX11_expression_234 : decode cX11_expression 234 = .ok (.getfield 268, 3) := by decide +kernel
theorem dX11_expression_237 : decode cX11_expression 237 = .ok (.iconst 1, 1) := by decide +kernel
theorem dX11_expression_238 : decode cX11_expression 238 = .ok (.isub, 1) := by decide +kernel
theorem dX11_expression_239 : decode cX11_expression 239 = .ok (.putfield 268, 3) := by decide +kernel
theorem dX11_expression_242 : decode cX11_expression 242 = .ok (.aload_n 0, 1) := by decide +kernel
theorem dX11_expression_243 : decode cX11_expression 243 = .ok (.invokevirtual 256, 3) := by decide +kernel
theorem dX11_expression_246 : decode cX11_expression 246 = .ok (.goto (-46), 3) := by decide +kernel
theorem dX11_expression_249 : decode cX11_expression 249 = .ok (.aload_n 0, 1) := by decide +kernel
theorem dX11_expression_250 : decode cX11_expression 250 = .ok (.bipush 8, 2) := by decide +kernel
theorem dX11_expression_252 : decode cX11_expression 252 = .ok (.invokevirtual 253, 3) := by decide +kernel
theorem dX11_expression_255 : decode cX11_expression 255 = .ok (.ifCond .ne 21, 3) := by decide +kernel
theorem dX11_expression_258 : decode cX11_expression 258 = .ok (.aload_n 0, 1) := by decide +kernel
theorem dX11_expression_259 : decode cX11_expression 259 = .ok (.bipush 9, 2) := by decide +kernel
theorem dX11_expression_261 : decode cX11_expression 261 = .ok (.invokevirtual 253, 3) := by decide +kernel
theorem dX11_expression_264 : decode cX11_expression 264 = .ok (.ifCond .ne 12, 3) := by decide +kernel
theorem dX11_expression_267 : decode cX11_expression 267 = .ok (.aload_n 0, 1) := by decide +kernel
theorem dX11_expression_268 : decode cX11_expression 268 = .ok (.bipush 10, 2) := by decide +kernel
theorem dX11_expression_270 : decode cX11_expression 270 = .ok (.invokevirtual 253, 3) := by decide +kernel
theorem dX11_expression_273 : decode cX11_expression 273 = .ok (.ifCond .eq 7, 3) := by decide +kernel
theorem dX11_expression_276 : decode cX11_expression 276 = .ok (.iconst 1, 1) := by decide +kernel
theorem dX11_expression_277 : decode cX11_expression 277 = .ok (.goto 4, 3) := by decide +kernel
theorem dX11_expression_280 : decode cX11_expression 280 = .ok (.iconst 0, 1) := by decide +kernel
theorem dX11_expression_281 : decode cX11_expression 281 = .ok (.istore_n 2, 1) := by decide +kernel
theorem dX11_expression_282 : decode cX11_expression 282 = .ok (.iload_n 2, 1) := by decide +kernel
theorem dX11_expression_283 : decode cX11_expression 283 = .ok (.ifCond .ne 22, 3) := by decide +kernel
theorem dX11_expression_286 : decode cX11_expression 286 = .ok (.aload_n 0, 1) := by decide +kernel
theorem dX11_expression_287 : decode cX11_expression 287 = .ok (.getfield 268, 3) := by decide +kernel
theorem dX11_expression_290 : decode cX11_expression 290 = .ok (.iload_n 1, 1) := by decide +kernel
theorem dX11_expression_291 : decode cX11_expression 291 = .ok (.if_icmp .le 8, 3) := by decide +kernel
theorem dX11_expression_294 : decode cX11_expression 294 = .ok (.aload_n 0, 1) := by decide +kernel
theorem dX11_expression_295 : decode cX11_expression 295 = .ok (.iconst 1, 1) := by decide +kernel
theorem dX11_expression_296 : decode cX11_expression 296 = .ok (.invokevirtual 250, 3) := by decide +kernel
theorem dX11_expression_299 : decode cX11_expression 299 = .ok (.aload_n 0, 1) := by decide +kernel
theorem dX11_expression_300 : decode cX11_expression 300 = .ok (.iconst 0, 1) := by decide +kernel
theorem dX11_expression_301 : decode cX11_expression 301 = .ok (.invokevirtual 297, 3) := by decide +kernel
theorem dX11_expression_304 : decode cX11_expression 304 = .ok (.return_, 1) := by decide +kernel
theorem dX11_expression_305 : decode cX11_expression 305 = .ok (.aload_n 0, 1) := by decide +kernel
theorem dX11_expression_306 : decode cX11_expression 306 = .ok (.getfield 20, 3) := by decide +kernel
theorem dX11_expression_309 : decode cX11_expression 309 = .ok (.aload_n 0, 1) := by decide +kernel
theorem dX11_expression_310 : decode cX11_expression 310 = .ok (.getfield 238, 3) := by decide +kernel
theorem dX11_expression_313 : decode cX11_expression 313 = .ok (.iaload, 1) := by decide +kernel
theorem dX11_expression_314 : decode cX11_expression 314 = .ok (.istore 4, 2) := by decide +kernel
theorem dX11_expression_316 : decode cX11_expression 316 = .ok (.aload_n 0, 1) := by decide +kernel
theorem dX11_expression_317 : decode cX11_expression 317 = .ok (.iload 4, 2) := by decide +kernel
theorem dX11_expression_319 : decode cX11_expression 319 = .ok (.bipush 10, 2) := by decide +kernel
theorem dX11_expression_321 : decode cX11_expression 321 = .ok (.if_icmp .ne 7, 3) := by decide +kernel
theorem dX11_expression_324 : decode cX11_expression 324 = .ok (.iconst 1, 1) := by decide +kernel
theorem dX11_expression_325 : decode cX11_expression 325 = .ok (.goto 4, 3) := by decide +kernel
theorem dX11_expression_328 : decode cX11_expression 328 = .ok (.iconst 0, 1) := by decide +kernel
theorem dX11_expression_329 : decode cX11_expression 329 = .ok (.invokevirtual 297, 3) := by decide +kernel
theorem dX11_expression_332 : decode cX11_expression 332 = .ok (.aload_n 0, 1) := by decide +kernel
theorem dX11_expression_333 : decode cX11_expression 333 = .ok (.getfield 92, 3) := by decide +kernel
theorem dX11_expression_336 : decode cX11_expression 336 = .ok (.aload_n 0, 1) := by decide +kernel
theorem dX11_expression_337 : decode cX11_expression 337 = .ok (.getfield 290, 3) := by decide +kernel
theorem dX11_expression_340 : decode cX11_expression 340 = .ok (.iload 4, 2) := by decide +kernel
theorem dX11_expression_342 : decode cX11_expression 342 = .ok (.iastore, 1) := by decide +kernel
theorem dX11_expression_343 : decode cX11_expression 343 = .ok (.aload_n 0, 1) := by decide +kernel
theorem dX11_expression_344 : decode cX11_expression 344 = .ok (.dup, 1) := by decide +kernel
theorem dX11_expression_345 : decode cX11_expression 345 = .ok (.getfield 290, 3) := by decide +kernel
theorem dX11_expression_348 : decode cX11_expression 348 = .ok (.iconst 1, 1) := by decide +kernel
theorem dX11_expression_349 : decode cX11_expression 349 = .ok (.iadd, 1) := by decide +kernel
theorem dX11_expression_350 : decode cX11_expression 350 = .ok (.putfield 290, 3) := by decide +kernel
theorem dX11_expression_353 : decode cX11_expression 353 = .ok (.aload_n 0, 1) := by decide +kernel
theorem dX11_expression_354 : decode cX11_expression 354 = .ok (.invokevirtual 256, 3) := by decide +kernel
theorem dX11_expression_357 : decode cX11_expression 357 = .ok (.goto (-345), 3) := by decide +kernel
theorem dX11_expression_360 : decode cX11_expression 360 = .ok (.return_, 1) := by decide +kernel
theorem dX11_isPerson_0 : decode cX11_isPerson 0 = .ok (.iload_n 1, 1) := by decide +kernel
theorem dX11_isPerson_1 : decode cX11_isPerson 1 = .ok (.ifCond .lt 15, 3) := by decide +kernel
theorem dX11_isPerson_4 : decode cX11_isPerson 4 = .ok (.iload_n 1, 1) := by decide +kernel
theorem dX11_isPerson_5 : decode cX11_isPerson 5 = .ok (.aload_n 0, 1) := by decide +kernel
theorem dX11_isPerson_6 : decode cX11_isPerson 6 = .ok (.getfield 300, 3) := by decide +kernel
theorem dX11_isPerson_9 : decode cX11_isPerson 9 = .ok (.if_icmp .ge 7, 3) := by decide +kernel
theorem dX11_isPerson_12 : decode cX11_isPerson 12 = .ok (.iconst 1, 1) := by decide +kernel
theorem dX11_isPerson_13 : decode cX11_isPerson 13 = .ok (.goto 4, 3) := by decide +kernel
theorem dX11_isPerson_16 : decode cX11_isPerson 16 = .ok (.iconst 0, 1) := by decide +kernel
theorem dX11_isPerson_17 : decode cX11_isPerson 17 = .ok (.ireturn, 1) := by decide +kernel
theorem dX11_isDay_0 : decode cX11_isDay 0 = .ok (.iload_n 0, 1) := by decide +kernel
theorem dX11_isDay_1 : decode cX11_isDay 1 = .ok (.ifCond .lt 14, 3) := by decide +kernel
theorem dX11_isDay_4 : decode cX11_isDay 4 = .ok (.iload_n 0, 1) := by decide +kernel
theorem dX11_isDay_5 : decode cX11_isDay 5 = .ok (.sipush 9999, 3) := by decide +kernel
theorem dX11_isDay_8 : decode cX11_isDay 8 = .ok (.if_icmp .gt 7, 3) := by decide +kernel
theorem dX11_isDay_11 : decode cX11_isDay 11 = .ok (.iconst 1, 1) := by decide +kernel
theorem dX11_isDay_12 : decode cX11_isDay 12 = .ok (.goto 4, 3) := by decide +kernel
theorem dX11_isDay_15 : decode cX11_isDay 15 = .ok (.iconst 0, 1) := by decide +kernel
theorem dX11_isDay_16 : decode cX11_isDay 16 = .ok (.ireturn, 1) := by decide +kernel
theorem dX11_person_0 : decode cX11_person 0 = .ok (.aload_n 0, 1) := by decide +kernel
theorem dX11_person_1 : decode cX11_person 1 = .ok (.getfield 300, 3) := by decide +kernel
theorem dX11_person_4 : decode cX11_person 4 = .ok (.bipush 12, 2) := by decide +kernel
theorem dX11_person_6 : decode cX11_person 6 = .ok (.if_icmp .eq 76, 3) := by decide +kernel
theorem dX11_person_9 : decode cX11_person 9 = .ok (.iload_n 1, 1) := by decide +kernel
theorem dX11_person_10 : decode cX11_person 10 = .ok (.iconst (-1), 1) := by decide +kernel
theorem dX11_person_11 : decode cX11_person 11 = .ok (.if_icmp .lt 71, 3) := by decide +kernel
theorem dX11_person_14 : decode cX11_person 14 = .ok (.iload_n 1, 1) := by decide +kernel
theorem dX11_person_15 : decode cX11_person 15 = .ok (.aload_n 0, 1) := by decide +kernel
theorem dX11_person_16 : decode cX11_person 16 = .ok (.getfield 300, 3) := by decide +kernel
theorem dX11_person_19 : decode cX11_person 19 = .ok (.if_icmp .ge 63, 3) := by decide +kernel
theorem dX11_person_22 : decode cX11_person 22 = .ok (.iload_n 2, 1) := by decide +kernel
theorem dX11_person_23 : decode cX11_person 23 = .ok (.iconst (-1), 1) := by decide +kernel
theorem dX11_person_24 : decode cX11_person 24 = .ok (.if_icmp .lt 58, 3) := by decide +kernel
theorem dX11_person_27 : decode cX11_person 27 = .ok (.iload_n 2, 1) := by decide +kernel
theorem dX11_person_28 : decode cX11_person 28 = .ok (.aload_n 0, 1) := by decide +kernel
theorem dX11_person_29 : decode cX11_person 29 = .ok (.getfield 300, 3) := by decide +kernel
theorem dX11_person_32 : decode cX11_person 32 = .ok (.if_icmp .ge 50, 3) := by decide +kernel
theorem dX11_person_35 : decode cX11_person 35 = .ok (.iload_n 1, 1) := by decide +kernel
theorem dX11_person_36 : decode cX11_person 36 = .ok (.iconst (-1), 1) := by decide +kernel
theorem dX11_person_37 : decode cX11_person 37 = .ok (.if_icmp .eq 8, 3) := by decide +kernel
theorem dX11_person_40 : decode cX11_person 40 = .ok (.iload_n 1, 1) := by decide +kernel
theorem dX11_person_41 : decode cX11_person 41 = .ok (.iload_n 2, 1) := by decide +kernel
theorem dX11_person_42 : decode cX11_person 42 = .ok (.if_icmp .eq 40, 3) := by decide +kernel
theorem dX11_person_45 : decode cX11_person 45 = .ok (.iload_n 3, 1) := by decide +kernel
theorem dX11_person_46 : decode cX11_person 46 = .ok (.invokestatic 259, 3) := by decide +kernel
theorem dX11_person_49 : decode cX11_person 49 = .ok (.ifCond .eq 33, 3) := by decide +kernel
theorem dX11_person_52 : decode cX11_person 52 = .ok (.iload_n 1, 1) := by decide +kernel
theorem dX11_person_53 : decode cX11_person 53 = .ok (.iconst (-1), 1) := by decide +kernel
theorem dX11_person_54 : decode cX11_person 54 = .ok (.if_icmp .eq 13, 3) := by decide +kernel
theorem dX11_person_57 : decode cX11_person 57 = .ok (.iload_n 3, 1) := by decide +kernel
theorem dX11_person_58 : decode cX11_person 58 = .ok (.aload_n 0, 1) := by decide +kernel
theorem dX11_person_59 : decode cX11_person 59 = .ok (.getfield 101, 3) := by decide +kernel
theorem dX11_person_62 : decode cX11_person 62 = .ok (.iload_n 1, 1) := by decide +kernel
theorem dX11_person_63 : decode cX11_person 63 = .ok (.iaload, 1) := by decide +kernel
theorem dX11_person_64 : decode cX11_person 64 = .ok (.if_icmp .le 18, 3) := by decide +kernel
theorem dX11_person_67 : decode cX11_person 67 = .ok (.iload_n 2, 1) := by decide +kernel
theorem dX11_person_68 : decode cX11_person 68 = .ok (.iconst (-1), 1) := by decide +kernel
theorem dX11_person_69 : decode cX11_person 69 = .ok (.if_icmp .eq 15, 3) := by decide +kernel
theorem dX11_person_72 : decode cX11_person 72 = .ok (.iload_n 3, 1) := by decide +kernel
theorem dX11_person_73 : decode cX11_person 73 = .ok (.aload_n 0, 1) := by decide +kernel
theorem dX11_person_74 : decode cX11_person 74 = .ok (.getfield 101, 3) := by decide +kernel
theorem dX11_person_77 : decode cX11_person 77 = .ok (.iload_n 2, 1) := by decide +kernel
theorem dX11_person_78 : decode cX11_person 78 = .ok (.iaload, 1) := by decide +kernel
theorem dX11_person_79 : decode cX11_person 79 = .ok (.if_icmp .gt 5, 3) := by decide +kernel
theorem dX11_person_82 : decode cX11_person 82 = .ok (.iconst (-1), 1) := by decide +kernel
theorem dX11_person_83 : decode cX11_person 83 = .ok (.ireturn, 1) := by decide +kernel
theorem dX11_person_84 : decode cX11_person 84 = .ok (.aload_n 0, 1) := by decide +kernel
theorem dX11_person_85 : decode cX11_person 85 = .ok (.getfield 95, 3) := by decide +kernel
theorem dX11_person_88 : decode cX11_person 88 = .ok (.aload_n 0, 1) := by decide +kernel
theorem dX11_person_89 : decode cX11_person 89 = .ok (.getfield 300, 3) := by decide +kernel
theorem dX11_person_92 : decode cX11_person 92 = .ok (.iload_n 1, 1) := by decide +kernel
theorem dX11_person_93 : decode cX11_person 93 = .ok (.iastore, 1) := by decide +kernel
theorem dX11_person_94 : decode cX11_person 94 = .ok (.aload_n 0, 1) := by decide +kernel
theorem dX11_person_95 : decode cX11_person 95 = .ok (.getfield 98, 3) := by decide +kernel
theorem dX11_person_98 : decode cX11_person 98 = .ok (.aload_n 0, 1) := by decide +kernel
theorem dX11_person_99 : decode cX11_person 99 = .ok (.getfield 300, 3) := by decide +kernel
theorem dX11_person_102 : decode cX11_person 102 = .ok (.iload_n 2, 1) := by decide +kernel
theorem dX11_person_103 : decode cX11_person 103 = .ok (.iastore, 1) := by decide +kernel
theorem dX11_person_104 : decode cX11_person 104 = .ok (.aload_n 0, 1) := by decide +kernel
theorem dX11_person_105 : decode cX11_person 105 = .ok (.getfield 101, 3) := by decide +kernel
theorem dX11_person_108 : decode cX11_person 108 = .ok (.aload_n 0, 1) := by decide +kernel
theorem dX11_person_109 : decode cX11_person 109 = .ok (.getfield 300, 3) := by decide +kernel
theorem dX11_person_112 : decode cX11_person 112 = .ok (.iload_n 3, 1) := by decide +kernel
theorem dX11_person_113 : decode cX11_person 113 = .ok (.iastore, 1) := by decide +kernel
theorem dX11_person_114 : decode cX11_person 114 = .ok (.iconst 0, 1) := by decide +kernel
theorem dX11_person_115 : decode cX11_person 115 = .ok (.istore 4, 2) := by decide +kernel
theorem dX11_person_117 : decode cX11_person 117 = .ok (.iload 4, 2) := by decide +kernel
theorem dX11_person_119 : decode cX11_person 119 = .ok (.bipush 12, 2) := by decide +kernel
theorem dX11_person_121 : decode cX11_person 121 = .ok (.if_icmp .ge 123, 3) := by decide +kernel
theorem dX11_person_124 : decode cX11_person 124 = .ok (.iload 4, 2) := by decide +kernel
theorem dX11_person_126 : decode cX11_person 126 = .ok (.aload_n 0, 1) := by decide +kernel
theorem dX11_person_127 : decode cX11_person 127 = .ok (.getfield 300, 3) := by decide +kernel
theorem dX11_person_130 : decode cX11_person 130 = .ok (.if_icmp .ne 7, 3) := by decide +kernel
theorem dX11_person_133 : decode cX11_person 133 = .ok (.iconst 0, 1) := by decide +kernel
theorem dX11_person_134 : decode cX11_person 134 = .ok (.goto 5, 3) := by decide +kernel
theorem dX11_person_137 : decode cX11_person 137 = .ok (.bipush 99, 2) := by decide +kernel
theorem dX11_person_139 : decode cX11_person 139 = .ok (.istore 5, 2) := by decide +kernel
theorem dX11_person_141 : decode cX11_person 141 = .ok (.iload_n 1, 1) := by decide +kernel
theorem dX11_person_142 : decode cX11_person 142 = .ok (.iconst (-1), 1) := by decide +kernel
theorem dX11_person_143 : decode cX11_person 143 = .ok (.if_icmp .eq 38, 3) := by decide +kernel
theorem dX11_person_146 : decode cX11_person 146 = .ok (.aload_n 0, 1) := by decide +kernel
theorem dX11_person_147 : decode cX11_person 147 = .ok (.getfield 104, 3) := by decide +kernel
theorem dX11_person_150 : decode cX11_person 150 = .ok (.bipush 12, 2) := by decide +kernel
theorem dX11_person_152 : decode cX11_person 152 = .ok (.iload_n 1, 1) := by decide +kernel
theorem dX11_person_153 : decode cX11_person 153 = .ok (.imul, 1) := by decide +kernel
theorem dX11_person_154 : decode cX11_person 154 = .ok (.iload 4, 2) := by decide +kernel
theorem dX11_person_156 : decode cX11_person 156 = .ok (.iadd, 1) := by decide +kernel
theorem dX11_person_157 : decode cX11_person 157 = .ok (.iaload, 1) := by decide +kernel
theorem dX11_person_158 : decode cX11_person 158 = .ok (.iconst 1, 1) := by decide +kernel
theorem dX11_person_159 : decode cX11_person 159 = .ok (.iadd, 1) := by decide +kernel
theorem dX11_person_160 : decode cX11_person 160 = .ok (.iload 5, 2) := by decide +kernel
theorem dX11_person_162 : decode cX11_person 162 = .ok (.if_icmp .ge 19, 3) := by decide +kernel
theorem dX11_person_165 : decode cX11_person 165 = .ok (.aload_n 0, 1) := by decide +kernel
theorem dX11_person_166 : decode cX11_person 166 = .ok (.getfield 104, 3) := by decide +kernel
theorem dX11_person_169 : decode cX11_person 169 = .ok (.bipush 12, 2) := by decide +kernel
theorem dX11_person_171 : decode cX11_person 171 = .ok (.iload_n 1, 1) := by decide +kernel
theorem dX11_person_172 : decode cX11_person 172 = .ok (.imul, 1) := by decide +kernel
theorem dX11_person_173 : decode cX11_person 173 = .ok (.iload 4, 2) := by decide +kernel
theorem dX11_person_175 : decode cX11_person 175 = .ok (.iadd, 1) := by decide +kernel
theorem dX11_person_176 : decode cX11_person 176 = .ok (.iaload, 1) := by decide +kernel
theorem dX11_person_177 : decode cX11_person 177 = .ok (.iconst 1, 1) := by decide +kernel
theorem dX11_person_178 : decode cX11_person 178 = .ok (.iadd, 1) := by decide +kernel
theorem dX11_person_179 : decode cX11_person 179 = .ok (.istore 5, 2) := by decide +kernel
theorem dX11_person_181 : decode cX11_person 181 = .ok (.iload_n 2, 1) := by decide +kernel
theorem dX11_person_182 : decode cX11_person 182 = .ok (.iconst (-1), 1) := by decide +kernel
theorem dX11_person_183 : decode cX11_person 183 = .ok (.if_icmp .eq 38, 3) := by decide +kernel
theorem dX11_person_186 : decode cX11_person 186 = .ok (.aload_n 0, 1) := by decide +kernel
theorem dX11_person_187 : decode cX11_person 187 = .ok (.getfield 104, 3) := by decide +kernel
theorem dX11_person_190 : decode cX11_person 190 = .ok (.bipush 12, 2) := by decide +kernel
theorem dX11_person_192 : decode cX11_person 192 = .ok (.iload_n 2, 1) := by decide +kernel
theorem dX11_person_193 : decode cX11_person 193 = .ok (.imul, 1) := by decide +kernel
theorem dX11_person_194 : decode cX11_person 194 = .ok (.iload 4, 2) := by decide +kernel
theorem dX11_person_196 : decode cX11_person 196 = .ok (.iadd, 1) := by decide +kernel
theorem dX11_person_197 : decode cX11_person 197 = .ok (.iaload, 1) := by decide +kernel
theorem dX11_person_198 : decode cX11_person 198 = .ok (.iconst 1, 1) := by decide +kernel
theorem dX11_person_199 : decode cX11_person 199 = .ok (.iadd, 1) := by decide +kernel
theorem dX11_person_200 : decode cX11_person 200 = .ok (.iload 5, 2) := by decide +kernel
theorem dX11_person_202 : decode cX11_person 202 = .ok (.if_icmp .ge 19, 3) := by decide +kernel
theorem dX11_person_205 : decode cX11_person 205 = .ok (.aload_n 0, 1) := by decide +kernel
theorem dX11_person_206 : decode cX11_person 206 = .ok (.getfield 104, 3) := by decide +kernel
theorem dX11_person_209 : decode cX11_person 209 = .ok (.bipush 12, 2) := by decide +kernel
theorem dX11_person_211 : decode cX11_person 211 = .ok (.iload_n 2, 1) := by decide +kernel
theorem dX11_person_212 : decode cX11_person 212 = .ok (.imul, 1) := by decide +kernel
theorem dX11_person_213 : decode cX11_person 213 = .ok (.iload 4, 2) := by decide +kernel
theorem dX11_person_215 : decode cX11_person 215 = .ok (.iadd, 1) := by decide +kernel
theorem dX11_person_216 : decode cX11_person 216 = .ok (.iaload, 1) := by decide +kernel
theorem dX11_person_217 : decode cX11_person 217 = .ok (.iconst 1, 1) := by decide +kernel
theorem dX11_person_218 : decode cX11_person 218 = .ok (.iadd, 1) := by decide +kernel
theorem dX11_person_219 : decode cX11_person 219 = .ok (.istore 5, 2) := by decide +kernel
theorem dX11_person_221 : decode cX11_person 221 = .ok (.aload_n 0, 1) := by decide +kernel
theorem dX11_person_222 : decode cX11_person 222 = .ok (.getfield 104, 3) := by decide +kernel
theorem dX11_person_225 : decode cX11_person 225 = .ok (.bipush 12, 2) := by decide +kernel
theorem dX11_person_227 : decode cX11_person 227 = .ok (.aload_n 0, 1) := by decide +kernel
theorem dX11_person_228 : decode cX11_person 228 = .ok (.getfield 300, 3) := by decide +kernel
theorem dX11_person_231 : decode cX11_person 231 = .ok (.imul, 1) := by decide +kernel
theorem dX11_person_232 : decode cX11_person 232 = .ok (.iload 4, 2) := by decide +kernel
theorem dX11_person_234 : decode cX11_person 234 = .ok (.iadd, 1) := by decide +kernel
theorem dX11_person_235 : decode cX11_person 235 = .ok (.iload 5, 2) := by decide +kernel
theorem dX11_person_237 : decode cX11_person 237 = .ok (.iastore, 1) := by decide +kernel
theorem dX11_person_238 : decode cX11_person 238 = .ok (.iinc 4 1, 3) := by decide +kernel
theorem dX11_person_241 : decode cX11_person 241 = .ok (.goto (-124), 3) := by decide +kernel
theorem dX11_person_244 : decode cX11_person 244 = .ok (.aload_n 0, 1) := by decide +kernel
theorem dX11_person_245 : decode cX11_person 245 = .ok (.dup, 1) := by decide +kernel
theorem dX11_person_246 : decode cX11_person 246 = .ok (.getfield 300, 3) := by decide +kernel
theorem dX11_person_249 : decode cX11_person 249 = .ok (.iconst 1, 1) := by decide +kernel
theorem dX11_person_250 : decode cX11_person 250 = .ok (.iadd, 1) := by decide +kernel
theorem dX11_person_251 : decode cX11_person 251 = .ok (.putfield 300, 3) := by decide +kernel
theorem dX11_person_254 : decode cX11_person 254 = .ok (.aload_n 0, 1) := by decide +kernel
theorem dX11_person_255 : decode cX11_person 255 = .ok (.getfield 300, 3) := by decide +kernel
theorem dX11_person_258 : decode cX11_person 258 = .ok (.iconst 1, 1) := by decide +kernel
theorem dX11_person_259 : decode cX11_person 259 = .ok (.isub, 1) := by decide +kernel
theorem dX11_person_260 : decode cX11_person 260 = .ok (.ireturn, 1) := by decide +kernel
theorem dX11_degreeOf_0 : decode cX11_degreeOf 0 = .ok (.bipush 99, 2) := by decide +kernel
theorem dX11_degreeOf_2 : decode cX11_degreeOf 2 = .ok (.istore_n 3, 1) := by decide +kernel
theorem dX11_degreeOf_3 : decode cX11_degreeOf 3 = .ok (.iconst 0, 1) := by decide +kernel
theorem dX11_degreeOf_4 : decode cX11_degreeOf 4 = .ok (.istore 4, 2) := by decide +kernel
theorem dX11_degreeOf_6 : decode cX11_degreeOf 6 = .ok (.iload 4, 2) := by decide +kernel
theorem dX11_degreeOf_8 : decode cX11_degreeOf 8 = .ok (.aload_n 0, 1) := by decide +kernel
theorem dX11_degreeOf_9 : decode cX11_degreeOf 9 = .ok (.getfield 300, 3) := by decide +kernel
theorem dX11_degreeOf_12 : decode cX11_degreeOf 12 = .ok (.if_icmp .ge 62, 3) := by decide +kernel
theorem dX11_degreeOf_15 : decode cX11_degreeOf 15 = .ok (.aload_n 0, 1) := by decide +kernel
theorem dX11_degreeOf_16 : decode cX11_degreeOf 16 = .ok (.getfield 104, 3) := by decide +kernel
theorem dX11_degreeOf_19 : decode cX11_degreeOf 19 = .ok (.bipush 12, 2) := by decide +kernel
theorem dX11_degreeOf_21 : decode cX11_degreeOf 21 = .ok (.iload_n 1, 1) := by decide +kernel
theorem dX11_degreeOf_22 : decode cX11_degreeOf 22 = .ok (.imul, 1) := by decide +kernel
theorem dX11_degreeOf_23 : decode cX11_degreeOf 23 = .ok (.iload 4, 2) := by decide +kernel
theorem dX11_degreeOf_25 : decode cX11_degreeOf 25 = .ok (.iadd, 1) := by decide +kernel
theorem dX11_degreeOf_26 : decode cX11_degreeOf 26 = .ok (.iaload, 1) := by decide +kernel
theorem dX11_degreeOf_27 : decode cX11_degreeOf 27 = .ok (.istore 5, 2) := by decide +kernel
theorem dX11_degreeOf_29 : decode cX11_degreeOf 29 = .ok (.aload_n 0, 1) := by decide +kernel
theorem dX11_degreeOf_30 : decode cX11_degreeOf 30 = .ok (.getfield 104, 3) := by decide +kernel
theorem dX11_degreeOf_33 : decode cX11_degreeOf 33 = .ok (.bipush 12, 2) := by decide +kernel
theorem dX11_degreeOf_35 : decode cX11_degreeOf 35 = .ok (.iload_n 2, 1) := by decide +kernel
theorem dX11_degreeOf_36 : decode cX11_degreeOf 36 = .ok (.imul, 1) := by decide +kernel
theorem dX11_degreeOf_37 : decode cX11_degreeOf 37 = .ok (.iload 4, 2) := by decide +kernel
theorem dX11_degreeOf_39 : decode cX11_degreeOf 39 = .ok (.iadd, 1) := by decide +kernel
theorem dX11_degreeOf_40 : decode cX11_degreeOf 40 = .ok (.iaload, 1) := by decide +kernel
theorem dX11_degreeOf_41 : decode cX11_degreeOf 41 = .ok (.istore 6, 2) := by decide +kernel
theorem dX11_degreeOf_43 : decode cX11_degreeOf 43 = .ok (.iload 5, 2) := by decide +kernel
theorem dX11_degreeOf_45 : decode cX11_degreeOf 45 = .ok (.iload 6, 2) := by decide +kernel
theorem dX11_degreeOf_47 : decode cX11_degreeOf 47 = .ok (.if_icmp .le 8, 3) := by decide +kernel
theorem dX11_degreeOf_50 : decode cX11_degreeOf 50 = .ok (.iload 5, 2) := by decide +kernel
theorem dX11_degreeOf_52 : decode cX11_degreeOf 52 = .ok (.goto 5, 3) := by decide +kernel
theorem dX11_degreeOf_55 : decode cX11_degreeOf 55 = .ok (.iload 6, 2) := by decide +kernel
theorem dX11_degreeOf_57 : decode cX11_degreeOf 57 = .ok (.istore 7, 2) := by decide +kernel
theorem dX11_degreeOf_59 : decode cX11_degreeOf 59 = .ok (.iload 7, 2) := by decide +kernel
theorem dX11_degreeOf_61 : decode cX11_degreeOf 61 = .ok (.iload_n 3, 1) := by decide +kernel
theorem dX11_degreeOf_62 : decode cX11_degreeOf 62 = .ok (.if_icmp .ge 6, 3) := by decide +kernel
theorem dX11_degreeOf_65 : decode cX11_degreeOf 65 = .ok (.iload 7, 2) := by decide +kernel
theorem dX11_degreeOf_67 : decode cX11_degreeOf 67 = .ok (.istore_n 3, 1) := by decide +kernel
theorem dX11_degreeOf_68 : decode cX11_degreeOf 68 = .ok (.iinc 4 1, 3) := by decide +kernel
theorem dX11_degreeOf_71 : decode cX11_degreeOf 71 = .ok (.goto (-65), 3) := by decide +kernel
theorem dX11_degreeOf_74 : decode cX11_degreeOf 74 = .ok (.iload_n 3, 1) := by decide +kernel
theorem dX11_degreeOf_75 : decode cX11_degreeOf 75 = .ok (.ireturn, 1) := by decide +kernel
theorem dX11_degree_0 : decode cX11_degree 0 = .ok (.aload_n 0, 1) := by decide +kernel
theorem dX11_degree_1 : decode cX11_degree 1 = .ok (.iload_n 1, 1) := by decide +kernel
theorem dX11_degree_2 : decode cX11_degree 2 = .ok (.invokevirtual 303, 3) := by decide +kernel
theorem dX11_degree_5 : decode cX11_degree 5 = .ok (.ifCond .eq 20, 3) := by decide +kernel
theorem dX11_degree_8 : decode cX11_degree 8 = .ok (.aload_n 0, 1) := by decide +kernel
theorem dX11_degree_9 : decode cX11_degree 9 = .ok (.iload_n 2, 1) := by decide +kernel
theorem dX11_degree_10 : decode cX11_degree 10 = .ok (.invokevirtual 303, 3) := by decide +kernel
theorem dX11_degree_13 : decode cX11_degree 13 = .ok (.ifCond .eq 12, 3) := by decide +kernel
theorem dX11_degree_16 : decode cX11_degree 16 = .ok (.aload_n 0, 1) := by decide +kernel
theorem dX11_degree_17 : decode cX11_degree 17 = .ok (.iload_n 1, 1) := by decide +kernel
theorem dX11_degree_18 : decode cX11_degree 18 = .ok (.iload_n 2, 1) := by decide +kernel
theorem dX11_degree_19 : decode cX11_degree 19 = .ok (.invokevirtual 306, 3) := by decide +kernel
theorem dX11_degree_22 : decode cX11_degree 22 = .ok (.goto 4, 3) := by decide +kernel
theorem dX11_degree_25 : decode cX11_degree 25 = .ok (.iconst (-1), 1) := by decide +kernel
theorem dX11_degree_26 : decode cX11_degree 26 = .ok (.ireturn, 1) := by decide +kernel
theorem dX11_gaps_0 : decode cX11_gaps 0 = .ok (.aload_n 0, 1) := by decide +kernel
theorem dX11_gaps_1 : decode cX11_gaps 1 = .ok (.iload_n 1, 1) := by decide +kernel
theorem dX11_gaps_2 : decode cX11_gaps 2 = .ok (.invokevirtual 303, 3) := by decide +kernel
theorem dX11_gaps_5 : decode cX11_gaps 5 = .ok (.ifCond .ne 5, 3) := by decide +kernel
theorem dX11_gaps_8 : decode cX11_gaps 8 = .ok (.iconst (-1), 1) := by decide +kernel
theorem dX11_gaps_9 : decode cX11_gaps 9 = .ok (.ireturn, 1) := by decide +kernel
theorem dX11_gaps_10 : decode cX11_gaps 10 = .ok (.iconst 0, 1) := by decide +kernel
theorem dX11_gaps_11 : decode cX11_gaps 11 = .ok (.istore_n 2, 1) := by decide +kernel
theorem dX11_gaps_12 : decode cX11_gaps 12 = .ok (.aload_n 0, 1) := by decide +kernel
theorem dX11_gaps_13 : decode cX11_gaps 13 = .ok (.getfield 107, 3) := by decide +kernel
theorem dX11_gaps_16 : decode cX11_gaps 16 = .ok (.iconst 0, 1) := by decide +kernel
theorem dX11_gaps_17 : decode cX11_gaps 17 = .ok (.iload_n 1, 1) := by decide +kernel
theorem dX11_gaps_18 : decode cX11_gaps 18 = .ok (.iastore, 1) := by decide +kernel
theorem dX11_gaps_19 : decode cX11_gaps 19 = .ok (.iconst 1, 1) := by decide +kernel
theorem dX11_gaps_20 : decode cX11_gaps 20 = .ok (.istore_n 3, 1) := by decide +kernel
theorem dX11_gaps_21 : decode cX11_gaps 21 = .ok (.iload_n 3, 1) := by decide +kernel
theorem dX11_gaps_22 : decode cX11_gaps 22 = .ok (.bipush 15, 2) := by decide +kernel
theorem dX11_gaps_24 : decode cX11_gaps 24 = .ok (.if_icmp .ge 74, 3) := by decide +kernel
theorem dX11_gaps_27 : decode cX11_gaps 27 = .ok (.aload_n 0, 1) := by decide +kernel
theorem dX11_gaps_28 : decode cX11_gaps 28 = .ok (.getfield 107, 3) := by decide +kernel
theorem dX11_gaps_31 : decode cX11_gaps 31 = .ok (.iload_n 3, 1) := by decide +kernel
theorem dX11_gaps_32 : decode cX11_gaps 32 = .ok (.iconst 1, 1) := by decide +kernel
theorem dX11_gaps_33 : decode cX11_gaps 33 = .ok (.isub, 1) := by decide +kernel
theorem dX11_gaps_34 : decode cX11_gaps 34 = .ok (.iconst 2, 1) := by decide +kernel
theorem dX11_gaps_35 : decode cX11_gaps 35 = .ok (.idiv, 1) := by decide +kernel
theorem dX11_gaps_36 : decode cX11_gaps 36 = .ok (.iaload, 1) := by decide +kernel
theorem dX11_gaps_37 : decode cX11_gaps 37 = .ok (.istore 4, 2) := by decide +kernel
theorem dX11_gaps_39 : decode cX11_gaps 39 = .ok (.aload_n 0, 1) := by decide +kernel
theorem dX11_gaps_40 : decode cX11_gaps 40 = .ok (.getfield 107, 3) := by decide +kernel
theorem dX11_gaps_43 : decode cX11_gaps 43 = .ok (.iload_n 3, 1) := by decide +kernel
theorem dX11_gaps_44 : decode cX11_gaps 44 = .ok (.iload 4, 2) := by decide +kernel
theorem dX11_gaps_46 : decode cX11_gaps 46 = .ok (.iconst (-1), 1) := by decide +kernel
theorem dX11_gaps_47 : decode cX11_gaps 47 = .ok (.if_icmp .ne 7, 3) := by decide +kernel
theorem dX11_gaps_50 : decode cX11_gaps 50 = .ok (.iconst (-1), 1) := by decide +kernel
theorem dX11_gaps_51 : decode cX11_gaps 51 = .ok (.goto 27, 3) := by decide +kernel
theorem dX11_gaps_54 : decode cX11_gaps 54 = .ok (.iload_n 3, 1) := by decide +kernel
theorem dX11_gaps_55 : decode cX11_gaps 55 = .ok (.iconst 2, 1) := by decide +kernel
theorem dX11_gaps_56 : decode cX11_gaps 56 = .ok (.irem, 1) := by decide +kernel
theorem dX11_gaps_57 : decode cX11_gaps 57 = .ok (.iconst 1, 1) := by decide +kernel
theorem dX11_gaps_58 : decode cX11_gaps 58 = .ok (.if_icmp .ne 13, 3) := by decide +kernel
theorem dX11_gaps_61 : decode cX11_gaps 61 = .ok (.aload_n 0, 1) := by decide +kernel
theorem dX11_gaps_62 : decode cX11_gaps 62 = .ok (.getfield 95, 3) := by decide +kernel
theorem dX11_gaps_65 : decode cX11_gaps 65 = .ok (.iload 4, 2) := by decide +kernel
theorem dX11_gaps_67 : decode cX11_gaps 67 = .ok (.iaload, 1) := by decide +kernel
theorem dX11_gaps_68 : decode cX11_gaps 68 = .ok (.goto 10, 3) := by decide +kernel
theorem dX11_gaps_71 : decode cX11_gaps 71 = .ok (.aload_n 0, 1) := by decide +kernel
theorem dX11_gaps_72 : decode cX11_gaps 72 = .ok (.getfield 98, 3) := by decide +kernel
theorem dX11_gaps_75 : decode cX11_gaps 75 = .ok (.iload 4, 2) := by decide +kernel
theorem dX11_gaps_77 : decode cX11_gaps 77 = .ok (.iaload, 1) := by decide +kernel
theorem dX11_gaps_78 : decode cX11_gaps 78 = .ok (.iastore, 1) := by decide +kernel
theorem dX11_gaps_79 : decode cX11_gaps 79 = .ok (.aload_n 0, 1) := by decide +kernel
theorem dX11_gaps_80 : decode cX11_gaps 80 = .ok (.getfield 107, 3) := by decide +kernel
theorem dX11_gaps_83 : decode cX11_gaps 83 = .ok (.iload_n 3, 1) := by decide +kernel
theorem dX11_gaps_84 : decode cX11_gaps 84 = .ok (.iaload, 1) := by decide +kernel
theorem dX11_gaps_85 : decode cX11_gaps 85 = .ok (.iconst (-1), 1) := by decide +kernel
theorem dX11_gaps_86 : decode cX11_gaps 86 = .ok (.if_icmp .ne 6, 3) := by decide +kernel
theorem dX11_gaps_89 : decode cX11_gaps 89 = .ok (.iinc 2 1, 3) := by decide +kernel
theorem dX11_gaps_92 : decode cX11_gaps 92 = .ok (.iinc 3 1, 3) := by decide +kernel
theorem dX11_gaps_95 : decode cX11_gaps 95 = .ok (.goto (-74), 3) := by decide +kernel
theorem dX11_gaps_98 : decode cX11_gaps 98 = .ok (.iload_n 2, 1) := by decide +kernel
theorem dX11_gaps_99 : decode cX11_gaps 99 = .ok (.ireturn, 1) := by decide +kernel
theorem dX11_isPromise_0 : decode cX11_isPromise 0 = .ok (.iload_n 1, 1) := by decide +kernel
theorem dX11_isPromise_1 : decode cX11_isPromise 1 = .ok (.ifCond .lt 15, 3) := by decide +kernel
theorem dX11_isPromise_4 : decode cX11_isPromise 4 = .ok (.iload_n 1, 1) := by decide +kernel
theorem dX11_isPromise_5 : decode cX11_isPromise 5 = .ok (.aload_n 0, 1) := by decide +kernel
theorem dX11_isPromise_6 : decode cX11_isPromise 6 = .ok (.getfield 310, 3) := by decide +kernel
theorem dX11_isPromise_9 : decode cX11_isPromise 9 = .ok (.if_icmp .ge 7, 3) := by decide +kernel
theorem dX11_isPromise_12 : decode cX11_isPromise 12 = .ok (.iconst 1, 1) := by decide +kernel
theorem dX11_isPromise_13 : decode cX11_isPromise 13 = .ok (.goto 4, 3) := by decide +kernel
theorem dX11_isPromise_16 : decode cX11_isPromise 16 = .ok (.iconst 0, 1) := by decide +kernel
theorem dX11_isPromise_17 : decode cX11_isPromise 17 = .ok (.ireturn, 1) := by decide +kernel
theorem dX11_isKnown_0 : decode cX11_isKnown 0 = .ok (.iload_n 1, 1) := by decide +kernel
theorem dX11_isKnown_1 : decode cX11_isKnown 1 = .ok (.ifCond .lt 15, 3) := by decide +kernel
theorem dX11_isKnown_4 : decode cX11_isKnown 4 = .ok (.iload_n 1, 1) := by decide +kernel
theorem dX11_isKnown_5 : decode cX11_isKnown 5 = .ok (.aload_n 0, 1) := by decide +kernel
theorem dX11_isKnown_6 : decode cX11_isKnown 6 = .ok (.getfield 313, 3) := by decide +kernel
theorem dX11_isKnown_9 : decode cX11_isKnown 9 = .ok (.if_icmp .gt 7, 3) := by decide +kernel
theorem dX11_isKnown_12 : decode cX11_isKnown 12 = .ok (.iconst 1, 1) := by decide +kernel
theorem dX11_isKnown_13 : decode cX11_isKnown 13 = .ok (.goto 4, 3) := by decide +kernel
theorem dX11_isKnown_16 : decode cX11_isKnown 16 = .ok (.iconst 0, 1) := by decide +kernel
theorem dX11_isKnown_17 : decode cX11_isKnown 17 = .ok (.ireturn, 1) := by decide +kernel
theorem dX11_promise_0 : decode cX11_promise 0 = .ok (.aload_n 0, 1) := by decide +kernel
theorem dX11_promise_1 : decode cX11_promise 1 = .ok (.getfield 310, 3) := by decide +kernel
theorem dX11_promise_4 : decode cX11_promise 4 = .ok (.bipush 10, 2) := by decide +kernel
theorem dX11_promise_6 : decode cX11_promise 6 = .ok (.if_icmp .eq 64, 3) := by decide +kernel
theorem dX11_promise_9 : decode cX11_promise 9 = .ok (.aload_n 0, 1) := by decide +kernel
theorem dX11_promise_10 : decode cX11_promise 10 = .ok (.iload_n 1, 1) := by decide +kernel
theorem dX11_promise_11 : decode cX11_promise 11 = .ok (.invokevirtual 303, 3) := by decide +kernel
theorem dX11_promise_14 : decode cX11_promise 14 = .ok (.ifCond .eq 56, 3) := by decide +kernel
theorem dX11_promise_17 : decode cX11_promise 17 = .ok (.aload_n 0, 1) := by decide +kernel
theorem dX11_promise_18 : decode cX11_promise 18 = .ok (.iload_n 2, 1) := by decide +kernel
theorem dX11_promise_19 : decode cX11_promise 19 = .ok (.invokevirtual 303, 3) := by decide +kernel
theorem dX11_promise_22 : decode cX11_promise 22 = .ok (.ifCond .eq 48, 3) := by decide +kernel
theorem dX11_promise_25 : decode cX11_promise 25 = .ok (.iload_n 1, 1) := by decide +kernel
theorem dX11_promise_26 : decode cX11_promise 26 = .ok (.iload_n 2, 1) := by decide +kernel
theorem dX11_promise_27 : decode cX11_promise 27 = .ok (.if_icmp .eq 43, 3) := by decide +kernel
theorem dX11_promise_30 : decode cX11_promise 30 = .ok (.iload_n 3, 1) := by decide +kernel
theorem dX11_promise_31 : decode cX11_promise 31 = .ok (.ifCond .lt 39, 3) := by decide +kernel
theorem dX11_promise_34 : decode cX11_promise 34 = .ok (.iload_n 3, 1) := by decide +kernel
theorem dX11_promise_35 : decode cX11_promise 35 = .ok (.iconst 3, 1) := by decide +kernel
theorem dX11_promise_36 : decode cX11_promise 36 = .ok (.if_icmp .gt 34, 3) := by decide +kernel
theorem dX11_promise_39 : decode cX11_promise 39 = .ok (.iload 4, 2) := by decide +kernel
theorem dX11_promise_41 : decode cX11_promise 41 = .ok (.invokestatic 259, 3) := by decide +kernel
theorem dX11_promise_44 : decode cX11_promise 44 = .ok (.ifCond .eq 26, 3) := by decide +kernel
theorem dX11_promise_47 : decode cX11_promise 47 = .ok (.iload 5, 2) := by decide +kernel
theorem dX11_promise_49 : decode cX11_promise 49 = .ok (.ifCond .lt 21, 3) := by decide +kernel
theorem dX11_promise_52 : decode cX11_promise 52 = .ok (.iload 5, 2) := by decide +kernel
theorem dX11_promise_54 : decode cX11_promise 54 = .ok (.iconst 1, 1) := by decide +kernel
theorem dX11_promise_55 : decode cX11_promise 55 = .ok (.if_icmp .gt 15, 3) := by decide +kernel
theorem dX11_promise_58 : decode cX11_promise 58 = .ok (.iload 6, 2) := by decide +kernel
theorem dX11_promise_60 : decode cX11_promise 60 = .ok (.iconst (-1), 1) := by decide +kernel
theorem dX11_promise_61 : decode cX11_promise 61 = .ok (.if_icmp .lt 9, 3) := by decide +kernel
theorem dX11_promise_64 : decode cX11_promise 64 = .ok (.iload 6, 2) := by decide +kernel
theorem dX11_promise_66 : decode cX11_promise 66 = .ok (.iconst 5, 1) := by decide +kernel
theorem dX11_promise_67 : decode cX11_promise 67 = .ok (.if_icmp .le 5, 3) := by decide +kernel
theorem dX11_promise_70 : decode cX11_promise 70 = .ok (.iconst (-1), 1) := by decide +kernel
theorem dX11_promise_71 : decode cX11_promise 71 = .ok (.ireturn, 1) := by decide +kernel
theorem dX11_promise_72 : decode cX11_promise 72 = .ok (.aload_n 0, 1) := by decide +kernel
theorem dX11_promise_73 : decode cX11_promise 73 = .ok (.getfield 110, 3) := by decide +kernel
theorem dX11_promise_76 : decode cX11_promise 76 = .ok (.aload_n 0, 1) := by decide +kernel
theorem dX11_promise_77 : decode cX11_promise 77 = .ok (.getfield 310, 3) := by decide +kernel
theorem dX11_promise_80 : decode cX11_promise 80 = .ok (.iload_n 1, 1) := by decide +kernel
theorem dX11_promise_81 : decode cX11_promise 81 = .ok (.iastore, 1) := by decide +kernel
theorem dX11_promise_82 : decode cX11_promise 82 = .ok (.aload_n 0, 1) := by decide +kernel
theorem dX11_promise_83 : decode cX11_promise 83 = .ok (.getfield 113, 3) := by decide +kernel
theorem dX11_promise_86 : decode cX11_promise 86 = .ok (.aload_n 0, 1) := by decide +kernel
theorem dX11_promise_87 : decode cX11_promise 87 = .ok (.getfield 310, 3) := by decide +kernel
theorem dX11_promise_90 : decode cX11_promise 90 = .ok (.iload_n 2, 1) := by decide +kernel
theorem dX11_promise_91 : decode cX11_promise 91 = .ok (.iastore, 1) := by decide +kernel
theorem dX11_promise_92 : decode cX11_promise 92 = .ok (.aload_n 0, 1) := by decide +kernel
theorem dX11_promise_93 : decode cX11_promise 93 = .ok (.getfield 116, 3) := by decide +kernel
theorem dX11_promise_96 : decode cX11_promise 96 = .ok (.aload_n 0, 1) := by decide +kernel
theorem dX11_promise_97 : decode cX11_promise 97 = .ok (.getfield 310, 3) := by decide +kernel
theorem dX11_promise_100 : decode cX11_promise 100 = .ok (.iload_n 3, 1) := by decide +kernel
theorem dX11_promise_101 : decode cX11_promise 101 = .ok (.iastore, 1) := by decide +kernel
theorem dX11_promise_102 : decode cX11_promise 102 = .ok (.aload_n 0, 1) := by decide +kernel
theorem dX11_promise_103 : decode cX11_promise 103 = .ok (.getfield 119, 3) := by decide +kernel
theorem dX11_promise_106 : decode cX11_promise 106 = .ok (.aload_n 0, 1) := by decide +kernel
theorem dX11_promise_107 : decode cX11_promise 107 = .ok (.getfield 310, 3) := by decide +kernel
theorem dX11_promise_110 : decode cX11_promise 110 = .ok (.iload 4, 2) := by decide +kernel
theorem dX11_promise_112 : decode cX11_promise 112 = .ok (.iastore, 1) := by decide +kernel
theorem dX11_promise_113 : decode cX11_promise 113 = .ok (.aload_n 0, 1) := by decide +kernel
theorem dX11_promise_114 : decode cX11_promise 114 = .ok (.getfield 122, 3) := by decide +kernel
theorem dX11_promise_117 : decode cX11_promise 117 = .ok (.aload_n 0, 1) := by decide +kernel
theorem dX11_promise_118 : decode cX11_promise 118 = .ok (.getfield 310, 3) := by decide +kernel
theorem dX11_promise_121 : decode cX11_promise 121 = .ok (.iload 5, 2) := by decide +kernel
theorem dX11_promise_123 : decode cX11_promise 123 = .ok (.iastore, 1) := by decide +kernel
theorem dX11_promise_124 : decode cX11_promise 124 = .ok (.aload_n 0, 1) := by decide +kernel
theorem dX11_promise_125 : decode cX11_promise 125 = .ok (.getfield 125, 3) := by decide +kernel
theorem dX11_promise_128 : decode cX11_promise 128 = .ok (.aload_n 0, 1) := by decide +kernel
theorem dX11_promise_129 : decode cX11_promise 129 = .ok (.getfield 310, 3) := by decide +kernel
theorem dX11_promise_132 : decode cX11_promise 132 = .ok (.iload 6, 2) := by decide +kernel
theorem dX11_promise_134 : decode cX11_promise 134 = .ok (.iastore, 1) := by decide +kernel
theorem dX11_promise_135 : decode cX11_promise 135 = .ok (.aload_n 0, 1) := by decide +kernel
theorem dX11_promise_136 : decode cX11_promise 136 = .ok (.dup, 1) := by decide +kernel
theorem dX11_promise_137 : decode cX11_promise 137 = .ok (.getfield 310, 3) := by decide +kernel
theorem dX11_promise_140 : decode cX11_promise 140 = .ok (.iconst 1, 1) := by decide +kernel
theorem dX11_promise_141 : decode cX11_promise 141 = .ok (.iadd, 1) := by decide +kernel
theorem dX11_promise_142 : decode cX11_promise 142 = .ok (.putfield 310, 3) := by decide +kernel
theorem dX11_promise_145 : decode cX11_promise 145 = .ok (.aload_n 0, 1) := by decide +kernel
theorem dX11_promise_146 : decode cX11_promise 146 = .ok (.iconst (-1), 1) := by decide +kernel
theorem dX11_promise_147 : decode cX11_promise 147 = .ok (.putfield 155, 3) := by decide +kernel
theorem dX11_promise_150 : decode cX11_promise 150 = .ok (.aload_n 0, 1) := by decide +kernel
theorem dX11_promise_151 : decode cX11_promise 151 = .ok (.getfield 310, 3) := by decide +kernel
theorem dX11_promise_154 : decode cX11_promise 154 = .ok (.iconst 1, 1) := by decide +kernel
theorem dX11_promise_155 : decode cX11_promise 155 = .ok (.isub, 1) := by decide +kernel
theorem dX11_promise_156 : decode cX11_promise 156 = .ok (.ireturn, 1) := by decide +kernel
theorem dX11_gift_0 : decode cX11_gift 0 = .ok (.aload_n 0, 1) := by decide +kernel
theorem dX11_gift_1 : decode cX11_gift 1 = .ok (.getfield 316, 3) := by decide +kernel
theorem dX11_gift_4 : decode cX11_gift 4 = .ok (.bipush 20, 2) := by decide +kernel
theorem dX11_gift_6 : decode cX11_gift 6 = .ok (.if_icmp .eq 32, 3) := by decide +kernel
theorem dX11_gift_9 : decode cX11_gift 9 = .ok (.aload_n 0, 1) := by decide +kernel
theorem dX11_gift_10 : decode cX11_gift 10 = .ok (.iload_n 1, 1) := by decide +kernel
theorem dX11_gift_11 : decode cX11_gift 11 = .ok (.invokevirtual 319, 3) := by decide +kernel
theorem dX11_gift_14 : decode cX11_gift 14 = .ok (.ifCond .eq 24, 3) := by decide +kernel
theorem dX11_gift_17 : decode cX11_gift 17 = .ok (.iload_n 2, 1) := by decide +kernel
theorem dX11_gift_18 : decode cX11_gift 18 = .ok (.ifCond .lt 20, 3) := by decide +kernel
theorem dX11_gift_21 : decode cX11_gift 21 = .ok (.iload_n 2, 1) := by decide +kernel
theorem dX11_gift_22 : decode cX11_gift 22 = .ok (.iconst 1, 1) := by decide +kernel
theorem dX11_gift_23 : decode cX11_gift 23 = .ok (.if_icmp .gt 15, 3) := by decide +kernel
theorem dX11_gift_26 : decode cX11_gift 26 = .ok (.iload_n 3, 1) := by decide +kernel
theorem dX11_gift_27 : decode cX11_gift 27 = .ok (.iconst 1, 1) := by decide +kernel
theorem dX11_gift_28 : decode cX11_gift 28 = .ok (.if_icmp .lt 10, 3) := by decide +kernel
theorem dX11_gift_31 : decode cX11_gift 31 = .ok (.iload_n 3, 1) := by decide +kernel
theorem dX11_gift_32 : decode cX11_gift 32 = .ok (.sipush 1000, 3) := by decide +kernel
theorem dX11_gift_35 : decode cX11_gift 35 = .ok (.if_icmp .le 5, 3) := by decide +kernel
theorem dX11_gift_38 : decode cX11_gift 38 = .ok (.iconst (-1), 1) := by decide +kernel
theorem dX11_gift_39 : decode cX11_gift 39 = .ok (.ireturn, 1) := by decide +kernel
theorem dX11_gift_40 : decode cX11_gift 40 = .ok (.aload_n 0, 1) := by decide +kernel
theorem dX11_gift_41 : decode cX11_gift 41 = .ok (.getfield 128, 3) := by decide +kernel
theorem dX11_gift_44 : decode cX11_gift 44 = .ok (.aload_n 0, 1) := by decide +kernel
theorem dX11_gift_45 : decode cX11_gift 45 = .ok (.getfield 316, 3) := by decide +kernel
theorem dX11_gift_48 : decode cX11_gift 48 = .ok (.iload_n 1, 1) := by decide +kernel
theorem dX11_gift_49 : decode cX11_gift 49 = .ok (.iastore, 1) := by decide +kernel
theorem dX11_gift_50 : decode cX11_gift 50 = .ok (.aload_n 0, 1) := by decide +kernel
theorem dX11_gift_51 : decode cX11_gift 51 = .ok (.getfield 131, 3) := by decide +kernel
theorem dX11_gift_54 : decode cX11_gift 54 = .ok (.aload_n 0, 1) := by decide +kernel
theorem dX11_gift_55 : decode cX11_gift 55 = .ok (.getfield 316, 3) := by decide +kernel
theorem dX11_gift_58 : decode cX11_gift 58 = .ok (.iload_n 2, 1) := by decide +kernel
theorem dX11_gift_59 : decode cX11_gift 59 = .ok (.iastore, 1) := by decide +kernel
theorem dX11_gift_60 : decode cX11_gift 60 = .ok (.aload_n 0, 1) := by decide +kernel
theorem dX11_gift_61 : decode cX11_gift 61 = .ok (.getfield 134, 3) := by decide +kernel
theorem dX11_gift_64 : decode cX11_gift 64 = .ok (.aload_n 0, 1) := by decide +kernel
theorem dX11_gift_65 : decode cX11_gift 65 = .ok (.getfield 316, 3) := by decide +kernel
theorem dX11_gift_68 : decode cX11_gift 68 = .ok (.iload_n 3, 1) := by decide +kernel
theorem dX11_gift_69 : decode cX11_gift 69 = .ok (.iastore, 1) := by decide +kernel
theorem dX11_gift_70 : decode cX11_gift 70 = .ok (.aload_n 0, 1) := by decide +kernel
theorem dX11_gift_71 : decode cX11_gift 71 = .ok (.dup, 1) := by decide +kernel
theorem dX11_gift_72 : decode cX11_gift 72 = .ok (.getfield 316, 3) := by decide +kernel
theorem dX11_gift_75 : decode cX11_gift 75 = .ok (.iconst 1, 1) := by decide +kernel
theorem dX11_gift_76 : decode cX11_gift 76 = .ok (.iadd, 1) := by decide +kernel
theorem dX11_gift_77 : decode cX11_gift 77 = .ok (.putfield 316, 3) := by decide +kernel
theorem dX11_gift_80 : decode cX11_gift 80 = .ok (.aload_n 0, 1) := by decide +kernel
theorem dX11_gift_81 : decode cX11_gift 81 = .ok (.getfield 316, 3) := by decide +kernel
theorem dX11_gift_84 : decode cX11_gift 84 = .ok (.iconst 1, 1) := by decide +kernel
theorem dX11_gift_85 : decode cX11_gift 85 = .ok (.isub, 1) := by decide +kernel
theorem dX11_gift_86 : decode cX11_gift 86 = .ok (.ireturn, 1) := by decide +kernel
theorem dX11_fact_0 : decode cX11_fact 0 = .ok (.aload_n 0, 1) := by decide +kernel
theorem dX11_fact_1 : decode cX11_fact 1 = .ok (.getfield 137, 3) := by decide +kernel
theorem dX11_fact_4 : decode cX11_fact 4 = .ok (.aload_n 0, 1) := by decide +kernel
theorem dX11_fact_5 : decode cX11_fact 5 = .ok (.getfield 313, 3) := by decide +kernel
theorem dX11_fact_8 : decode cX11_fact 8 = .ok (.iload_n 1, 1) := by decide +kernel
theorem dX11_fact_9 : decode cX11_fact 9 = .ok (.iastore, 1) := by decide +kernel
theorem dX11_fact_10 : decode cX11_fact 10 = .ok (.aload_n 0, 1) := by decide +kernel
theorem dX11_fact_11 : decode cX11_fact 11 = .ok (.getfield 140, 3) := by decide +kernel
theorem dX11_fact_14 : decode cX11_fact 14 = .ok (.aload_n 0, 1) := by decide +kernel
theorem dX11_fact_15 : decode cX11_fact 15 = .ok (.getfield 313, 3) := by decide +kernel
theorem dX11_fact_18 : decode cX11_fact 18 = .ok (.iload_n 2, 1) := by decide +kernel
theorem dX11_fact_19 : decode cX11_fact 19 = .ok (.iastore, 1) := by decide +kernel
theorem dX11_fact_20 : decode cX11_fact 20 = .ok (.aload_n 0, 1) := by decide +kernel
theorem dX11_fact_21 : decode cX11_fact 21 = .ok (.getfield 143, 3) := by decide +kernel
theorem dX11_fact_24 : decode cX11_fact 24 = .ok (.aload_n 0, 1) := by decide +kernel
theorem dX11_fact_25 : decode cX11_fact 25 = .ok (.getfield 313, 3) := by decide +kernel
theorem dX11_fact_28 : decode cX11_fact 28 = .ok (.iload_n 3, 1) := by decide +kernel
theorem dX11_fact_29 : decode cX11_fact 29 = .ok (.iastore, 1) := by decide +kernel
theorem dX11_fact_30 : decode cX11_fact 30 = .ok (.aload_n 0, 1) := by decide +kernel
theorem dX11_fact_31 : decode cX11_fact 31 = .ok (.getfield 146, 3) := by decide +kernel
theorem dX11_fact_34 : decode cX11_fact 34 = .ok (.aload_n 0, 1) := by decide +kernel
theorem dX11_fact_35 : decode cX11_fact 35 = .ok (.getfield 313, 3) := by decide +kernel
theorem dX11_fact_38 : decode cX11_fact 38 = .ok (.iload 4, 2) := by decide +kernel
theorem dX11_fact_40 : decode cX11_fact 40 = .ok (.iastore, 1) := by decide +kernel
theorem dX11_fact_41 : decode cX11_fact 41 = .ok (.aload_n 0, 1) := by decide +kernel
theorem dX11_fact_42 : decode cX11_fact 42 = .ok (.dup, 1) := by decide +kernel
theorem dX11_fact_43 : decode cX11_fact 43 = .ok (.getfield 313, 3) := by decide +kernel
theorem dX11_fact_46 : decode cX11_fact 46 = .ok (.iconst 1, 1) := by decide +kernel
theorem dX11_fact_47 : decode cX11_fact 47 = .ok (.iadd, 1) := by decide +kernel
theorem dX11_fact_48 : decode cX11_fact 48 = .ok (.putfield 313, 3) := by decide +kernel
theorem dX11_fact_51 : decode cX11_fact 51 = .ok (.aload_n 0, 1) := by decide +kernel
theorem dX11_fact_52 : decode cX11_fact 52 = .ok (.getfield 313, 3) := by decide +kernel
theorem dX11_fact_55 : decode cX11_fact 55 = .ok (.iconst 1, 1) := by decide +kernel
theorem dX11_fact_56 : decode cX11_fact 56 = .ok (.isub, 1) := by decide +kernel
theorem dX11_fact_57 : decode cX11_fact 57 = .ok (.ireturn, 1) := by decide +kernel
theorem dX11_says_0 : decode cX11_says 0 = .ok (.aload_n 0, 1) := by decide +kernel
end
section
theorem dX11_says_1 : decode cX11_says 1 = .ok (.getfield 313, 3) := by decide +kernel
theorem dX11_says_4 : decode cX11_says 4 = .ok (.sipush 200, 3) := by decide +kernel
theorem dX11_says_7 : decode cX11_says 7 = .ok (.if_icmp .eq 51, 3) := by decide +kernel
theorem dX11_says_10 : decode cX11_says 10 = .ok (.aload_n 0, 1) := by decide +kernel
theorem dX11_says_11 : decode cX11_says 11 = .ok (.iload_n 1, 1) := by decide +kernel
theorem dX11_says_12 : decode cX11_says 12 = .ok (.invokevirtual 303, 3) := by decide +kernel
theorem dX11_says_15 : decode cX11_says 15 = .ok (.ifCond .ne 15, 3) := by decide +kernel
theorem dX11_says_18 : decode cX11_says 18 = .ok (.iload_n 1, 1) := by decide +kernel
theorem dX11_says_19 : decode cX11_says 19 = .ok (.bipush 100, 2) := by decide +kernel
theorem dX11_says_21 : decode cX11_says 21 = .ok (.if_icmp .lt 37, 3) := by decide +kernel
theorem dX11_says_24 : decode cX11_says 24 = .ok (.iload_n 1, 1) := by decide +kernel
theorem dX11_says_25 : decode cX11_says 25 = .ok (.bipush 119, 2) := by decide +kernel
theorem dX11_says_27 : decode cX11_says 27 = .ok (.if_icmp .gt 31, 3) := by decide +kernel
theorem dX11_says_30 : decode cX11_says 30 = .ok (.aload_n 0, 1) := by decide +kernel
theorem dX11_says_31 : decode cX11_says 31 = .ok (.iload_n 2, 1) := by decide +kernel
theorem dX11_says_32 : decode cX11_says 32 = .ok (.invokevirtual 319, 3) := by decide +kernel
theorem dX11_says_35 : decode cX11_says 35 = .ok (.ifCond .eq 23, 3) := by decide +kernel
theorem dX11_says_38 : decode cX11_says 38 = .ok (.iload_n 1, 1) := by decide +kernel
theorem dX11_says_39 : decode cX11_says 39 = .ok (.aload_n 0, 1) := by decide +kernel
theorem dX11_says_40 : decode cX11_says 40 = .ok (.getfield 110, 3) := by decide +kernel
theorem dX11_says_43 : decode cX11_says 43 = .ok (.iload_n 2, 1) := by decide +kernel
theorem dX11_says_44 : decode cX11_says 44 = .ok (.iaload, 1) := by decide +kernel
theorem dX11_says_45 : decode cX11_says 45 = .ok (.if_icmp .eq 13, 3) := by decide +kernel
theorem dX11_says_48 : decode cX11_says 48 = .ok (.iload_n 1, 1) := by decide +kernel
theorem dX11_says_49 : decode cX11_says 49 = .ok (.aload_n 0, 1) := by decide +kernel
theorem dX11_says_50 : decode cX11_says 50 = .ok (.getfield 113, 3) := by decide +kernel
theorem dX11_says_53 : decode cX11_says 53 = .ok (.iload_n 2, 1) := by decide +kernel
theorem dX11_says_54 : decode cX11_says 54 = .ok (.iaload, 1) := by decide +kernel
theorem dX11_says_55 : decode cX11_says 55 = .ok (.if_icmp .ne 5, 3) := by decide +kernel
theorem dX11_says_58 : decode cX11_says 58 = .ok (.iconst (-1), 1) := by decide +kernel
theorem dX11_says_59 : decode cX11_says 59 = .ok (.ireturn, 1) := by decide +kernel
theorem dX11_says_60 : decode cX11_says 60 = .ok (.aload_n 0, 1) := by decide +kernel
theorem dX11_says_61 : decode cX11_says 61 = .ok (.iload_n 3, 1) := by decide +kernel
theorem dX11_says_62 : decode cX11_says 62 = .ok (.ifCond .eq 7, 3) := by decide +kernel
theorem dX11_says_65 : decode cX11_says 65 = .ok (.iconst 4, 1) := by decide +kernel
theorem dX11_says_66 : decode cX11_says 66 = .ok (.goto 4, 3) := by decide +kernel
theorem dX11_says_69 : decode cX11_says 69 = .ok (.iconst 5, 1) := by decide +kernel
theorem dX11_says_70 : decode cX11_says 70 = .ok (.iload_n 1, 1) := by decide +kernel
theorem dX11_says_71 : decode cX11_says 71 = .ok (.iload_n 2, 1) := by decide +kernel
theorem dX11_says_72 : decode cX11_says 72 = .ok (.iconst 0, 1) := by decide +kernel
theorem dX11_says_73 : decode cX11_says 73 = .ok (.invokevirtual 322, 3) := by decide +kernel
theorem dX11_says_76 : decode cX11_says 76 = .ok (.ireturn, 1) := by decide +kernel
theorem dX11_fame_0 : decode cX11_fame 0 = .ok (.aload_n 0, 1) := by decide +kernel
theorem dX11_fame_1 : decode cX11_fame 1 = .ok (.getfield 313, 3) := by decide +kernel
theorem dX11_fame_4 : decode cX11_fame 4 = .ok (.sipush 200, 3) := by decide +kernel
theorem dX11_fame_7 : decode cX11_fame 7 = .ok (.if_icmp .eq 11, 3) := by decide +kernel
theorem dX11_fame_10 : decode cX11_fame 10 = .ok (.aload_n 0, 1) := by decide +kernel
theorem dX11_fame_11 : decode cX11_fame 11 = .ok (.iload_n 1, 1) := by decide +kernel
theorem dX11_fame_12 : decode cX11_fame 12 = .ok (.invokevirtual 319, 3) := by decide +kernel
theorem dX11_fame_15 : decode cX11_fame 15 = .ok (.ifCond .ne 7, 3) := by decide +kernel
theorem dX11_fame_18 : decode cX11_fame 18 = .ok (.iconst (-1), 1) := by decide +kernel
theorem dX11_fame_19 : decode cX11_fame 19 = .ok (.goto 12, 3) := by decide +kernel
theorem dX11_fame_22 : decode cX11_fame 22 = .ok (.aload_n 0, 1) := by decide +kernel
theorem dX11_fame_23 : decode cX11_fame 23 = .ok (.bipush 6, 2) := by decide +kernel
theorem dX11_fame_25 : decode cX11_fame 25 = .ok (.iload_n 1, 1) := by decide +kernel
theorem dX11_fame_26 : decode cX11_fame 26 = .ok (.iload_n 1, 1) := by decide +kernel
theorem dX11_fame_27 : decode cX11_fame 27 = .ok (.iconst 0, 1) := by decide +kernel
theorem dX11_fame_28 : decode cX11_fame 28 = .ok (.invokevirtual 322, 3) := by decide +kernel
theorem dX11_fame_31 : decode cX11_fame 31 = .ok (.ireturn, 1) := by decide +kernel
theorem dX11_comes_0 : decode cX11_comes 0 = .ok (.aload_n 0, 1) := by decide +kernel
theorem dX11_comes_1 : decode cX11_comes 1 = .ok (.getfield 313, 3) := by decide +kernel
theorem dX11_comes_4 : decode cX11_comes 4 = .ok (.sipush 200, 3) := by decide +kernel
theorem dX11_comes_7 : decode cX11_comes 7 = .ok (.if_icmp .eq 19, 3) := by decide +kernel
theorem dX11_comes_10 : decode cX11_comes 10 = .ok (.iload_n 1, 1) := by decide +kernel
theorem dX11_comes_11 : decode cX11_comes 11 = .ok (.ifCond .lt 15, 3) := by decide +kernel
theorem dX11_comes_14 : decode cX11_comes 14 = .ok (.iload_n 1, 1) := by decide +kernel
theorem dX11_comes_15 : decode cX11_comes 15 = .ok (.iconst 5, 1) := by decide +kernel
theorem dX11_comes_16 : decode cX11_comes 16 = .ok (.if_icmp .gt 10, 3) := by decide +kernel
theorem dX11_comes_19 : decode cX11_comes 19 = .ok (.iload_n 2, 1) := by decide +kernel
theorem dX11_comes_20 : decode cX11_comes 20 = .ok (.invokestatic 259, 3) := by decide +kernel
theorem dX11_comes_23 : decode cX11_comes 23 = .ok (.ifCond .ne 7, 3) := by decide +kernel
theorem dX11_comes_26 : decode cX11_comes 26 = .ok (.iconst (-1), 1) := by decide +kernel
theorem dX11_comes_27 : decode cX11_comes 27 = .ok (.goto 21, 3) := by decide +kernel
theorem dX11_comes_30 : decode cX11_comes 30 = .ok (.aload_n 0, 1) := by decide +kernel
theorem dX11_comes_31 : decode cX11_comes 31 = .ok (.iload_n 3, 1) := by decide +kernel
theorem dX11_comes_32 : decode cX11_comes 32 = .ok (.ifCond .eq 8, 3) := by decide +kernel
theorem dX11_comes_35 : decode cX11_comes 35 = .ok (.bipush 7, 2) := by decide +kernel
theorem dX11_comes_37 : decode cX11_comes 37 = .ok (.goto 5, 3) := by decide +kernel
theorem dX11_comes_40 : decode cX11_comes 40 = .ok (.bipush 8, 2) := by decide +kernel
theorem dX11_comes_42 : decode cX11_comes 42 = .ok (.iload_n 1, 1) := by decide +kernel
theorem dX11_comes_43 : decode cX11_comes 43 = .ok (.iload_n 1, 1) := by decide +kernel
theorem dX11_comes_44 : decode cX11_comes 44 = .ok (.iload_n 2, 1) := by decide +kernel
theorem dX11_comes_45 : decode cX11_comes 45 = .ok (.invokevirtual 322, 3) := by decide +kernel
theorem dX11_comes_48 : decode cX11_comes 48 = .ok (.ireturn, 1) := by decide +kernel
theorem dX11_fate_0 : decode cX11_fate 0 = .ok (.aload_n 0, 1) := by decide +kernel
theorem dX11_fate_1 : decode cX11_fate 1 = .ok (.getfield 313, 3) := by decide +kernel
theorem dX11_fate_4 : decode cX11_fate 4 = .ok (.sipush 200, 3) := by decide +kernel
theorem dX11_fate_7 : decode cX11_fate 7 = .ok (.if_icmp .eq 27, 3) := by decide +kernel
theorem dX11_fate_10 : decode cX11_fate 10 = .ok (.iload_n 1, 1) := by decide +kernel
theorem dX11_fate_11 : decode cX11_fate 11 = .ok (.ifCond .lt 23, 3) := by decide +kernel
theorem dX11_fate_14 : decode cX11_fate 14 = .ok (.iload_n 1, 1) := by decide +kernel
theorem dX11_fate_15 : decode cX11_fate 15 = .ok (.iconst 3, 1) := by decide +kernel
theorem dX11_fate_16 : decode cX11_fate 16 = .ok (.if_icmp .gt 18, 3) := by decide +kernel
theorem dX11_fate_19 : decode cX11_fate 19 = .ok (.aload_n 0, 1) := by decide +kernel
theorem dX11_fate_20 : decode cX11_fate 20 = .ok (.iload_n 2, 1) := by decide +kernel
theorem dX11_fate_21 : decode cX11_fate 21 = .ok (.invokevirtual 303, 3) := by decide +kernel
theorem dX11_fate_24 : decode cX11_fate 24 = .ok (.ifCond .eq 10, 3) := by decide +kernel
theorem dX11_fate_27 : decode cX11_fate 27 = .ok (.iload_n 3, 1) := by decide +kernel
theorem dX11_fate_28 : decode cX11_fate 28 = .ok (.invokestatic 259, 3) := by decide +kernel
theorem dX11_fate_31 : decode cX11_fate 31 = .ok (.ifCond .ne 7, 3) := by decide +kernel
theorem dX11_fate_34 : decode cX11_fate 34 = .ok (.iconst (-1), 1) := by decide +kernel
theorem dX11_fate_35 : decode cX11_fate 35 = .ok (.goto 11, 3) := by decide +kernel
theorem dX11_fate_38 : decode cX11_fate 38 = .ok (.aload_n 0, 1) := by decide +kernel
theorem dX11_fate_39 : decode cX11_fate 39 = .ok (.iload_n 1, 1) := by decide +kernel
theorem dX11_fate_40 : decode cX11_fate 40 = .ok (.iload_n 2, 1) := by decide +kernel
theorem dX11_fate_41 : decode cX11_fate 41 = .ok (.iload_n 2, 1) := by decide +kernel
theorem dX11_fate_42 : decode cX11_fate 42 = .ok (.iload_n 3, 1) := by decide +kernel
theorem dX11_fate_43 : decode cX11_fate 43 = .ok (.invokevirtual 322, 3) := by decide +kernel
theorem dX11_fate_46 : decode cX11_fate 46 = .ok (.ireturn, 1) := by decide +kernel
theorem dX11_leave_0 : decode cX11_leave 0 = .ok (.aload_n 0, 1) := by decide +kernel
theorem dX11_leave_1 : decode cX11_leave 1 = .ok (.getfield 313, 3) := by decide +kernel
theorem dX11_leave_4 : decode cX11_leave 4 = .ok (.sipush 200, 3) := by decide +kernel
theorem dX11_leave_7 : decode cX11_leave 7 = .ok (.if_icmp .eq 31, 3) := by decide +kernel
theorem dX11_leave_10 : decode cX11_leave 10 = .ok (.aload_n 0, 1) := by decide +kernel
theorem dX11_leave_11 : decode cX11_leave 11 = .ok (.iload_n 1, 1) := by decide +kernel
theorem dX11_leave_12 : decode cX11_leave 12 = .ok (.invokevirtual 303, 3) := by decide +kernel
theorem dX11_leave_15 : decode cX11_leave 15 = .ok (.ifCond .eq 23, 3) := by decide +kernel
theorem dX11_leave_18 : decode cX11_leave 18 = .ok (.aload_n 0, 1) := by decide +kernel
theorem dX11_leave_19 : decode cX11_leave 19 = .ok (.iload_n 2, 1) := by decide +kernel
theorem dX11_leave_20 : decode cX11_leave 20 = .ok (.invokevirtual 303, 3) := by decide +kernel
theorem dX11_leave_23 : decode cX11_leave 23 = .ok (.ifCond .eq 15, 3) := by decide +kernel
theorem dX11_leave_26 : decode cX11_leave 26 = .ok (.iload_n 1, 1) := by decide +kernel
theorem dX11_leave_27 : decode cX11_leave 27 = .ok (.iload_n 2, 1) := by decide +kernel
theorem dX11_leave_28 : decode cX11_leave 28 = .ok (.if_icmp .eq 10, 3) := by decide +kernel
theorem dX11_leave_31 : decode cX11_leave 31 = .ok (.iload_n 3, 1) := by decide +kernel
theorem dX11_leave_32 : decode cX11_leave 32 = .ok (.invokestatic 259, 3) := by decide +kernel
theorem dX11_leave_35 : decode cX11_leave 35 = .ok (.ifCond .ne 7, 3) := by decide +kernel
theorem dX11_leave_38 : decode cX11_leave 38 = .ok (.iconst (-1), 1) := by decide +kernel
theorem dX11_leave_39 : decode cX11_leave 39 = .ok (.goto 12, 3) := by decide +kernel
theorem dX11_leave_42 : decode cX11_leave 42 = .ok (.aload_n 0, 1) := by decide +kernel
theorem dX11_leave_43 : decode cX11_leave 43 = .ok (.bipush 9, 2) := by decide +kernel
theorem dX11_leave_45 : decode cX11_leave 45 = .ok (.iload_n 1, 1) := by decide +kernel
theorem dX11_leave_46 : decode cX11_leave 46 = .ok (.iload_n 2, 1) := by decide +kernel
theorem dX11_leave_47 : decode cX11_leave 47 = .ok (.iload_n 3, 1) := by decide +kernel
theorem dX11_leave_48 : decode cX11_leave 48 = .ok (.invokevirtual 322, 3) := by decide +kernel
theorem dX11_leave_51 : decode cX11_leave 51 = .ok (.ireturn, 1) := by decide +kernel
theorem dX11_lawOf_0 : decode cX11_lawOf 0 = .ok (.iconst (-1), 1) := by decide +kernel
theorem dX11_lawOf_1 : decode cX11_lawOf 1 = .ok (.istore_n 2, 1) := by decide +kernel
theorem dX11_lawOf_2 : decode cX11_lawOf 2 = .ok (.iconst 0, 1) := by decide +kernel
theorem dX11_lawOf_3 : decode cX11_lawOf 3 = .ok (.istore_n 3, 1) := by decide +kernel
theorem dX11_lawOf_4 : decode cX11_lawOf 4 = .ok (.iload_n 3, 1) := by decide +kernel
theorem dX11_lawOf_5 : decode cX11_lawOf 5 = .ok (.aload_n 0, 1) := by decide +kernel
theorem dX11_lawOf_6 : decode cX11_lawOf 6 = .ok (.getfield 262, 3) := by decide +kernel
theorem dX11_lawOf_9 : decode cX11_lawOf 9 = .ok (.if_icmp .ge 61, 3) := by decide +kernel
theorem dX11_lawOf_12 : decode cX11_lawOf 12 = .ok (.aload_n 0, 1) := by decide +kernel
theorem dX11_lawOf_13 : decode cX11_lawOf 13 = .ok (.getfield 40, 3) := by decide +kernel
theorem dX11_lawOf_16 : decode cX11_lawOf 16 = .ok (.iload_n 3, 1) := by decide +kernel
theorem dX11_lawOf_17 : decode cX11_lawOf 17 = .ok (.iaload, 1) := by decide +kernel
theorem dX11_lawOf_18 : decode cX11_lawOf 18 = .ok (.aload_n 0, 1) := by decide +kernel
theorem dX11_lawOf_19 : decode cX11_lawOf 19 = .ok (.getfield 116, 3) := by decide +kernel
theorem dX11_lawOf_22 : decode cX11_lawOf 22 = .ok (.iload_n 1, 1) := by decide +kernel
theorem dX11_lawOf_23 : decode cX11_lawOf 23 = .ok (.iaload, 1) := by decide +kernel
theorem dX11_lawOf_24 : decode cX11_lawOf 24 = .ok (.if_icmp .ne 40, 3) := by decide +kernel
theorem dX11_lawOf_27 : decode cX11_lawOf 27 = .ok (.aload_n 0, 1) := by decide +kernel
theorem dX11_lawOf_28 : decode cX11_lawOf 28 = .ok (.getfield 43, 3) := by decide +kernel
theorem dX11_lawOf_31 : decode cX11_lawOf 31 = .ok (.iload_n 3, 1) := by decide +kernel
theorem dX11_lawOf_32 : decode cX11_lawOf 32 = .ok (.iaload, 1) := by decide +kernel
theorem dX11_lawOf_33 : decode cX11_lawOf 33 = .ok (.aload_n 0, 1) := by decide +kernel
theorem dX11_lawOf_34 : decode cX11_lawOf 34 = .ok (.getfield 119, 3) := by decide +kernel
theorem dX11_lawOf_37 : decode cX11_lawOf 37 = .ok (.iload_n 1, 1) := by decide +kernel
theorem dX11_lawOf_38 : decode cX11_lawOf 38 = .ok (.iaload, 1) := by decide +kernel
theorem dX11_lawOf_39 : decode cX11_lawOf 39 = .ok (.if_icmp .gt 25, 3) := by decide +kernel
theorem dX11_lawOf_42 : decode cX11_lawOf 42 = .ok (.iload_n 2, 1) := by decide +kernel
theorem dX11_lawOf_43 : decode cX11_lawOf 43 = .ok (.iconst (-1), 1) := by decide +kernel
theorem dX11_lawOf_44 : decode cX11_lawOf 44 = .ok (.if_icmp .eq 18, 3) := by decide +kernel
theorem dX11_lawOf_47 : decode cX11_lawOf 47 = .ok (.aload_n 0, 1) := by decide +kernel
theorem dX11_lawOf_48 : decode cX11_lawOf 48 = .ok (.getfield 43, 3) := by decide +kernel
theorem dX11_lawOf_51 : decode cX11_lawOf 51 = .ok (.iload_n 3, 1) := by decide +kernel
theorem dX11_lawOf_52 : decode cX11_lawOf 52 = .ok (.iaload, 1) := by decide +kernel
theorem dX11_lawOf_53 : decode cX11_lawOf 53 = .ok (.aload_n 0, 1) := by decide +kernel
theorem dX11_lawOf_54 : decode cX11_lawOf 54 = .ok (.getfield 43, 3) := by decide +kernel
theorem dX11_lawOf_57 : decode cX11_lawOf 57 = .ok (.iload_n 2, 1) := by decide +kernel
theorem dX11_lawOf_58 : decode cX11_lawOf 58 = .ok (.iaload, 1) := by decide +kernel
theorem dX11_lawOf_59 : decode cX11_lawOf 59 = .ok (.if_icmp .lt 5, 3) := by decide +kernel
theorem dX11_lawOf_62 : decode cX11_lawOf 62 = .ok (.iload_n 3, 1) := by decide +kernel
theorem dX11_lawOf_63 : decode cX11_lawOf 63 = .ok (.istore_n 2, 1) := by decide +kernel
theorem dX11_lawOf_64 : decode cX11_lawOf 64 = .ok (.iinc 3 1, 3) := by decide +kernel
theorem dX11_lawOf_67 : decode cX11_lawOf 67 = .ok (.goto (-63), 3) := by decide +kernel
theorem dX11_lawOf_70 : decode cX11_lawOf 70 = .ok (.iload_n 2, 1) := by decide +kernel
theorem dX11_lawOf_71 : decode cX11_lawOf 71 = .ok (.ireturn, 1) := by decide +kernel
theorem dX11_law_0 : decode cX11_law 0 = .ok (.aload_n 0, 1) := by decide +kernel
theorem dX11_law_1 : decode cX11_law 1 = .ok (.iload_n 1, 1) := by decide +kernel
theorem dX11_law_2 : decode cX11_law 2 = .ok (.invokevirtual 319, 3) := by decide +kernel
theorem dX11_law_5 : decode cX11_law 5 = .ok (.ifCond .eq 11, 3) := by decide +kernel
theorem dX11_law_8 : decode cX11_law 8 = .ok (.aload_n 0, 1) := by decide +kernel
theorem dX11_law_9 : decode cX11_law 9 = .ok (.iload_n 1, 1) := by decide +kernel
theorem dX11_law_10 : decode cX11_law 10 = .ok (.invokevirtual 326, 3) := by decide +kernel
theorem dX11_law_13 : decode cX11_law 13 = .ok (.goto 4, 3) := by decide +kernel
theorem dX11_law_16 : decode cX11_law 16 = .ok (.iconst (-1), 1) := by decide +kernel
theorem dX11_law_17 : decode cX11_law 17 = .ok (.ireturn, 1) := by decide +kernel
theorem dX11_value_0 : decode cX11_value 0 = .ok (.iconst 0, 1) := by decide +kernel
theorem dX11_value_1 : decode cX11_value 1 = .ok (.istore_n 3, 1) := by decide +kernel
theorem dX11_value_2 : decode cX11_value 2 = .ok (.iload_n 1, 1) := by decide +kernel
theorem dX11_value_3 : decode cX11_value 3 = .ok (.istore 4, 2) := by decide +kernel
theorem dX11_value_5 : decode cX11_value 5 = .ok (.iload 4, 2) := by decide +kernel
theorem dX11_value_7 : decode cX11_value 7 = .ok (.iload_n 2, 1) := by decide +kernel
theorem dX11_value_8 : decode cX11_value 8 = .ok (.if_icmp .ge 136, 3) := by decide +kernel
theorem dX11_value_11 : decode cX11_value 11 = .ok (.aload_n 0, 1) := by decide +kernel
theorem dX11_value_12 : decode cX11_value 12 = .ok (.getfield 86, 3) := by decide +kernel
theorem dX11_value_15 : decode cX11_value 15 = .ok (.iload 4, 2) := by decide +kernel
theorem dX11_value_17 : decode cX11_value 17 = .ok (.iaload, 1) := by decide +kernel
theorem dX11_value_18 : decode cX11_value 18 = .ok (.iconst 2, 1) := by decide +kernel
theorem dX11_value_19 : decode cX11_value 19 = .ok (.if_icmp .ge 47, 3) := by decide +kernel
theorem dX11_value_22 : decode cX11_value 22 = .ok (.aload_n 0, 1) := by decide +kernel
theorem dX11_value_23 : decode cX11_value 23 = .ok (.getfield 152, 3) := by decide +kernel
theorem dX11_value_26 : decode cX11_value 26 = .ok (.iload_n 3, 1) := by decide +kernel
theorem dX11_value_27 : decode cX11_value 27 = .ok (.aload_n 0, 1) := by decide +kernel
theorem dX11_value_28 : decode cX11_value 28 = .ok (.getfield 86, 3) := by decide +kernel
theorem dX11_value_31 : decode cX11_value 31 = .ok (.iload 4, 2) := by decide +kernel
theorem dX11_value_33 : decode cX11_value 33 = .ok (.iaload, 1) := by decide +kernel
theorem dX11_value_34 : decode cX11_value 34 = .ok (.ifCond .ne 13, 3) := by decide +kernel
theorem dX11_value_37 : decode cX11_value 37 = .ok (.aload_n 0, 1) := by decide +kernel
theorem dX11_value_38 : decode cX11_value 38 = .ok (.getfield 89, 3) := by decide +kernel
theorem dX11_value_41 : decode cX11_value 41 = .ok (.iload 4, 2) := by decide +kernel
theorem dX11_value_43 : decode cX11_value 43 = .ok (.iaload, 1) := by decide +kernel
theorem dX11_value_44 : decode cX11_value 44 = .ok (.goto 15, 3) := by decide +kernel
theorem dX11_value_47 : decode cX11_value 47 = .ok (.aload_n 0, 1) := by decide +kernel
theorem dX11_value_48 : decode cX11_value 48 = .ok (.getfield 149, 3) := by decide +kernel
theorem dX11_value_51 : decode cX11_value 51 = .ok (.aload_n 0, 1) := by decide +kernel
theorem dX11_value_52 : decode cX11_value 52 = .ok (.getfield 89, 3) := by decide +kernel
theorem dX11_value_55 : decode cX11_value 55 = .ok (.iload 4, 2) := by decide +kernel
theorem dX11_value_57 : decode cX11_value 57 = .ok (.iaload, 1) := by decide +kernel
theorem dX11_value_58 : decode cX11_value 58 = .ok (.iaload, 1) := by decide +kernel
theorem dX11_value_59 : decode cX11_value 59 = .ok (.iastore, 1) := by decide +kernel
theorem dX11_value_60 : decode cX11_value 60 = .ok (.iinc 3 1, 3) := by decide +kernel
theorem dX11_value_63 : decode cX11_value 63 = .ok (.goto 75, 3) := by decide +kernel
theorem dX11_value_66 : decode cX11_value 66 = .ok (.iinc 3 (-1), 3) := by decide +kernel
theorem dX11_value_69 : decode cX11_value 69 = .ok (.aload_n 0, 1) := by decide +kernel
theorem dX11_value_70 : decode cX11_value 70 = .ok (.getfield 152, 3) := by decide +kernel
theorem dX11_value_73 : decode cX11_value 73 = .ok (.iload_n 3, 1) := by decide +kernel
theorem dX11_value_74 : decode cX11_value 74 = .ok (.iconst 1, 1) := by decide +kernel
theorem dX11_value_75 : decode cX11_value 75 = .ok (.isub, 1) := by decide +kernel
theorem dX11_value_76 : decode cX11_value 76 = .ok (.iaload, 1) := by decide +kernel
theorem dX11_value_77 : decode cX11_value 77 = .ok (.istore 5, 2) := by decide +kernel
theorem dX11_value_79 : decode cX11_value 79 = .ok (.aload_n 0, 1) := by decide +kernel
theorem dX11_value_80 : decode cX11_value 80 = .ok (.getfield 152, 3) := by decide +kernel
theorem dX11_value_83 : decode cX11_value 83 = .ok (.iload_n 3, 1) := by decide +kernel
theorem dX11_value_84 : decode cX11_value 84 = .ok (.iaload, 1) := by decide +kernel
theorem dX11_value_85 : decode cX11_value 85 = .ok (.istore 6, 2) := by decide +kernel
theorem dX11_value_87 : decode cX11_value 87 = .ok (.aload_n 0, 1) := by decide +kernel
theorem dX11_value_88 : decode cX11_value 88 = .ok (.getfield 152, 3) := by decide +kernel
theorem dX11_value_91 : decode cX11_value 91 = .ok (.iload_n 3, 1) := by decide +kernel
theorem dX11_value_92 : decode cX11_value 92 = .ok (.iconst 1, 1) := by decide +kernel
theorem dX11_value_93 : decode cX11_value 93 = .ok (.isub, 1) := by decide +kernel
theorem dX11_value_94 : decode cX11_value 94 = .ok (.aload_n 0, 1) := by decide +kernel
theorem dX11_value_95 : decode cX11_value 95 = .ok (.getfield 86, 3) := by decide +kernel
theorem dX11_value_98 : decode cX11_value 98 = .ok (.iload 4, 2) := by decide +kernel
theorem dX11_value_100 : decode cX11_value 100 = .ok (.iaload, 1) := by decide +kernel
theorem dX11_value_101 : decode cX11_value 101 = .ok (.iconst 2, 1) := by decide +kernel
theorem dX11_value_102 : decode cX11_value 102 = .ok (.if_icmp .ne 11, 3) := by decide +kernel
theorem dX11_value_105 : decode cX11_value 105 = .ok (.iload 5, 2) := by decide +kernel
theorem dX11_value_107 : decode cX11_value 107 = .ok (.iload 6, 2) := by decide +kernel
theorem dX11_value_109 : decode cX11_value 109 = .ok (.iadd, 1) := by decide +kernel
theorem dX11_value_110 : decode cX11_value 110 = .ok (.goto 27, 3) := by decide +kernel
theorem dX11_value_113 : decode cX11_value 113 = .ok (.aload_n 0, 1) := by decide +kernel
theorem dX11_value_114 : decode cX11_value 114 = .ok (.getfield 86, 3) := by decide +kernel
theorem dX11_value_117 : decode cX11_value 117 = .ok (.iload 4, 2) := by decide +kernel
theorem dX11_value_119 : decode cX11_value 119 = .ok (.iaload, 1) := by decide +kernel
theorem dX11_value_120 : decode cX11_value 120 = .ok (.iconst 3, 1) := by decide +kernel
theorem dX11_value_121 : decode cX11_value 121 = .ok (.if_icmp .ne 11, 3) := by decide +kernel
theorem dX11_value_124 : decode cX11_value 124 = .ok (.iload 5, 2) := by decide +kernel
theorem dX11_value_126 : decode cX11_value 126 = .ok (.iload 6, 2) := by decide +kernel
theorem dX11_value_128 : decode cX11_value 128 = .ok (.isub, 1) := by decide +kernel
theorem dX11_value_129 : decode cX11_value 129 = .ok (.goto 8, 3) := by decide +kernel
theorem dX11_value_132 : decode cX11_value 132 = .ok (.iload 5, 2) := by decide +kernel
theorem dX11_value_134 : decode cX11_value 134 = .ok (.iload 6, 2) := by decide +kernel
theorem dX11_value_136 : decode cX11_value 136 = .ok (.imul, 1) := by decide +kernel
theorem dX11_value_137 : decode cX11_value 137 = .ok (.iastore, 1) := by decide +kernel
theorem dX11_value_138 : decode cX11_value 138 = .ok (.iinc 4 1, 3) := by decide +kernel
theorem dX11_value_141 : decode cX11_value 141 = .ok (.goto (-136), 3) := by decide +kernel
theorem dX11_value_144 : decode cX11_value 144 = .ok (.aload_n 0, 1) := by decide +kernel
theorem dX11_value_145 : decode cX11_value 145 = .ok (.getfield 152, 3) := by decide +kernel
theorem dX11_value_148 : decode cX11_value 148 = .ok (.iconst 0, 1) := by decide +kernel
theorem dX11_value_149 : decode cX11_value 149 = .ok (.iaload, 1) := by decide +kernel
theorem dX11_value_150 : decode cX11_value 150 = .ok (.ireturn, 1) := by decide +kernel
theorem dX11_holds_0 : decode cX11_holds 0 = .ok (.aload_n 0, 1) := by decide +kernel
theorem dX11_holds_1 : decode cX11_holds 1 = .ok (.getfield 61, 3) := by decide +kernel
theorem dX11_holds_4 : decode cX11_holds 4 = .ok (.iload_n 1, 1) := by decide +kernel
theorem dX11_holds_5 : decode cX11_holds 5 = .ok (.iaload, 1) := by decide +kernel
theorem dX11_holds_6 : decode cX11_holds 6 = .ok (.aload_n 0, 1) := by decide +kernel
theorem dX11_holds_7 : decode cX11_holds 7 = .ok (.getfield 64, 3) := by decide +kernel
theorem dX11_holds_10 : decode cX11_holds 10 = .ok (.iload_n 1, 1) := by decide +kernel
theorem dX11_holds_11 : decode cX11_holds 11 = .ok (.iaload, 1) := by decide +kernel
theorem dX11_holds_12 : decode cX11_holds 12 = .ok (.if_icmp .ne 5, 3) := by decide +kernel
theorem dX11_holds_15 : decode cX11_holds 15 = .ok (.iconst 1, 1) := by decide +kernel
theorem dX11_holds_16 : decode cX11_holds 16 = .ok (.ireturn, 1) := by decide +kernel
theorem dX11_holds_17 : decode cX11_holds 17 = .ok (.iconst 0, 1) := by decide +kernel
theorem dX11_holds_18 : decode cX11_holds 18 = .ok (.istore_n 3, 1) := by decide +kernel
theorem dX11_holds_19 : decode cX11_holds 19 = .ok (.aload_n 0, 1) := by decide +kernel
theorem dX11_holds_20 : decode cX11_holds 20 = .ok (.getfield 61, 3) := by decide +kernel
theorem dX11_holds_23 : decode cX11_holds 23 = .ok (.iload_n 1, 1) := by decide +kernel
theorem dX11_holds_24 : decode cX11_holds 24 = .ok (.iaload, 1) := by decide +kernel
theorem dX11_holds_25 : decode cX11_holds 25 = .ok (.istore 4, 2) := by decide +kernel
theorem dX11_holds_27 : decode cX11_holds 27 = .ok (.iload 4, 2) := by decide +kernel
theorem dX11_holds_29 : decode cX11_holds 29 = .ok (.aload_n 0, 1) := by decide +kernel
theorem dX11_holds_30 : decode cX11_holds 30 = .ok (.getfield 64, 3) := by decide +kernel
theorem dX11_holds_33 : decode cX11_holds 33 = .ok (.iload_n 1, 1) := by decide +kernel
theorem dX11_holds_34 : decode cX11_holds 34 = .ok (.iaload, 1) := by decide +kernel
theorem dX11_holds_35 : decode cX11_holds 35 = .ok (.if_icmp .ge 184, 3) := by decide +kernel
theorem dX11_holds_38 : decode cX11_holds 38 = .ok (.sipush 200, 3) := by decide +kernel
theorem dX11_holds_41 : decode cX11_holds 41 = .ok (.iload_n 2, 1) := by decide +kernel
theorem dX11_holds_42 : decode cX11_holds 42 = .ok (.imul, 1) := by decide +kernel
theorem dX11_holds_43 : decode cX11_holds 43 = .ok (.iload 4, 2) := by decide +kernel
theorem dX11_holds_45 : decode cX11_holds 45 = .ok (.iadd, 1) := by decide +kernel
theorem dX11_holds_46 : decode cX11_holds 46 = .ok (.istore 5, 2) := by decide +kernel
theorem dX11_holds_48 : decode cX11_holds 48 = .ok (.aload_n 0, 1) := by decide +kernel
theorem dX11_holds_49 : decode cX11_holds 49 = .ok (.getfield 82, 3) := by decide +kernel
theorem dX11_holds_52 : decode cX11_holds 52 = .ok (.iload 5, 2) := by decide +kernel
theorem dX11_holds_54 : decode cX11_holds 54 = .ok (.baload, 1) := by decide +kernel
theorem dX11_holds_55 : decode cX11_holds 55 = .ok (.ifCond .eq 9, 3) := by decide +kernel
theorem dX11_holds_58 : decode cX11_holds 58 = .ok (.iload_n 3, 1) := by decide +kernel
theorem dX11_holds_59 : decode cX11_holds 59 = .ok (.ifCond .eq 5, 3) := by decide +kernel
theorem dX11_holds_62 : decode cX11_holds 62 = .ok (.iconst 1, 1) := by decide +kernel
theorem dX11_holds_63 : decode cX11_holds 63 = .ok (.ireturn, 1) := by decide +kernel
theorem dX11_holds_64 : decode cX11_holds 64 = .ok (.aload_n 0, 1) := by decide +kernel
theorem dX11_holds_65 : decode cX11_holds 65 = .ok (.getfield 82, 3) := by decide +kernel
theorem dX11_holds_68 : decode cX11_holds 68 = .ok (.iload 5, 2) := by decide +kernel
theorem dX11_holds_70 : decode cX11_holds 70 = .ok (.baload, 1) := by decide +kernel
theorem dX11_holds_71 : decode cX11_holds 71 = .ok (.ifCond .eq 5, 3) := by decide +kernel
theorem dX11_holds_74 : decode cX11_holds 74 = .ok (.iconst 1, 1) := by decide +kernel
theorem dX11_holds_75 : decode cX11_holds 75 = .ok (.istore_n 3, 1) := by decide +kernel
theorem dX11_holds_76 : decode cX11_holds 76 = .ok (.iload_n 3, 1) := by decide +kernel
theorem dX11_holds_77 : decode cX11_holds 77 = .ok (.ifCond .ne 6, 3) := by decide +kernel
theorem dX11_holds_80 : decode cX11_holds 80 = .ok (.goto 133, 3) := by decide +kernel
theorem dX11_holds_83 : decode cX11_holds 83 = .ok (.aload_n 0, 1) := by decide +kernel
theorem dX11_holds_84 : decode cX11_holds 84 = .ok (.aload_n 0, 1) := by decide +kernel
theorem dX11_holds_85 : decode cX11_holds 85 = .ok (.getfield 73, 3) := by decide +kernel
theorem dX11_holds_88 : decode cX11_holds 88 = .ok (.iload 5, 2) := by decide +kernel
theorem dX11_holds_90 : decode cX11_holds 90 = .ok (.iaload, 1) := by decide +kernel
theorem dX11_holds_91 : decode cX11_holds 91 = .ok (.aload_n 0, 1) := by decide +kernel
theorem dX11_holds_92 : decode cX11_holds 92 = .ok (.getfield 76, 3) := by decide +kernel
theorem dX11_holds_95 : decode cX11_holds 95 = .ok (.iload 5, 2) := by decide +kernel
theorem dX11_holds_97 : decode cX11_holds 97 = .ok (.iaload, 1) := by decide +kernel
theorem dX11_holds_98 : decode cX11_holds 98 = .ok (.invokevirtual 329, 3) := by decide +kernel
theorem dX11_holds_101 : decode cX11_holds 101 = .ok (.istore 6, 2) := by decide +kernel
theorem dX11_holds_103 : decode cX11_holds 103 = .ok (.aload_n 0, 1) := by decide +kernel
theorem dX11_holds_104 : decode cX11_holds 104 = .ok (.aload_n 0, 1) := by decide +kernel
theorem dX11_holds_105 : decode cX11_holds 105 = .ok (.getfield 76, 3) := by decide +kernel
theorem dX11_holds_108 : decode cX11_holds 108 = .ok (.iload 5, 2) := by decide +kernel
theorem dX11_holds_110 : decode cX11_holds 110 = .ok (.iaload, 1) := by decide +kernel
theorem dX11_holds_111 : decode cX11_holds 111 = .ok (.aload_n 0, 1) := by decide +kernel
theorem dX11_holds_112 : decode cX11_holds 112 = .ok (.getfield 79, 3) := by decide +kernel
theorem dX11_holds_115 : decode cX11_holds 115 = .ok (.iload 5, 2) := by decide +kernel
theorem dX11_holds_117 : decode cX11_holds 117 = .ok (.iaload, 1) := by decide +kernel
theorem dX11_holds_118 : decode cX11_holds 118 = .ok (.invokevirtual 329, 3) := by decide +kernel
theorem dX11_holds_121 : decode cX11_holds 121 = .ok (.istore 7, 2) := by decide +kernel
theorem dX11_holds_123 : decode cX11_holds 123 = .ok (.aload_n 0, 1) := by decide +kernel
theorem dX11_holds_124 : decode cX11_holds 124 = .ok (.getfield 70, 3) := by decide +kernel
theorem dX11_holds_127 : decode cX11_holds 127 = .ok (.iload 5, 2) := by decide +kernel
theorem dX11_holds_129 : decode cX11_holds 129 = .ok (.iaload, 1) := by decide +kernel
theorem dX11_holds_130 : decode cX11_holds 130 = .ok (.ifCond .ne 18, 3) := by decide +kernel
theorem dX11_holds_133 : decode cX11_holds 133 = .ok (.iload 6, 2) := by decide +kernel
theorem dX11_holds_135 : decode cX11_holds 135 = .ok (.iload 7, 2) := by decide +kernel
theorem dX11_holds_137 : decode cX11_holds 137 = .ok (.if_icmp .ne 7, 3) := by decide +kernel
theorem dX11_holds_140 : decode cX11_holds 140 = .ok (.iconst 1, 1) := by decide +kernel
theorem dX11_holds_141 : decode cX11_holds 141 = .ok (.goto 71, 3) := by decide +kernel
theorem dX11_holds_144 : decode cX11_holds 144 = .ok (.iconst 0, 1) := by decide +kernel
theorem dX11_holds_145 : decode cX11_holds 145 = .ok (.goto 67, 3) := by decide +kernel
theorem dX11_holds_148 : decode cX11_holds 148 = .ok (.aload_n 0, 1) := by decide +kernel
theorem dX11_holds_149 : decode cX11_holds 149 = .ok (.getfield 70, 3) := by decide +kernel
theorem dX11_holds_152 : decode cX11_holds 152 = .ok (.iload 5, 2) := by decide +kernel
theorem dX11_holds_154 : decode cX11_holds 154 = .ok (.iaload, 1) := by decide +kernel
theorem dX11_holds_155 : decode cX11_holds 155 = .ok (.iconst 1, 1) := by decide +kernel
theorem dX11_holds_156 : decode cX11_holds 156 = .ok (.if_icmp .ne 18, 3) := by decide +kernel
theorem dX11_holds_159 : decode cX11_holds 159 = .ok (.iload 6, 2) := by decide +kernel
theorem dX11_holds_161 : decode cX11_holds 161 = .ok (.iload 7, 2) := by decide +kernel
theorem dX11_holds_163 : decode cX11_holds 163 = .ok (.if_icmp .eq 7, 3) := by decide +kernel
theorem dX11_holds_166 : decode cX11_holds 166 = .ok (.iconst 1, 1) := by decide +kernel
theorem dX11_holds_167 : decode cX11_holds 167 = .ok (.goto 45, 3) := by decide +kernel
theorem dX11_holds_170 : decode cX11_holds 170 = .ok (.iconst 0, 1) := by decide +kernel
theorem dX11_holds_171 : decode cX11_holds 171 = .ok (.goto 41, 3) := by decide +kernel
theorem dX11_holds_174 : decode cX11_holds 174 = .ok (.aload_n 0, 1) := by decide +kernel
theorem dX11_holds_175 : decode cX11_holds 175 = .ok (.getfield 70, 3) := by decide +kernel
theorem dX11_holds_178 : decode cX11_holds 178 = .ok (.iload 5, 2) := by decide +kernel
theorem dX11_holds_180 : decode cX11_holds 180 = .ok (.iaload, 1) := by decide +kernel
theorem dX11_holds_181 : decode cX11_holds 181 = .ok (.iconst 2, 1) := by decide +kernel
theorem dX11_holds_182 : decode cX11_holds 182 = .ok (.if_icmp .ne 18, 3) := by decide +kernel
theorem dX11_holds_185 : decode cX11_holds 185 = .ok (.iload 6, 2) := by decide +kernel
theorem dX11_holds_187 : decode cX11_holds 187 = .ok (.iload 7, 2) := by decide +kernel
theorem dX11_holds_189 : decode cX11_holds 189 = .ok (.if_icmp .ge 7, 3) := by decide +kernel
theorem dX11_holds_192 : decode cX11_holds 192 = .ok (.iconst 1, 1) := by decide +kernel
theorem dX11_holds_193 : decode cX11_holds 193 = .ok (.goto 19, 3) := by decide +kernel
theorem dX11_holds_196 : decode cX11_holds 196 = .ok (.iconst 0, 1) := by decide +kernel
theorem dX11_holds_197 : decode cX11_holds 197 = .ok (.goto 15, 3) := by decide +kernel
theorem dX11_holds_200 : decode cX11_holds 200 = .ok (.iload 6, 2) := by decide +kernel
theorem dX11_holds_202 : decode cX11_holds 202 = .ok (.iload 7, 2) := by decide +kernel
theorem dX11_holds_204 : decode cX11_holds 204 = .ok (.if_icmp .gt 7, 3) := by decide +kernel
theorem dX11_holds_207 : decode cX11_holds 207 = .ok (.iconst 1, 1) := by decide +kernel
theorem dX11_holds_208 : decode cX11_holds 208 = .ok (.goto 4, 3) := by decide +kernel
theorem dX11_holds_211 : decode cX11_holds 211 = .ok (.iconst 0, 1) := by decide +kernel
theorem dX11_holds_212 : decode cX11_holds 212 = .ok (.istore_n 3, 1) := by decide +kernel
theorem dX11_holds_213 : decode cX11_holds 213 = .ok (.iinc 4 1, 3) := by decide +kernel
theorem dX11_holds_216 : decode cX11_holds 216 = .ok (.goto (-189), 3) := by decide +kernel
theorem dX11_holds_219 : decode cX11_holds 219 = .ok (.iload_n 3, 1) := by decide +kernel
theorem dX11_holds_220 : decode cX11_holds 220 = .ok (.ireturn, 1) := by decide +kernel
theorem dX11_nothing_0 : decode cX11_nothing 0 = .ok (.iconst 0, 1) := by decide +kernel
theorem dX11_nothing_1 : decode cX11_nothing 1 = .ok (.istore_n 2, 1) := by decide +kernel
theorem dX11_nothing_2 : decode cX11_nothing 2 = .ok (.iload_n 2, 1) := by decide +kernel
theorem dX11_nothing_3 : decode cX11_nothing 3 = .ok (.bipush 12, 2) := by decide +kernel
theorem dX11_nothing_5 : decode cX11_nothing 5 = .ok (.if_icmp .ge 16, 3) := by decide +kernel
theorem dX11_nothing_8 : decode cX11_nothing 8 = .ok (.aload_n 0, 1) := by decide +kernel
theorem dX11_nothing_9 : decode cX11_nothing 9 = .ok (.getfield 149, 3) := by decide +kernel
theorem dX11_nothing_12 : decode cX11_nothing 12 = .ok (.iload_n 2, 1) := by decide +kernel
theorem dX11_nothing_13 : decode cX11_nothing 13 = .ok (.iconst 0, 1) := by decide +kernel
theorem dX11_nothing_14 : decode cX11_nothing 14 = .ok (.iastore, 1) := by decide +kernel
theorem dX11_nothing_15 : decode cX11_nothing 15 = .ok (.iinc 2 1, 3) := by decide +kernel
theorem dX11_nothing_18 : decode cX11_nothing 18 = .ok (.goto (-16), 3) := by decide +kernel
theorem dX11_nothing_21 : decode cX11_nothing 21 = .ok (.aload_n 0, 1) := by decide +kernel
theorem dX11_nothing_22 : decode cX11_nothing 22 = .ok (.getfield 149, 3) := by decide +kernel
theorem dX11_nothing_25 : decode cX11_nothing 25 = .ok (.iconst 4, 1) := by decide +kernel
theorem dX11_nothing_26 : decode cX11_nothing 26 = .ok (.aload_n 0, 1) := by decide +kernel
theorem dX11_nothing_27 : decode cX11_nothing 27 = .ok (.getfield 122, 3) := by decide +kernel
theorem dX11_nothing_30 : decode cX11_nothing 30 = .ok (.iload_n 1, 1) := by decide +kernel
theorem dX11_nothing_31 : decode cX11_nothing 31 = .ok (.iaload, 1) := by decide +kernel
theorem dX11_nothing_32 : decode cX11_nothing 32 = .ok (.iastore, 1) := by decide +kernel
theorem dX11_nothing_33 : decode cX11_nothing 33 = .ok (.return_, 1) := by decide +kernel
theorem dX11_ruleOf_0 : decode cX11_ruleOf 0 = .ok (.aload_n 0, 1) := by decide +kernel
theorem dX11_ruleOf_1 : decode cX11_ruleOf 1 = .ok (.iload_n 1, 1) := by decide +kernel
theorem dX11_ruleOf_2 : decode cX11_ruleOf 2 = .ok (.invokevirtual 326, 3) := by decide +kernel
theorem dX11_ruleOf_5 : decode cX11_ruleOf 5 = .ok (.istore_n 3, 1) := by decide +kernel
theorem dX11_ruleOf_6 : decode cX11_ruleOf 6 = .ok (.iload_n 3, 1) := by decide +kernel
theorem dX11_ruleOf_7 : decode cX11_ruleOf 7 = .ok (.iconst (-1), 1) := by decide +kernel
theorem dX11_ruleOf_8 : decode cX11_ruleOf 8 = .ok (.if_icmp .ne 5, 3) := by decide +kernel
theorem dX11_ruleOf_11 : decode cX11_ruleOf 11 = .ok (.iconst (-1), 1) := by decide +kernel
theorem dX11_ruleOf_12 : decode cX11_ruleOf 12 = .ok (.ireturn, 1) := by decide +kernel
theorem dX11_ruleOf_13 : decode cX11_ruleOf 13 = .ok (.iconst 0, 1) := by decide +kernel
theorem dX11_ruleOf_14 : decode cX11_ruleOf 14 = .ok (.istore 4, 2) := by decide +kernel
theorem dX11_ruleOf_16 : decode cX11_ruleOf 16 = .ok (.iload 4, 2) := by decide +kernel
theorem dX11_ruleOf_18 : decode cX11_ruleOf 18 = .ok (.aload_n 0, 1) := by decide +kernel
theorem dX11_ruleOf_19 : decode cX11_ruleOf 19 = .ok (.getfield 46, 3) := by decide +kernel
theorem dX11_ruleOf_22 : decode cX11_ruleOf 22 = .ok (.iload_n 3, 1) := by decide +kernel
theorem dX11_ruleOf_23 : decode cX11_ruleOf 23 = .ok (.iaload, 1) := by decide +kernel
theorem dX11_ruleOf_24 : decode cX11_ruleOf 24 = .ok (.if_icmp .ge 43, 3) := by decide +kernel
theorem dX11_ruleOf_27 : decode cX11_ruleOf 27 = .ok (.aload_n 0, 1) := by decide +kernel
theorem dX11_ruleOf_28 : decode cX11_ruleOf 28 = .ok (.getfield 49, 3) := by decide +kernel
theorem dX11_ruleOf_31 : decode cX11_ruleOf 31 = .ok (.bipush 16, 2) := by decide +kernel
theorem dX11_ruleOf_33 : decode cX11_ruleOf 33 = .ok (.iload_n 3, 1) := by decide +kernel
theorem dX11_ruleOf_34 : decode cX11_ruleOf 34 = .ok (.imul, 1) := by decide +kernel
theorem dX11_ruleOf_35 : decode cX11_ruleOf 35 = .ok (.iload 4, 2) := by decide +kernel
theorem dX11_ruleOf_37 : decode cX11_ruleOf 37 = .ok (.iadd, 1) := by decide +kernel
theorem dX11_ruleOf_38 : decode cX11_ruleOf 38 = .ok (.iaload, 1) := by decide +kernel
theorem dX11_ruleOf_39 : decode cX11_ruleOf 39 = .ok (.iload_n 2, 1) := by decide +kernel
theorem dX11_ruleOf_40 : decode cX11_ruleOf 40 = .ok (.if_icmp .ne 21, 3) := by decide +kernel
theorem dX11_ruleOf_43 : decode cX11_ruleOf 43 = .ok (.aload_n 0, 1) := by decide +kernel
theorem dX11_ruleOf_44 : decode cX11_ruleOf 44 = .ok (.bipush 16, 2) := by decide +kernel
theorem dX11_ruleOf_46 : decode cX11_ruleOf 46 = .ok (.iload_n 3, 1) := by decide +kernel
theorem dX11_ruleOf_47 : decode cX11_ruleOf 47 = .ok (.imul, 1) := by decide +kernel
theorem dX11_ruleOf_48 : decode cX11_ruleOf 48 = .ok (.iload 4, 2) := by decide +kernel
theorem dX11_ruleOf_50 : decode cX11_ruleOf 50 = .ok (.iadd, 1) := by decide +kernel
theorem dX11_ruleOf_51 : decode cX11_ruleOf 51 = .ok (.iload_n 3, 1) := by decide +kernel
theorem dX11_ruleOf_52 : decode cX11_ruleOf 52 = .ok (.invokevirtual 332, 3) := by decide +kernel
theorem dX11_ruleOf_55 : decode cX11_ruleOf 55 = .ok (.ifCond .eq 6, 3) := by decide +kernel
theorem dX11_ruleOf_58 : decode cX11_ruleOf 58 = .ok (.iload 4, 2) := by decide +kernel
theorem dX11_ruleOf_60 : decode cX11_ruleOf 60 = .ok (.ireturn, 1) := by decide +kernel
theorem dX11_ruleOf_61 : decode cX11_ruleOf 61 = .ok (.iinc 4 1, 3) := by decide +kernel
theorem dX11_ruleOf_64 : decode cX11_ruleOf 64 = .ok (.goto (-48), 3) := by decide +kernel
theorem dX11_ruleOf_67 : decode cX11_ruleOf 67 = .ok (.iconst (-1), 1) := by decide +kernel
theorem dX11_ruleOf_68 : decode cX11_ruleOf 68 = .ok (.ireturn, 1) := by decide +kernel
theorem dX11_isKin_0 : decode cX11_isKin 0 = .ok (.aload_n 0, 1) := by decide +kernel
theorem dX11_isKin_1 : decode cX11_isKin 1 = .ok (.iload_n 2, 1) := by decide +kernel
theorem dX11_isKin_2 : decode cX11_isKin 2 = .ok (.aload_n 0, 1) := by decide +kernel
theorem dX11_isKin_3 : decode cX11_isKin 3 = .ok (.getfield 110, 3) := by decide +kernel
theorem dX11_isKin_6 : decode cX11_isKin 6 = .ok (.iload_n 1, 1) := by decide +kernel
theorem dX11_isKin_7 : decode cX11_isKin 7 = .ok (.iaload, 1) := by decide +kernel
theorem dX11_isKin_8 : decode cX11_isKin 8 = .ok (.invokevirtual 306, 3) := by decide +kernel
theorem dX11_isKin_11 : decode cX11_isKin 11 = .ok (.iconst 4, 1) := by decide +kernel
theorem dX11_isKin_12 : decode cX11_isKin 12 = .ok (.if_icmp .le 18, 3) := by decide +kernel
theorem dX11_isKin_15 : decode cX11_isKin 15 = .ok (.aload_n 0, 1) := by decide +kernel
theorem dX11_isKin_16 : decode cX11_isKin 16 = .ok (.iload_n 2, 1) := by decide +kernel
theorem dX11_isKin_17 : decode cX11_isKin 17 = .ok (.aload_n 0, 1) := by decide +kernel
theorem dX11_isKin_18 : decode cX11_isKin 18 = .ok (.getfield 113, 3) := by decide +kernel
theorem dX11_isKin_21 : decode cX11_isKin 21 = .ok (.iload_n 1, 1) := by decide +kernel
theorem dX11_isKin_22 : decode cX11_isKin 22 = .ok (.iaload, 1) := by decide +kernel
theorem dX11_isKin_23 : decode cX11_isKin 23 = .ok (.invokevirtual 306, 3) := by decide +kernel
theorem dX11_isKin_26 : decode cX11_isKin 26 = .ok (.iconst 4, 1) := by decide +kernel
theorem dX11_isKin_27 : decode cX11_isKin 27 = .ok (.if_icmp .gt 7, 3) := by decide +kernel
theorem dX11_isKin_30 : decode cX11_isKin 30 = .ok (.iconst 1, 1) := by decide +kernel
theorem dX11_isKin_31 : decode cX11_isKin 31 = .ok (.goto 4, 3) := by decide +kernel
theorem dX11_isKin_34 : decode cX11_isKin 34 = .ok (.iconst 0, 1) := by decide +kernel
theorem dX11_isKin_35 : decode cX11_isKin 35 = .ok (.ireturn, 1) := by decide +kernel
theorem dX11_proofOf_0 : decode cX11_proofOf 0 = .ok (.aload_n 0, 1) := by decide +kernel
theorem dX11_proofOf_1 : decode cX11_proofOf 1 = .ok (.iload_n 1, 1) := by decide +kernel
theorem dX11_proofOf_2 : decode cX11_proofOf 2 = .ok (.invokevirtual 336, 3) := by decide +kernel
theorem dX11_proofOf_5 : decode cX11_proofOf 5 = .ok (.iconst 0, 1) := by decide +kernel
theorem dX11_proofOf_6 : decode cX11_proofOf 6 = .ok (.istore_n 3, 1) := by decide +kernel
theorem dX11_proofOf_7 : decode cX11_proofOf 7 = .ok (.iload_n 3, 1) := by decide +kernel
theorem dX11_proofOf_8 : decode cX11_proofOf 8 = .ok (.bipush 120, 2) := by decide +kernel
theorem dX11_proofOf_10 : decode cX11_proofOf 10 = .ok (.if_icmp .ge 158, 3) := by decide +kernel
theorem dX11_proofOf_13 : decode cX11_proofOf 13 = .ok (.iconst (-1), 1) := by decide +kernel
theorem dX11_proofOf_14 : decode cX11_proofOf 14 = .ok (.istore 4, 2) := by decide +kernel
theorem dX11_proofOf_16 : decode cX11_proofOf 16 = .ok (.iconst 0, 1) := by decide +kernel
theorem dX11_proofOf_17 : decode cX11_proofOf 17 = .ok (.istore 5, 2) := by decide +kernel
theorem dX11_proofOf_19 : decode cX11_proofOf 19 = .ok (.iload 5, 2) := by decide +kernel
theorem dX11_proofOf_21 : decode cX11_proofOf 21 = .ok (.iload_n 2, 1) := by decide +kernel
theorem dX11_proofOf_22 : decode cX11_proofOf 22 = .ok (.if_icmp .ge 57, 3) := by decide +kernel
theorem dX11_proofOf_25 : decode cX11_proofOf 25 = .ok (.aload_n 0, 1) := by decide +kernel
theorem dX11_proofOf_26 : decode cX11_proofOf 26 = .ok (.getfield 137, 3) := by decide +kernel
theorem dX11_proofOf_29 : decode cX11_proofOf 29 = .ok (.iload 5, 2) := by decide +kernel
theorem dX11_proofOf_31 : decode cX11_proofOf 31 = .ok (.iaload, 1) := by decide +kernel
theorem dX11_proofOf_32 : decode cX11_proofOf 32 = .ok (.iconst 4, 1) := by decide +kernel
theorem dX11_proofOf_33 : decode cX11_proofOf 33 = .ok (.if_icmp .eq 14, 3) := by decide +kernel
theorem dX11_proofOf_36 : decode cX11_proofOf 36 = .ok (.aload_n 0, 1) := by decide +kernel
theorem dX11_proofOf_37 : decode cX11_proofOf 37 = .ok (.getfield 137, 3) := by decide +kernel
theorem dX11_proofOf_40 : decode cX11_proofOf 40 = .ok (.iload 5, 2) := by decide +kernel
theorem dX11_proofOf_42 : decode cX11_proofOf 42 = .ok (.iaload, 1) := by decide +kernel
theorem dX11_proofOf_43 : decode cX11_proofOf 43 = .ok (.iconst 5, 1) := by decide +kernel
theorem dX11_proofOf_44 : decode cX11_proofOf 44 = .ok (.if_icmp .ne 29, 3) := by decide +kernel
theorem dX11_proofOf_47 : decode cX11_proofOf 47 = .ok (.aload_n 0, 1) := by decide +kernel
theorem dX11_proofOf_48 : decode cX11_proofOf 48 = .ok (.getfield 140, 3) := by decide +kernel
theorem dX11_proofOf_51 : decode cX11_proofOf 51 = .ok (.iload 5, 2) := by decide +kernel
theorem dX11_proofOf_53 : decode cX11_proofOf 53 = .ok (.iaload, 1) := by decide +kernel
theorem dX11_proofOf_54 : decode cX11_proofOf 54 = .ok (.iload_n 3, 1) := by decide +kernel
theorem dX11_proofOf_55 : decode cX11_proofOf 55 = .ok (.if_icmp .ne 18, 3) := by decide +kernel
theorem dX11_proofOf_58 : decode cX11_proofOf 58 = .ok (.aload_n 0, 1) := by decide +kernel
theorem dX11_proofOf_59 : decode cX11_proofOf 59 = .ok (.getfield 143, 3) := by decide +kernel
theorem dX11_proofOf_62 : decode cX11_proofOf 62 = .ok (.iload 5, 2) := by decide +kernel
theorem dX11_proofOf_64 : decode cX11_proofOf 64 = .ok (.iaload, 1) := by decide +kernel
theorem dX11_proofOf_65 : decode cX11_proofOf 65 = .ok (.iload_n 1, 1) := by decide +kernel
theorem dX11_proofOf_66 : decode cX11_proofOf 66 = .ok (.if_icmp .ne 7, 3) := by decide +kernel
theorem dX11_proofOf_69 : decode cX11_proofOf 69 = .ok (.iload 5, 2) := by decide +kernel
theorem dX11_proofOf_71 : decode cX11_proofOf 71 = .ok (.istore 4, 2) := by decide +kernel
theorem dX11_proofOf_73 : decode cX11_proofOf 73 = .ok (.iinc 5 1, 3) := by decide +kernel
theorem dX11_proofOf_76 : decode cX11_proofOf 76 = .ok (.goto (-57), 3) := by decide +kernel
theorem dX11_proofOf_79 : decode cX11_proofOf 79 = .ok (.iload 4, 2) := by decide +kernel
theorem dX11_proofOf_81 : decode cX11_proofOf 81 = .ok (.iconst (-1), 1) := by decide +kernel
theorem dX11_proofOf_82 : decode cX11_proofOf 82 = .ok (.if_icmp .ne 6, 3) := by decide +kernel
theorem dX11_proofOf_85 : decode cX11_proofOf 85 = .ok (.goto 77, 3) := by decide +kernel
theorem dX11_proofOf_88 : decode cX11_proofOf 88 = .ok (.aload_n 0, 1) := by decide +kernel
theorem dX11_proofOf_89 : decode cX11_proofOf 89 = .ok (.getfield 137, 3) := by decide +kernel
theorem dX11_proofOf_92 : decode cX11_proofOf 92 = .ok (.iload 4, 2) := by decide +kernel
theorem dX11_proofOf_94 : decode cX11_proofOf 94 = .ok (.iaload, 1) := by decide +kernel
theorem dX11_proofOf_95 : decode cX11_proofOf 95 = .ok (.iconst 4, 1) := by decide +kernel
theorem dX11_proofOf_96 : decode cX11_proofOf 96 = .ok (.if_icmp .ne 7, 3) := by decide +kernel
theorem dX11_proofOf_99 : decode cX11_proofOf 99 = .ok (.iconst 1, 1) := by decide +kernel
theorem dX11_proofOf_100 : decode cX11_proofOf 100 = .ok (.goto 4, 3) := by decide +kernel
theorem dX11_proofOf_103 : decode cX11_proofOf 103 = .ok (.iconst 0, 1) := by decide +kernel
theorem dX11_proofOf_104 : decode cX11_proofOf 104 = .ok (.istore 5, 2) := by decide +kernel
theorem dX11_proofOf_106 : decode cX11_proofOf 106 = .ok (.iload_n 3, 1) := by decide +kernel
theorem dX11_proofOf_107 : decode cX11_proofOf 107 = .ok (.bipush 100, 2) := by decide +kernel
theorem dX11_proofOf_109 : decode cX11_proofOf 109 = .ok (.if_icmp .ge 34, 3) := by decide +kernel
theorem dX11_proofOf_112 : decode cX11_proofOf 112 = .ok (.aload_n 0, 1) := by decide +kernel
theorem dX11_proofOf_113 : decode cX11_proofOf 113 = .ok (.iload_n 1, 1) := by decide +kernel
theorem dX11_proofOf_114 : decode cX11_proofOf 114 = .ok (.iload_n 3, 1) := by decide +kernel
theorem dX11_proofOf_115 : decode cX11_proofOf 115 = .ok (.invokevirtual 339, 3) := by decide +kernel
theorem dX11_proofOf_118 : decode cX11_proofOf 118 = .ok (.ifCond .eq 25, 3) := by decide +kernel
theorem dX11_proofOf_121 : decode cX11_proofOf 121 = .ok (.aload_n 0, 1) := by decide +kernel
theorem dX11_proofOf_122 : decode cX11_proofOf 122 = .ok (.getfield 149, 3) := by decide +kernel
theorem dX11_proofOf_125 : decode cX11_proofOf 125 = .ok (.iconst 2, 1) := by decide +kernel
theorem dX11_proofOf_126 : decode cX11_proofOf 126 = .ok (.dup2, 1) := by decide +kernel
theorem dX11_proofOf_127 : decode cX11_proofOf 127 = .ok (.iaload, 1) := by decide +kernel
theorem dX11_proofOf_128 : decode cX11_proofOf 128 = .ok (.iload 5, 2) := by decide +kernel
theorem dX11_proofOf_130 : decode cX11_proofOf 130 = .ok (.ifCond .eq 7, 3) := by decide +kernel
theorem dX11_proofOf_133 : decode cX11_proofOf 133 = .ok (.iconst 1, 1) := by decide +kernel
theorem dX11_proofOf_134 : decode cX11_proofOf 134 = .ok (.goto 4, 3) := by decide +kernel
theorem dX11_proofOf_137 : decode cX11_proofOf 137 = .ok (.iconst 0, 1) := by decide +kernel
theorem dX11_proofOf_138 : decode cX11_proofOf 138 = .ok (.iadd, 1) := by decide +kernel
theorem dX11_proofOf_139 : decode cX11_proofOf 139 = .ok (.iastore, 1) := by decide +kernel
theorem dX11_proofOf_140 : decode cX11_proofOf 140 = .ok (.goto 22, 3) := by decide +kernel
theorem dX11_proofOf_143 : decode cX11_proofOf 143 = .ok (.aload_n 0, 1) := by decide +kernel
theorem dX11_proofOf_144 : decode cX11_proofOf 144 = .ok (.getfield 149, 3) := by decide +kernel
theorem dX11_proofOf_147 : decode cX11_proofOf 147 = .ok (.iload 5, 2) := by decide +kernel
theorem dX11_proofOf_149 : decode cX11_proofOf 149 = .ok (.ifCond .eq 7, 3) := by decide +kernel
theorem dX11_proofOf_152 : decode cX11_proofOf 152 = .ok (.iconst 0, 1) := by decide +kernel
theorem dX11_proofOf_153 : decode cX11_proofOf 153 = .ok (.goto 4, 3) := by decide +kernel
theorem dX11_proofOf_156 : decode cX11_proofOf 156 = .ok (.iconst 1, 1) := by decide +kernel
theorem dX11_proofOf_157 : decode cX11_proofOf 157 = .ok (.dup2, 1) := by decide +kernel
theorem dX11_proofOf_158 : decode cX11_proofOf 158 = .ok (.iaload, 1) := by decide +kernel
theorem dX11_proofOf_159 : decode cX11_proofOf 159 = .ok (.iconst 1, 1) := by decide +kernel
theorem dX11_proofOf_160 : decode cX11_proofOf 160 = .ok (.iadd, 1) := by decide +kernel
theorem dX11_proofOf_161 : decode cX11_proofOf 161 = .ok (.iastore, 1) := by decide +kernel
theorem dX11_proofOf_162 : decode cX11_proofOf 162 = .ok (.iinc 3 1, 3) := by decide +kernel
theorem dX11_proofOf_165 : decode cX11_proofOf 165 = .ok (.goto (-158), 3) := by decide +kernel
theorem dX11_proofOf_168 : decode cX11_proofOf 168 = .ok (.iconst 0, 1) := by decide +kernel
theorem dX11_proofOf_169 : decode cX11_proofOf 169 = .ok (.istore_n 3, 1) := by decide +kernel
theorem dX11_proofOf_170 : decode cX11_proofOf 170 = .ok (.iload_n 3, 1) := by decide +kernel
theorem dX11_proofOf_171 : decode cX11_proofOf 171 = .ok (.iload_n 2, 1) := by decide +kernel
theorem dX11_proofOf_172 : decode cX11_proofOf 172 = .ok (.if_icmp .ge 40, 3) := by decide +kernel
theorem dX11_proofOf_175 : decode cX11_proofOf 175 = .ok (.aload_n 0, 1) := by decide +kernel
theorem dX11_proofOf_176 : decode cX11_proofOf 176 = .ok (.getfield 137, 3) := by decide +kernel
theorem dX11_proofOf_179 : decode cX11_proofOf 179 = .ok (.iload_n 3, 1) := by decide +kernel
theorem dX11_proofOf_180 : decode cX11_proofOf 180 = .ok (.iaload, 1) := by decide +kernel
theorem dX11_proofOf_181 : decode cX11_proofOf 181 = .ok (.bipush 6, 2) := by decide +kernel
theorem dX11_proofOf_183 : decode cX11_proofOf 183 = .ok (.if_icmp .ne 23, 3) := by decide +kernel
theorem dX11_proofOf_186 : decode cX11_proofOf 186 = .ok (.aload_n 0, 1) := by decide +kernel
theorem dX11_proofOf_187 : decode cX11_proofOf 187 = .ok (.getfield 140, 3) := by decide +kernel
theorem dX11_proofOf_190 : decode cX11_proofOf 190 = .ok (.iload_n 3, 1) := by decide +kernel
theorem dX11_proofOf_191 : decode cX11_proofOf 191 = .ok (.iaload, 1) := by decide +kernel
theorem dX11_proofOf_192 : decode cX11_proofOf 192 = .ok (.iload_n 1, 1) := by decide +kernel
theorem dX11_proofOf_193 : decode cX11_proofOf 193 = .ok (.if_icmp .ne 13, 3) := by decide +kernel
theorem dX11_proofOf_196 : decode cX11_proofOf 196 = .ok (.aload_n 0, 1) := by decide +kernel
theorem dX11_proofOf_197 : decode cX11_proofOf 197 = .ok (.getfield 149, 3) := by decide +kernel
theorem dX11_proofOf_200 : decode cX11_proofOf 200 = .ok (.iconst 3, 1) := by decide +kernel
theorem dX11_proofOf_201 : decode cX11_proofOf 201 = .ok (.dup2, 1) := by decide +kernel
theorem dX11_proofOf_202 : decode cX11_proofOf 202 = .ok (.iaload, 1) := by decide +kernel
theorem dX11_proofOf_203 : decode cX11_proofOf 203 = .ok (.iconst 1, 1) := by decide +kernel
theorem dX11_proofOf_204 : decode cX11_proofOf 204 = .ok (.iadd, 1) := by decide +kernel
theorem dX11_proofOf_205 : decode cX11_proofOf 205 = .ok (.iastore, 1) := by decide +kernel
theorem dX11_proofOf_206 : decode cX11_proofOf 206 = .ok (.iinc 3 1, 3) := by decide +kernel
theorem dX11_proofOf_209 : decode cX11_proofOf 209 = .ok (.goto (-39), 3) := by decide +kernel
theorem dX11_proofOf_212 : decode cX11_proofOf 212 = .ok (.aload_n 0, 1) := by decide +kernel
theorem dX11_proofOf_213 : decode cX11_proofOf 213 = .ok (.iload_n 1, 1) := by decide +kernel
theorem dX11_proofOf_214 : decode cX11_proofOf 214 = .ok (.iconst 0, 1) := by decide +kernel
theorem dX11_proofOf_215 : decode cX11_proofOf 215 = .ok (.invokevirtual 342, 3) := by decide +kernel
theorem dX11_proofOf_218 : decode cX11_proofOf 218 = .ok (.ireturn, 1) := by decide +kernel
theorem dX11_effects_0 : decode cX11_effects 0 = .ok (.aload_n 0, 1) := by decide +kernel
theorem dX11_effects_1 : decode cX11_effects 1 = .ok (.getfield 161, 3) := by decide +kernel
theorem dX11_effects_4 : decode cX11_effects 4 = .ok (.iload_n 1, 1) := by decide +kernel
theorem dX11_effects_5 : decode cX11_effects 5 = .ok (.aload_n 0, 1) := by decide +kernel
theorem dX11_effects_6 : decode cX11_effects 6 = .ok (.getfield 119, 3) := by decide +kernel
theorem dX11_effects_9 : decode cX11_effects 9 = .ok (.iload_n 1, 1) := by decide +kernel
theorem dX11_effects_10 : decode cX11_effects 10 = .ok (.iaload, 1) := by decide +kernel
theorem dX11_effects_11 : decode cX11_effects 11 = .ok (.iastore, 1) := by decide +kernel
theorem dX11_effects_12 : decode cX11_effects 12 = .ok (.aload_n 0, 1) := by decide +kernel
theorem dX11_effects_13 : decode cX11_effects 13 = .ok (.getfield 164, 3) := by decide +kernel
theorem dX11_effects_16 : decode cX11_effects 16 = .ok (.iload_n 1, 1) := by decide +kernel
theorem dX11_effects_17 : decode cX11_effects 17 = .ok (.iconst 1, 1) := by decide +kernel
theorem dX11_effects_18 : decode cX11_effects 18 = .ok (.iastore, 1) := by decide +kernel
theorem dX11_effects_19 : decode cX11_effects 19 = .ok (.aload_n 0, 1) := by decide +kernel
theorem dX11_effects_20 : decode cX11_effects 20 = .ok (.getfield 125, 3) := by decide +kernel
theorem dX11_effects_23 : decode cX11_effects 23 = .ok (.iload_n 1, 1) := by decide +kernel
theorem dX11_effects_24 : decode cX11_effects 24 = .ok (.iaload, 1) := by decide +kernel
theorem dX11_effects_25 : decode cX11_effects 25 = .ok (.iconst (-1), 1) := by decide +kernel
theorem dX11_effects_26 : decode cX11_effects 26 = .ok (.if_icmp .ne 4, 3) := by decide +kernel
theorem dX11_effects_29 : decode cX11_effects 29 = .ok (.return_, 1) := by decide +kernel
theorem dX11_effects_30 : decode cX11_effects 30 = .ok (.iconst (-1), 1) := by decide +kernel
theorem dX11_effects_31 : decode cX11_effects 31 = .ok (.istore_n 3, 1) := by decide +kernel
theorem dX11_effects_32 : decode cX11_effects 32 = .ok (.iconst 0, 1) := by decide +kernel
theorem dX11_effects_33 : decode cX11_effects 33 = .ok (.istore 4, 2) := by decide +kernel
theorem dX11_effects_35 : decode cX11_effects 35 = .ok (.iload 4, 2) := by decide +kernel
theorem dX11_effects_37 : decode cX11_effects 37 = .ok (.iload_n 2, 1) := by decide +kernel
theorem dX11_effects_38 : decode cX11_effects 38 = .ok (.if_icmp .ge 73, 3) := by decide +kernel
theorem dX11_effects_41 : decode cX11_effects 41 = .ok (.aload_n 0, 1) := by decide +kernel
theorem dX11_effects_42 : decode cX11_effects 42 = .ok (.getfield 137, 3) := by decide +kernel
theorem dX11_effects_45 : decode cX11_effects 45 = .ok (.iload 4, 2) := by decide +kernel
theorem dX11_effects_47 : decode cX11_effects 47 = .ok (.iaload, 1) := by decide +kernel
theorem dX11_effects_48 : decode cX11_effects 48 = .ok (.bipush 7, 2) := by decide +kernel
theorem dX11_effects_50 : decode cX11_effects 50 = .ok (.if_icmp .eq 15, 3) := by decide +kernel
theorem dX11_effects_53 : decode cX11_effects 53 = .ok (.aload_n 0, 1) := by decide +kernel
theorem dX11_effects_54 : decode cX11_effects 54 = .ok (.getfield 137, 3) := by decide +kernel
theorem dX11_effects_57 : decode cX11_effects 57 = .ok (.iload 4, 2) := by decide +kernel
theorem dX11_effects_59 : decode cX11_effects 59 = .ok (.iaload, 1) := by decide +kernel
theorem dX11_effects_60 : decode cX11_effects 60 = .ok (.bipush 8, 2) := by decide +kernel
theorem dX11_effects_62 : decode cX11_effects 62 = .ok (.if_icmp .ne 43, 3) := by decide +kernel
theorem dX11_effects_65 : decode cX11_effects 65 = .ok (.aload_n 0, 1) := by decide +kernel
theorem dX11_effects_66 : decode cX11_effects 66 = .ok (.getfield 140, 3) := by decide +kernel
theorem dX11_effects_69 : decode cX11_effects 69 = .ok (.iload 4, 2) := by decide +kernel
theorem dX11_effects_71 : decode cX11_effects 71 = .ok (.iaload, 1) := by decide +kernel
theorem dX11_effects_72 : decode cX11_effects 72 = .ok (.aload_n 0, 1) := by decide +kernel
theorem dX11_effects_73 : decode cX11_effects 73 = .ok (.getfield 125, 3) := by decide +kernel
theorem dX11_effects_76 : decode cX11_effects 76 = .ok (.iload_n 1, 1) := by decide +kernel
theorem dX11_effects_77 : decode cX11_effects 77 = .ok (.iaload, 1) := by decide +kernel
theorem dX11_effects_78 : decode cX11_effects 78 = .ok (.if_icmp .ne 27, 3) := by decide +kernel
theorem dX11_effects_81 : decode cX11_effects 81 = .ok (.iload_n 3, 1) := by decide +kernel
theorem dX11_effects_82 : decode cX11_effects 82 = .ok (.iconst (-1), 1) := by decide +kernel
theorem dX11_effects_83 : decode cX11_effects 83 = .ok (.if_icmp .eq 19, 3) := by decide +kernel
theorem dX11_effects_86 : decode cX11_effects 86 = .ok (.aload_n 0, 1) := by decide +kernel
theorem dX11_effects_87 : decode cX11_effects 87 = .ok (.getfield 146, 3) := by decide +kernel
theorem dX11_effects_90 : decode cX11_effects 90 = .ok (.iload 4, 2) := by decide +kernel
theorem dX11_effects_92 : decode cX11_effects 92 = .ok (.iaload, 1) := by decide +kernel
theorem dX11_effects_93 : decode cX11_effects 93 = .ok (.aload_n 0, 1) := by decide +kernel
theorem dX11_effects_94 : decode cX11_effects 94 = .ok (.getfield 146, 3) := by decide +kernel
theorem dX11_effects_97 : decode cX11_effects 97 = .ok (.iload_n 3, 1) := by decide +kernel
theorem dX11_effects_98 : decode cX11_effects 98 = .ok (.iaload, 1) := by decide +kernel
theorem dX11_effects_99 : decode cX11_effects 99 = .ok (.if_icmp .ge 6, 3) := by decide +kernel
theorem dX11_effects_102 : decode cX11_effects 102 = .ok (.iload 4, 2) := by decide +kernel
theorem dX11_effects_104 : decode cX11_effects 104 = .ok (.istore_n 3, 1) := by decide +kernel
theorem dX11_effects_105 : decode cX11_effects 105 = .ok (.iinc 4 1, 3) := by decide +kernel
theorem dX11_effects_108 : decode cX11_effects 108 = .ok (.goto (-73), 3) := by decide +kernel
theorem dX11_effects_111 : decode cX11_effects 111 = .ok (.aload_n 0, 1) := by decide +kernel
theorem dX11_effects_112 : decode cX11_effects 112 = .ok (.getfield 164, 3) := by decide +kernel
theorem dX11_effects_115 : decode cX11_effects 115 = .ok (.iload_n 1, 1) := by decide +kernel
theorem dX11_effects_116 : decode cX11_effects 116 = .ok (.iload_n 3, 1) := by decide +kernel
theorem dX11_effects_117 : decode cX11_effects 117 = .ok (.iconst (-1), 1) := by decide +kernel
theorem dX11_effects_118 : decode cX11_effects 118 = .ok (.if_icmp .ne 7, 3) := by decide +kernel
theorem dX11_effects_121 : decode cX11_effects 121 = .ok (.iconst 0, 1) := by decide +kernel
theorem dX11_effects_122 : decode cX11_effects 122 = .ok (.goto 19, 3) := by decide +kernel
theorem dX11_effects_125 : decode cX11_effects 125 = .ok (.aload_n 0, 1) := by decide +kernel
theorem dX11_effects_126 : decode cX11_effects 126 = .ok (.getfield 137, 3) := by decide +kernel
theorem dX11_effects_129 : decode cX11_effects 129 = .ok (.iload_n 3, 1) := by decide +kernel
theorem dX11_effects_130 : decode cX11_effects 130 = .ok (.iaload, 1) := by decide +kernel
theorem dX11_effects_131 : decode cX11_effects 131 = .ok (.bipush 7, 2) := by decide +kernel
theorem dX11_effects_133 : decode cX11_effects 133 = .ok (.if_icmp .ne 7, 3) := by decide +kernel
theorem dX11_effects_136 : decode cX11_effects 136 = .ok (.iconst 1, 1) := by decide +kernel
theorem dX11_effects_137 : decode cX11_effects 137 = .ok (.goto 4, 3) := by decide +kernel
theorem dX11_effects_140 : decode cX11_effects 140 = .ok (.iconst 2, 1) := by decide +kernel
theorem dX11_effects_141 : decode cX11_effects 141 = .ok (.iastore, 1) := by decide +kernel
theorem dX11_effects_142 : decode cX11_effects 142 = .ok (.iload_n 3, 1) := by decide +kernel
theorem dX11_effects_143 : decode cX11_effects 143 = .ok (.iconst (-1), 1) := by decide +kernel
theorem dX11_effects_144 : decode cX11_effects 144 = .ok (.if_icmp .ne 15, 3) := by decide +kernel
theorem dX11_effects_147 : decode cX11_effects 147 = .ok (.aload_n 0, 1) := by decide +kernel
theorem dX11_effects_148 : decode cX11_effects 148 = .ok (.getfield 161, 3) := by decide +kernel
theorem dX11_effects_151 : decode cX11_effects 151 = .ok (.iload_n 1, 1) := by decide +kernel
theorem dX11_effects_152 : decode cX11_effects 152 = .ok (.ldc_w 345, 3) := by decide +kernel
theorem dX11_effects_155 : decode cX11_effects 155 = .ok (.iastore, 1) := by decide +kernel
theorem dX11_effects_156 : decode cX11_effects 156 = .ok (.goto 30, 3) := by decide +kernel
theorem dX11_effects_159 : decode cX11_effects 159 = .ok (.aload_n 0, 1) := by decide +kernel
theorem dX11_effects_160 : decode cX11_effects 160 = .ok (.getfield 146, 3) := by decide +kernel
theorem dX11_effects_163 : decode cX11_effects 163 = .ok (.iload_n 3, 1) := by decide +kernel
theorem dX11_effects_164 : decode cX11_effects 164 = .ok (.iaload, 1) := by decide +kernel
theorem dX11_effects_165 : decode cX11_effects 165 = .ok (.aload_n 0, 1) := by decide +kernel
end
section
theorem dX11_effects_166 : decode cX11_effects 166 = .ok (.getfield 119, 3) := by decide +kernel
theorem dX11_effects_169 : decode cX11_effects 169 = .ok (.iload_n 1, 1) := by decide +kernel
theorem dX11_effects_170 : decode cX11_effects 170 = .ok (.iaload, 1) := by decide +kernel
theorem dX11_effects_171 : decode cX11_effects 171 = .ok (.if_icmp .le 15, 3) := by decide +kernel
theorem dX11_effects_174 : decode cX11_effects 174 = .ok (.aload_n 0, 1) := by decide +kernel
theorem dX11_effects_175 : decode cX11_effects 175 = .ok (.getfield 161, 3) := by decide +kernel
theorem dX11_effects_178 : decode cX11_effects 178 = .ok (.iload_n 1, 1) := by decide +kernel
theorem dX11_effects_179 : decode cX11_effects 179 = .ok (.aload_n 0, 1) := by decide +kernel
theorem dX11_effects_180 : decode cX11_effects 180 = .ok (.getfield 146, 3) := by decide +kernel
theorem dX11_effects_183 : decode cX11_effects 183 = .ok (.iload_n 3, 1) := by decide +kernel
theorem dX11_effects_184 : decode cX11_effects 184 = .ok (.iaload, 1) := by decide +kernel
theorem dX11_effects_185 : decode cX11_effects 185 = .ok (.iastore, 1) := by decide +kernel
theorem dX11_effects_186 : decode cX11_effects 186 = .ok (.return_, 1) := by decide +kernel
theorem dX11_fateOf_0 : decode cX11_fateOf 0 = .ok (.ldc_w 345, 3) := by decide +kernel
theorem dX11_fateOf_3 : decode cX11_fateOf 3 = .ok (.istore 4, 2) := by decide +kernel
theorem dX11_fateOf_5 : decode cX11_fateOf 5 = .ok (.iconst 0, 1) := by decide +kernel
theorem dX11_fateOf_6 : decode cX11_fateOf 6 = .ok (.istore 5, 2) := by decide +kernel
theorem dX11_fateOf_8 : decode cX11_fateOf 8 = .ok (.iload 5, 2) := by decide +kernel
theorem dX11_fateOf_10 : decode cX11_fateOf 10 = .ok (.iload_n 3, 1) := by decide +kernel
theorem dX11_fateOf_11 : decode cX11_fateOf 11 = .ok (.if_icmp .ge 73, 3) := by decide +kernel
theorem dX11_fateOf_14 : decode cX11_fateOf 14 = .ok (.aload_n 0, 1) := by decide +kernel
theorem dX11_fateOf_15 : decode cX11_fateOf 15 = .ok (.getfield 137, 3) := by decide +kernel
theorem dX11_fateOf_18 : decode cX11_fateOf 18 = .ok (.iload 5, 2) := by decide +kernel
theorem dX11_fateOf_20 : decode cX11_fateOf 20 = .ok (.iaload, 1) := by decide +kernel
theorem dX11_fateOf_21 : decode cX11_fateOf 21 = .ok (.iload_n 2, 1) := by decide +kernel
theorem dX11_fateOf_22 : decode cX11_fateOf 22 = .ok (.if_icmp .ne 56, 3) := by decide +kernel
theorem dX11_fateOf_25 : decode cX11_fateOf 25 = .ok (.aload_n 0, 1) := by decide +kernel
theorem dX11_fateOf_26 : decode cX11_fateOf 26 = .ok (.getfield 140, 3) := by decide +kernel
theorem dX11_fateOf_29 : decode cX11_fateOf 29 = .ok (.iload 5, 2) := by decide +kernel
theorem dX11_fateOf_31 : decode cX11_fateOf 31 = .ok (.iaload, 1) := by decide +kernel
theorem dX11_fateOf_32 : decode cX11_fateOf 32 = .ok (.aload_n 0, 1) := by decide +kernel
theorem dX11_fateOf_33 : decode cX11_fateOf 33 = .ok (.getfield 110, 3) := by decide +kernel
theorem dX11_fateOf_36 : decode cX11_fateOf 36 = .ok (.iload_n 1, 1) := by decide +kernel
theorem dX11_fateOf_37 : decode cX11_fateOf 37 = .ok (.iaload, 1) := by decide +kernel
theorem dX11_fateOf_38 : decode cX11_fateOf 38 = .ok (.if_icmp .eq 19, 3) := by decide +kernel
theorem dX11_fateOf_41 : decode cX11_fateOf 41 = .ok (.aload_n 0, 1) := by decide +kernel
theorem dX11_fateOf_42 : decode cX11_fateOf 42 = .ok (.getfield 140, 3) := by decide +kernel
theorem dX11_fateOf_45 : decode cX11_fateOf 45 = .ok (.iload 5, 2) := by decide +kernel
theorem dX11_fateOf_47 : decode cX11_fateOf 47 = .ok (.iaload, 1) := by decide +kernel
theorem dX11_fateOf_48 : decode cX11_fateOf 48 = .ok (.aload_n 0, 1) := by decide +kernel
theorem dX11_fateOf_49 : decode cX11_fateOf 49 = .ok (.getfield 113, 3) := by decide +kernel
theorem dX11_fateOf_52 : decode cX11_fateOf 52 = .ok (.iload_n 1, 1) := by decide +kernel
theorem dX11_fateOf_53 : decode cX11_fateOf 53 = .ok (.iaload, 1) := by decide +kernel
theorem dX11_fateOf_54 : decode cX11_fateOf 54 = .ok (.if_icmp .ne 24, 3) := by decide +kernel
theorem dX11_fateOf_57 : decode cX11_fateOf 57 = .ok (.aload_n 0, 1) := by decide +kernel
theorem dX11_fateOf_58 : decode cX11_fateOf 58 = .ok (.getfield 146, 3) := by decide +kernel
theorem dX11_fateOf_61 : decode cX11_fateOf 61 = .ok (.iload 5, 2) := by decide +kernel
theorem dX11_fateOf_63 : decode cX11_fateOf 63 = .ok (.iaload, 1) := by decide +kernel
theorem dX11_fateOf_64 : decode cX11_fateOf 64 = .ok (.iload 4, 2) := by decide +kernel
theorem dX11_fateOf_66 : decode cX11_fateOf 66 = .ok (.if_icmp .ge 12, 3) := by decide +kernel
theorem dX11_fateOf_69 : decode cX11_fateOf 69 = .ok (.aload_n 0, 1) := by decide +kernel
theorem dX11_fateOf_70 : decode cX11_fateOf 70 = .ok (.getfield 146, 3) := by decide +kernel
theorem dX11_fateOf_73 : decode cX11_fateOf 73 = .ok (.iload 5, 2) := by decide +kernel
theorem dX11_fateOf_75 : decode cX11_fateOf 75 = .ok (.iaload, 1) := by decide +kernel
theorem dX11_fateOf_76 : decode cX11_fateOf 76 = .ok (.istore 4, 2) := by decide +kernel
theorem dX11_fateOf_78 : decode cX11_fateOf 78 = .ok (.iinc 5 1, 3) := by decide +kernel
theorem dX11_fateOf_81 : decode cX11_fateOf 81 = .ok (.goto (-73), 3) := by decide +kernel
theorem dX11_fateOf_84 : decode cX11_fateOf 84 = .ok (.iload 4, 2) := by decide +kernel
theorem dX11_fateOf_86 : decode cX11_fateOf 86 = .ok (.ireturn, 1) := by decide +kernel
theorem dX11_lapseOf_0 : decode cX11_lapseOf 0 = .ok (.aload_n 0, 1) := by decide +kernel
theorem dX11_lapseOf_1 : decode cX11_lapseOf 1 = .ok (.iload_n 1, 1) := by decide +kernel
theorem dX11_lapseOf_2 : decode cX11_lapseOf 2 = .ok (.invokevirtual 326, 3) := by decide +kernel
theorem dX11_lapseOf_5 : decode cX11_lapseOf 5 = .ok (.istore_n 3, 1) := by decide +kernel
theorem dX11_lapseOf_6 : decode cX11_lapseOf 6 = .ok (.iconst (-1), 1) := by decide +kernel
theorem dX11_lapseOf_7 : decode cX11_lapseOf 7 = .ok (.istore 4, 2) := by decide +kernel
theorem dX11_lapseOf_9 : decode cX11_lapseOf 9 = .ok (.iconst 0, 1) := by decide +kernel
theorem dX11_lapseOf_10 : decode cX11_lapseOf 10 = .ok (.istore 5, 2) := by decide +kernel
theorem dX11_lapseOf_12 : decode cX11_lapseOf 12 = .ok (.iload_n 3, 1) := by decide +kernel
theorem dX11_lapseOf_13 : decode cX11_lapseOf 13 = .ok (.iconst (-1), 1) := by decide +kernel
theorem dX11_lapseOf_14 : decode cX11_lapseOf 14 = .ok (.if_icmp .eq 56, 3) := by decide +kernel
theorem dX11_lapseOf_17 : decode cX11_lapseOf 17 = .ok (.iload 5, 2) := by decide +kernel
theorem dX11_lapseOf_19 : decode cX11_lapseOf 19 = .ok (.aload_n 0, 1) := by decide +kernel
theorem dX11_lapseOf_20 : decode cX11_lapseOf 20 = .ok (.getfield 46, 3) := by decide +kernel
theorem dX11_lapseOf_23 : decode cX11_lapseOf 23 = .ok (.iload_n 3, 1) := by decide +kernel
theorem dX11_lapseOf_24 : decode cX11_lapseOf 24 = .ok (.iaload, 1) := by decide +kernel
theorem dX11_lapseOf_25 : decode cX11_lapseOf 25 = .ok (.if_icmp .ge 45, 3) := by decide +kernel
theorem dX11_lapseOf_28 : decode cX11_lapseOf 28 = .ok (.iload 4, 2) := by decide +kernel
theorem dX11_lapseOf_30 : decode cX11_lapseOf 30 = .ok (.iconst (-1), 1) := by decide +kernel
theorem dX11_lapseOf_31 : decode cX11_lapseOf 31 = .ok (.if_icmp .ne 39, 3) := by decide +kernel
theorem dX11_lapseOf_34 : decode cX11_lapseOf 34 = .ok (.aload_n 0, 1) := by decide +kernel
theorem dX11_lapseOf_35 : decode cX11_lapseOf 35 = .ok (.getfield 49, 3) := by decide +kernel
theorem dX11_lapseOf_38 : decode cX11_lapseOf 38 = .ok (.bipush 16, 2) := by decide +kernel
theorem dX11_lapseOf_40 : decode cX11_lapseOf 40 = .ok (.iload_n 3, 1) := by decide +kernel
theorem dX11_lapseOf_41 : decode cX11_lapseOf 41 = .ok (.imul, 1) := by decide +kernel
theorem dX11_lapseOf_42 : decode cX11_lapseOf 42 = .ok (.iload 5, 2) := by decide +kernel
theorem dX11_lapseOf_44 : decode cX11_lapseOf 44 = .ok (.iadd, 1) := by decide +kernel
theorem dX11_lapseOf_45 : decode cX11_lapseOf 45 = .ok (.iaload, 1) := by decide +kernel
theorem dX11_lapseOf_46 : decode cX11_lapseOf 46 = .ok (.iconst 3, 1) := by decide +kernel
theorem dX11_lapseOf_47 : decode cX11_lapseOf 47 = .ok (.if_icmp .ne 17, 3) := by decide +kernel
theorem dX11_lapseOf_50 : decode cX11_lapseOf 50 = .ok (.aload_n 0, 1) := by decide +kernel
theorem dX11_lapseOf_51 : decode cX11_lapseOf 51 = .ok (.getfield 52, 3) := by decide +kernel
theorem dX11_lapseOf_54 : decode cX11_lapseOf 54 = .ok (.bipush 16, 2) := by decide +kernel
theorem dX11_lapseOf_56 : decode cX11_lapseOf 56 = .ok (.iload_n 3, 1) := by decide +kernel
theorem dX11_lapseOf_57 : decode cX11_lapseOf 57 = .ok (.imul, 1) := by decide +kernel
theorem dX11_lapseOf_58 : decode cX11_lapseOf 58 = .ok (.iload 5, 2) := by decide +kernel
theorem dX11_lapseOf_60 : decode cX11_lapseOf 60 = .ok (.iadd, 1) := by decide +kernel
theorem dX11_lapseOf_61 : decode cX11_lapseOf 61 = .ok (.iaload, 1) := by decide +kernel
theorem dX11_lapseOf_62 : decode cX11_lapseOf 62 = .ok (.istore 4, 2) := by decide +kernel
theorem dX11_lapseOf_64 : decode cX11_lapseOf 64 = .ok (.iinc 5 1, 3) := by decide +kernel
theorem dX11_lapseOf_67 : decode cX11_lapseOf 67 = .ok (.goto (-55), 3) := by decide +kernel
theorem dX11_lapseOf_70 : decode cX11_lapseOf 70 = .ok (.iload 4, 2) := by decide +kernel
theorem dX11_lapseOf_72 : decode cX11_lapseOf 72 = .ok (.iconst (-1), 1) := by decide +kernel
theorem dX11_lapseOf_73 : decode cX11_lapseOf 73 = .ok (.if_icmp .ne 7, 3) := by decide +kernel
theorem dX11_lapseOf_76 : decode cX11_lapseOf 76 = .ok (.ldc_w 345, 3) := by decide +kernel
theorem dX11_lapseOf_79 : decode cX11_lapseOf 79 = .ok (.ireturn, 1) := by decide +kernel
theorem dX11_lapseOf_80 : decode cX11_lapseOf 80 = .ok (.ldc_w 345, 3) := by decide +kernel
theorem dX11_lapseOf_83 : decode cX11_lapseOf 83 = .ok (.istore 5, 2) := by decide +kernel
theorem dX11_lapseOf_85 : decode cX11_lapseOf 85 = .ok (.iconst 0, 1) := by decide +kernel
theorem dX11_lapseOf_86 : decode cX11_lapseOf 86 = .ok (.istore 6, 2) := by decide +kernel
theorem dX11_lapseOf_88 : decode cX11_lapseOf 88 = .ok (.iload 6, 2) := by decide +kernel
theorem dX11_lapseOf_90 : decode cX11_lapseOf 90 = .ok (.iload_n 2, 1) := by decide +kernel
theorem dX11_lapseOf_91 : decode cX11_lapseOf 91 = .ok (.if_icmp .ge 201, 3) := by decide +kernel
theorem dX11_lapseOf_94 : decode cX11_lapseOf 94 = .ok (.aload_n 0, 1) := by decide +kernel
theorem dX11_lapseOf_95 : decode cX11_lapseOf 95 = .ok (.getfield 137, 3) := by decide +kernel
theorem dX11_lapseOf_98 : decode cX11_lapseOf 98 = .ok (.iload 6, 2) := by decide +kernel
theorem dX11_lapseOf_100 : decode cX11_lapseOf 100 = .ok (.iaload, 1) := by decide +kernel
theorem dX11_lapseOf_101 : decode cX11_lapseOf 101 = .ok (.iconst 2, 1) := by decide +kernel
theorem dX11_lapseOf_102 : decode cX11_lapseOf 102 = .ok (.if_icmp .ne 184, 3) := by decide +kernel
theorem dX11_lapseOf_105 : decode cX11_lapseOf 105 = .ok (.aload_n 0, 1) := by decide +kernel
theorem dX11_lapseOf_106 : decode cX11_lapseOf 106 = .ok (.getfield 140, 3) := by decide +kernel
theorem dX11_lapseOf_109 : decode cX11_lapseOf 109 = .ok (.iload 6, 2) := by decide +kernel
theorem dX11_lapseOf_111 : decode cX11_lapseOf 111 = .ok (.iaload, 1) := by decide +kernel
theorem dX11_lapseOf_112 : decode cX11_lapseOf 112 = .ok (.aload_n 0, 1) := by decide +kernel
theorem dX11_lapseOf_113 : decode cX11_lapseOf 113 = .ok (.getfield 110, 3) := by decide +kernel
theorem dX11_lapseOf_116 : decode cX11_lapseOf 116 = .ok (.iload_n 1, 1) := by decide +kernel
theorem dX11_lapseOf_117 : decode cX11_lapseOf 117 = .ok (.iaload, 1) := by decide +kernel
theorem dX11_lapseOf_118 : decode cX11_lapseOf 118 = .ok (.if_icmp .eq 22, 3) := by decide +kernel
theorem dX11_lapseOf_121 : decode cX11_lapseOf 121 = .ok (.aload_n 0, 1) := by decide +kernel
theorem dX11_lapseOf_122 : decode cX11_lapseOf 122 = .ok (.getfield 140, 3) := by decide +kernel
theorem dX11_lapseOf_125 : decode cX11_lapseOf 125 = .ok (.iload 6, 2) := by decide +kernel
theorem dX11_lapseOf_127 : decode cX11_lapseOf 127 = .ok (.iaload, 1) := by decide +kernel
theorem dX11_lapseOf_128 : decode cX11_lapseOf 128 = .ok (.aload_n 0, 1) := by decide +kernel
theorem dX11_lapseOf_129 : decode cX11_lapseOf 129 = .ok (.getfield 113, 3) := by decide +kernel
theorem dX11_lapseOf_132 : decode cX11_lapseOf 132 = .ok (.iload_n 1, 1) := by decide +kernel
theorem dX11_lapseOf_133 : decode cX11_lapseOf 133 = .ok (.iaload, 1) := by decide +kernel
theorem dX11_lapseOf_134 : decode cX11_lapseOf 134 = .ok (.if_icmp .eq 6, 3) := by decide +kernel
theorem dX11_lapseOf_137 : decode cX11_lapseOf 137 = .ok (.goto 149, 3) := by decide +kernel
theorem dX11_lapseOf_140 : decode cX11_lapseOf 140 = .ok (.aload_n 0, 1) := by decide +kernel
theorem dX11_lapseOf_141 : decode cX11_lapseOf 141 = .ok (.getfield 146, 3) := by decide +kernel
theorem dX11_lapseOf_144 : decode cX11_lapseOf 144 = .ok (.iload 6, 2) := by decide +kernel
theorem dX11_lapseOf_146 : decode cX11_lapseOf 146 = .ok (.iaload, 1) := by decide +kernel
theorem dX11_lapseOf_147 : decode cX11_lapseOf 147 = .ok (.iload 4, 2) := by decide +kernel
theorem dX11_lapseOf_149 : decode cX11_lapseOf 149 = .ok (.iadd, 1) := by decide +kernel
theorem dX11_lapseOf_150 : decode cX11_lapseOf 150 = .ok (.aload_n 0, 1) := by decide +kernel
theorem dX11_lapseOf_151 : decode cX11_lapseOf 151 = .ok (.getfield 161, 3) := by decide +kernel
theorem dX11_lapseOf_154 : decode cX11_lapseOf 154 = .ok (.iload_n 1, 1) := by decide +kernel
theorem dX11_lapseOf_155 : decode cX11_lapseOf 155 = .ok (.iaload, 1) := by decide +kernel
theorem dX11_lapseOf_156 : decode cX11_lapseOf 156 = .ok (.if_icmp .le 16, 3) := by decide +kernel
theorem dX11_lapseOf_159 : decode cX11_lapseOf 159 = .ok (.aload_n 0, 1) := by decide +kernel
theorem dX11_lapseOf_160 : decode cX11_lapseOf 160 = .ok (.getfield 146, 3) := by decide +kernel
theorem dX11_lapseOf_163 : decode cX11_lapseOf 163 = .ok (.iload 6, 2) := by decide +kernel
theorem dX11_lapseOf_165 : decode cX11_lapseOf 165 = .ok (.iaload, 1) := by decide +kernel
theorem dX11_lapseOf_166 : decode cX11_lapseOf 166 = .ok (.iload 4, 2) := by decide +kernel
theorem dX11_lapseOf_168 : decode cX11_lapseOf 168 = .ok (.iadd, 1) := by decide +kernel
theorem dX11_lapseOf_169 : decode cX11_lapseOf 169 = .ok (.goto 9, 3) := by decide +kernel
theorem dX11_lapseOf_172 : decode cX11_lapseOf 172 = .ok (.aload_n 0, 1) := by decide +kernel
theorem dX11_lapseOf_173 : decode cX11_lapseOf 173 = .ok (.getfield 161, 3) := by decide +kernel
theorem dX11_lapseOf_176 : decode cX11_lapseOf 176 = .ok (.iload_n 1, 1) := by decide +kernel
theorem dX11_lapseOf_177 : decode cX11_lapseOf 177 = .ok (.iaload, 1) := by decide +kernel
theorem dX11_lapseOf_178 : decode cX11_lapseOf 178 = .ok (.istore 7, 2) := by decide +kernel
theorem dX11_lapseOf_180 : decode cX11_lapseOf 180 = .ok (.iload 7, 2) := by decide +kernel
theorem dX11_lapseOf_182 : decode cX11_lapseOf 182 = .ok (.sipush 9999, 3) := by decide +kernel
theorem dX11_lapseOf_185 : decode cX11_lapseOf 185 = .ok (.if_icmp .le 7, 3) := by decide +kernel
theorem dX11_lapseOf_188 : decode cX11_lapseOf 188 = .ok (.iconst 1, 1) := by decide +kernel
theorem dX11_lapseOf_189 : decode cX11_lapseOf 189 = .ok (.goto 4, 3) := by decide +kernel
theorem dX11_lapseOf_192 : decode cX11_lapseOf 192 = .ok (.iconst 0, 1) := by decide +kernel
theorem dX11_lapseOf_193 : decode cX11_lapseOf 193 = .ok (.istore 8, 2) := by decide +kernel
theorem dX11_lapseOf_195 : decode cX11_lapseOf 195 = .ok (.iconst 0, 1) := by decide +kernel
theorem dX11_lapseOf_196 : decode cX11_lapseOf 196 = .ok (.istore 9, 2) := by decide +kernel
theorem dX11_lapseOf_198 : decode cX11_lapseOf 198 = .ok (.iload 9, 2) := by decide +kernel
theorem dX11_lapseOf_200 : decode cX11_lapseOf 200 = .ok (.iload_n 2, 1) := by decide +kernel
theorem dX11_lapseOf_201 : decode cX11_lapseOf 201 = .ok (.if_icmp .ge 69, 3) := by decide +kernel
theorem dX11_lapseOf_204 : decode cX11_lapseOf 204 = .ok (.aload_n 0, 1) := by decide +kernel
theorem dX11_lapseOf_205 : decode cX11_lapseOf 205 = .ok (.getfield 137, 3) := by decide +kernel
theorem dX11_lapseOf_208 : decode cX11_lapseOf 208 = .ok (.iload 9, 2) := by decide +kernel
theorem dX11_lapseOf_210 : decode cX11_lapseOf 210 = .ok (.iaload, 1) := by decide +kernel
theorem dX11_lapseOf_211 : decode cX11_lapseOf 211 = .ok (.iconst 3, 1) := by decide +kernel
theorem dX11_lapseOf_212 : decode cX11_lapseOf 212 = .ok (.if_icmp .ne 52, 3) := by decide +kernel
theorem dX11_lapseOf_215 : decode cX11_lapseOf 215 = .ok (.aload_n 0, 1) := by decide +kernel
theorem dX11_lapseOf_216 : decode cX11_lapseOf 216 = .ok (.getfield 140, 3) := by decide +kernel
theorem dX11_lapseOf_219 : decode cX11_lapseOf 219 = .ok (.iload 9, 2) := by decide +kernel
theorem dX11_lapseOf_221 : decode cX11_lapseOf 221 = .ok (.iaload, 1) := by decide +kernel
theorem dX11_lapseOf_222 : decode cX11_lapseOf 222 = .ok (.aload_n 0, 1) := by decide +kernel
theorem dX11_lapseOf_223 : decode cX11_lapseOf 223 = .ok (.getfield 140, 3) := by decide +kernel
theorem dX11_lapseOf_226 : decode cX11_lapseOf 226 = .ok (.iload 6, 2) := by decide +kernel
theorem dX11_lapseOf_228 : decode cX11_lapseOf 228 = .ok (.iaload, 1) := by decide +kernel
theorem dX11_lapseOf_229 : decode cX11_lapseOf 229 = .ok (.if_icmp .ne 35, 3) := by decide +kernel
theorem dX11_lapseOf_232 : decode cX11_lapseOf 232 = .ok (.aload_n 0, 1) := by decide +kernel
theorem dX11_lapseOf_233 : decode cX11_lapseOf 233 = .ok (.getfield 146, 3) := by decide +kernel
theorem dX11_lapseOf_236 : decode cX11_lapseOf 236 = .ok (.iload 9, 2) := by decide +kernel
theorem dX11_lapseOf_238 : decode cX11_lapseOf 238 = .ok (.iaload, 1) := by decide +kernel
theorem dX11_lapseOf_239 : decode cX11_lapseOf 239 = .ok (.aload_n 0, 1) := by decide +kernel
theorem dX11_lapseOf_240 : decode cX11_lapseOf 240 = .ok (.getfield 146, 3) := by decide +kernel
theorem dX11_lapseOf_243 : decode cX11_lapseOf 243 = .ok (.iload 6, 2) := by decide +kernel
theorem dX11_lapseOf_245 : decode cX11_lapseOf 245 = .ok (.iaload, 1) := by decide +kernel
theorem dX11_lapseOf_246 : decode cX11_lapseOf 246 = .ok (.if_icmp .lt 18, 3) := by decide +kernel
theorem dX11_lapseOf_249 : decode cX11_lapseOf 249 = .ok (.aload_n 0, 1) := by decide +kernel
theorem dX11_lapseOf_250 : decode cX11_lapseOf 250 = .ok (.getfield 146, 3) := by decide +kernel
theorem dX11_lapseOf_253 : decode cX11_lapseOf 253 = .ok (.iload 9, 2) := by decide +kernel
theorem dX11_lapseOf_255 : decode cX11_lapseOf 255 = .ok (.iaload, 1) := by decide +kernel
theorem dX11_lapseOf_256 : decode cX11_lapseOf 256 = .ok (.iload 7, 2) := by decide +kernel
theorem dX11_lapseOf_258 : decode cX11_lapseOf 258 = .ok (.if_icmp .gt 6, 3) := by decide +kernel
theorem dX11_lapseOf_261 : decode cX11_lapseOf 261 = .ok (.iconst 1, 1) := by decide +kernel
theorem dX11_lapseOf_262 : decode cX11_lapseOf 262 = .ok (.istore 8, 2) := by decide +kernel
theorem dX11_lapseOf_264 : decode cX11_lapseOf 264 = .ok (.iinc 9 1, 3) := by decide +kernel
theorem dX11_lapseOf_267 : decode cX11_lapseOf 267 = .ok (.goto (-69), 3) := by decide +kernel
theorem dX11_lapseOf_270 : decode cX11_lapseOf 270 = .ok (.iload 8, 2) := by decide +kernel
theorem dX11_lapseOf_272 : decode cX11_lapseOf 272 = .ok (.ifCond .ne 14, 3) := by decide +kernel
theorem dX11_lapseOf_275 : decode cX11_lapseOf 275 = .ok (.iload 7, 2) := by decide +kernel
theorem dX11_lapseOf_277 : decode cX11_lapseOf 277 = .ok (.iload 5, 2) := by decide +kernel
theorem dX11_lapseOf_279 : decode cX11_lapseOf 279 = .ok (.if_icmp .ge 7, 3) := by decide +kernel
theorem dX11_lapseOf_282 : decode cX11_lapseOf 282 = .ok (.iload 7, 2) := by decide +kernel
theorem dX11_lapseOf_284 : decode cX11_lapseOf 284 = .ok (.istore 5, 2) := by decide +kernel
theorem dX11_lapseOf_286 : decode cX11_lapseOf 286 = .ok (.iinc 6 1, 3) := by decide +kernel
theorem dX11_lapseOf_289 : decode cX11_lapseOf 289 = .ok (.goto (-201), 3) := by decide +kernel
theorem dX11_lapseOf_292 : decode cX11_lapseOf 292 = .ok (.iload 5, 2) := by decide +kernel
theorem dX11_lapseOf_294 : decode cX11_lapseOf 294 = .ok (.ireturn, 1) := by decide +kernel
theorem dX11_vows_0 : decode cX11_vows 0 = .ok (.iconst 0, 1) := by decide +kernel
theorem dX11_vows_1 : decode cX11_vows 1 = .ok (.istore 4, 2) := by decide +kernel
theorem dX11_vows_3 : decode cX11_vows 3 = .ok (.iload 4, 2) := by decide +kernel
theorem dX11_vows_5 : decode cX11_vows 5 = .ok (.iload_n 3, 1) := by decide +kernel
theorem dX11_vows_6 : decode cX11_vows 6 = .ok (.if_icmp .ge 44, 3) := by decide +kernel
theorem dX11_vows_9 : decode cX11_vows 9 = .ok (.aload_n 0, 1) := by decide +kernel
theorem dX11_vows_10 : decode cX11_vows 10 = .ok (.getfield 137, 3) := by decide +kernel
theorem dX11_vows_13 : decode cX11_vows 13 = .ok (.iload 4, 2) := by decide +kernel
theorem dX11_vows_15 : decode cX11_vows 15 = .ok (.iaload, 1) := by decide +kernel
theorem dX11_vows_16 : decode cX11_vows 16 = .ok (.iconst 1, 1) := by decide +kernel
theorem dX11_vows_17 : decode cX11_vows 17 = .ok (.if_icmp .ne 27, 3) := by decide +kernel
theorem dX11_vows_20 : decode cX11_vows 20 = .ok (.aload_n 0, 1) := by decide +kernel
theorem dX11_vows_21 : decode cX11_vows 21 = .ok (.getfield 140, 3) := by decide +kernel
theorem dX11_vows_24 : decode cX11_vows 24 = .ok (.iload 4, 2) := by decide +kernel
theorem dX11_vows_26 : decode cX11_vows 26 = .ok (.iaload, 1) := by decide +kernel
theorem dX11_vows_27 : decode cX11_vows 27 = .ok (.iload_n 1, 1) := by decide +kernel
theorem dX11_vows_28 : decode cX11_vows 28 = .ok (.if_icmp .ne 16, 3) := by decide +kernel
theorem dX11_vows_31 : decode cX11_vows 31 = .ok (.aload_n 0, 1) := by decide +kernel
theorem dX11_vows_32 : decode cX11_vows 32 = .ok (.getfield 146, 3) := by decide +kernel
theorem dX11_vows_35 : decode cX11_vows 35 = .ok (.iload 4, 2) := by decide +kernel
theorem dX11_vows_37 : decode cX11_vows 37 = .ok (.iaload, 1) := by decide +kernel
theorem dX11_vows_38 : decode cX11_vows 38 = .ok (.iload_n 2, 1) := by decide +kernel
theorem dX11_vows_39 : decode cX11_vows 39 = .ok (.if_icmp .gt 5, 3) := by decide +kernel
theorem dX11_vows_42 : decode cX11_vows 42 = .ok (.iconst 1, 1) := by decide +kernel
theorem dX11_vows_43 : decode cX11_vows 43 = .ok (.ireturn, 1) := by decide +kernel
theorem dX11_vows_44 : decode cX11_vows 44 = .ok (.iinc 4 1, 3) := by decide +kernel
theorem dX11_vows_47 : decode cX11_vows 47 = .ok (.goto (-44), 3) := by decide +kernel
theorem dX11_vows_50 : decode cX11_vows 50 = .ok (.iconst 0, 1) := by decide +kernel
theorem dX11_vows_51 : decode cX11_vows 51 = .ok (.ireturn, 1) := by decide +kernel
theorem dX11_barOf_0 : decode cX11_barOf 0 = .ok (.aload_n 0, 1) := by decide +kernel
theorem dX11_barOf_1 : decode cX11_barOf 1 = .ok (.iload_n 1, 1) := by decide +kernel
theorem dX11_barOf_2 : decode cX11_barOf 2 = .ok (.iconst 0, 1) := by decide +kernel
theorem dX11_barOf_3 : decode cX11_barOf 3 = .ok (.iload_n 2, 1) := by decide +kernel
theorem dX11_barOf_4 : decode cX11_barOf 4 = .ok (.invokevirtual 346, 3) := by decide +kernel
theorem dX11_barOf_7 : decode cX11_barOf 7 = .ok (.aload_n 0, 1) := by decide +kernel
theorem dX11_barOf_8 : decode cX11_barOf 8 = .ok (.getfield 161, 3) := by decide +kernel
theorem dX11_barOf_11 : decode cX11_barOf 11 = .ok (.iload_n 1, 1) := by decide +kernel
theorem dX11_barOf_12 : decode cX11_barOf 12 = .ok (.iaload, 1) := by decide +kernel
theorem dX11_barOf_13 : decode cX11_barOf 13 = .ok (.if_icmp .gt 6, 3) := by decide +kernel
theorem dX11_barOf_16 : decode cX11_barOf 16 = .ok (.bipush (-2), 2) := by decide +kernel
theorem dX11_barOf_18 : decode cX11_barOf 18 = .ok (.ireturn, 1) := by decide +kernel
theorem dX11_barOf_19 : decode cX11_barOf 19 = .ok (.aload_n 0, 1) := by decide +kernel
theorem dX11_barOf_20 : decode cX11_barOf 20 = .ok (.iload_n 1, 1) := by decide +kernel
theorem dX11_barOf_21 : decode cX11_barOf 21 = .ok (.invokevirtual 336, 3) := by decide +kernel
theorem dX11_barOf_24 : decode cX11_barOf 24 = .ok (.aload_n 0, 1) := by decide +kernel
theorem dX11_barOf_25 : decode cX11_barOf 25 = .ok (.getfield 101, 3) := by decide +kernel
theorem dX11_barOf_28 : decode cX11_barOf 28 = .ok (.aload_n 0, 1) := by decide +kernel
theorem dX11_barOf_29 : decode cX11_barOf 29 = .ok (.getfield 110, 3) := by decide +kernel
theorem dX11_barOf_32 : decode cX11_barOf 32 = .ok (.iload_n 1, 1) := by decide +kernel
theorem dX11_barOf_33 : decode cX11_barOf 33 = .ok (.iaload, 1) := by decide +kernel
theorem dX11_barOf_34 : decode cX11_barOf 34 = .ok (.iaload, 1) := by decide +kernel
theorem dX11_barOf_35 : decode cX11_barOf 35 = .ok (.aload_n 0, 1) := by decide +kernel
theorem dX11_barOf_36 : decode cX11_barOf 36 = .ok (.getfield 101, 3) := by decide +kernel
theorem dX11_barOf_39 : decode cX11_barOf 39 = .ok (.aload_n 0, 1) := by decide +kernel
theorem dX11_barOf_40 : decode cX11_barOf 40 = .ok (.getfield 113, 3) := by decide +kernel
theorem dX11_barOf_43 : decode cX11_barOf 43 = .ok (.iload_n 1, 1) := by decide +kernel
theorem dX11_barOf_44 : decode cX11_barOf 44 = .ok (.iaload, 1) := by decide +kernel
theorem dX11_barOf_45 : decode cX11_barOf 45 = .ok (.iaload, 1) := by decide +kernel
theorem dX11_barOf_46 : decode cX11_barOf 46 = .ok (.if_icmp .le 17, 3) := by decide +kernel
theorem dX11_barOf_49 : decode cX11_barOf 49 = .ok (.aload_n 0, 1) := by decide +kernel
theorem dX11_barOf_50 : decode cX11_barOf 50 = .ok (.getfield 101, 3) := by decide +kernel
theorem dX11_barOf_53 : decode cX11_barOf 53 = .ok (.aload_n 0, 1) := by decide +kernel
theorem dX11_barOf_54 : decode cX11_barOf 54 = .ok (.getfield 110, 3) := by decide +kernel
theorem dX11_barOf_57 : decode cX11_barOf 57 = .ok (.iload_n 1, 1) := by decide +kernel
theorem dX11_barOf_58 : decode cX11_barOf 58 = .ok (.iaload, 1) := by decide +kernel
theorem dX11_barOf_59 : decode cX11_barOf 59 = .ok (.iaload, 1) := by decide +kernel
theorem dX11_barOf_60 : decode cX11_barOf 60 = .ok (.goto 14, 3) := by decide +kernel
theorem dX11_barOf_63 : decode cX11_barOf 63 = .ok (.aload_n 0, 1) := by decide +kernel
theorem dX11_barOf_64 : decode cX11_barOf 64 = .ok (.getfield 101, 3) := by decide +kernel
theorem dX11_barOf_67 : decode cX11_barOf 67 = .ok (.aload_n 0, 1) := by decide +kernel
theorem dX11_barOf_68 : decode cX11_barOf 68 = .ok (.getfield 113, 3) := by decide +kernel
theorem dX11_barOf_71 : decode cX11_barOf 71 = .ok (.iload_n 1, 1) := by decide +kernel
theorem dX11_barOf_72 : decode cX11_barOf 72 = .ok (.iaload, 1) := by decide +kernel
theorem dX11_barOf_73 : decode cX11_barOf 73 = .ok (.iaload, 1) := by decide +kernel
theorem dX11_barOf_74 : decode cX11_barOf 74 = .ok (.istore_n 3, 1) := by decide +kernel
theorem dX11_barOf_75 : decode cX11_barOf 75 = .ok (.aload_n 0, 1) := by decide +kernel
theorem dX11_barOf_76 : decode cX11_barOf 76 = .ok (.getfield 149, 3) := by decide +kernel
theorem dX11_barOf_79 : decode cX11_barOf 79 = .ok (.iconst 5, 1) := by decide +kernel
theorem dX11_barOf_80 : decode cX11_barOf 80 = .ok (.aload_n 0, 1) := by decide +kernel
theorem dX11_barOf_81 : decode cX11_barOf 81 = .ok (.getfield 161, 3) := by decide +kernel
theorem dX11_barOf_84 : decode cX11_barOf 84 = .ok (.iload_n 1, 1) := by decide +kernel
theorem dX11_barOf_85 : decode cX11_barOf 85 = .ok (.iaload, 1) := by decide +kernel
theorem dX11_barOf_86 : decode cX11_barOf 86 = .ok (.iload_n 3, 1) := by decide +kernel
theorem dX11_barOf_87 : decode cX11_barOf 87 = .ok (.if_icmp .ge 7, 3) := by decide +kernel
theorem dX11_barOf_90 : decode cX11_barOf 90 = .ok (.iconst 0, 1) := by decide +kernel
theorem dX11_barOf_91 : decode cX11_barOf 91 = .ok (.goto 15, 3) := by decide +kernel
theorem dX11_barOf_94 : decode cX11_barOf 94 = .ok (.aload_n 0, 1) := by decide +kernel
theorem dX11_barOf_95 : decode cX11_barOf 95 = .ok (.getfield 161, 3) := by decide +kernel
theorem dX11_barOf_98 : decode cX11_barOf 98 = .ok (.iload_n 1, 1) := by decide +kernel
theorem dX11_barOf_99 : decode cX11_barOf 99 = .ok (.iaload, 1) := by decide +kernel
theorem dX11_barOf_100 : decode cX11_barOf 100 = .ok (.iload_n 3, 1) := by decide +kernel
theorem dX11_barOf_101 : decode cX11_barOf 101 = .ok (.isub, 1) := by decide +kernel
theorem dX11_barOf_102 : decode cX11_barOf 102 = .ok (.sipush 365, 3) := by decide +kernel
theorem dX11_barOf_105 : decode cX11_barOf 105 = .ok (.idiv, 1) := by decide +kernel
theorem dX11_barOf_106 : decode cX11_barOf 106 = .ok (.iastore, 1) := by decide +kernel
theorem dX11_barOf_107 : decode cX11_barOf 107 = .ok (.aload_n 0, 1) := by decide +kernel
theorem dX11_barOf_108 : decode cX11_barOf 108 = .ok (.getfield 149, 3) := by decide +kernel
theorem dX11_barOf_111 : decode cX11_barOf 111 = .ok (.bipush 6, 2) := by decide +kernel
theorem dX11_barOf_113 : decode cX11_barOf 113 = .ok (.aload_n 0, 1) := by decide +kernel
theorem dX11_barOf_114 : decode cX11_barOf 114 = .ok (.aload_n 0, 1) := by decide +kernel
theorem dX11_barOf_115 : decode cX11_barOf 115 = .ok (.getfield 110, 3) := by decide +kernel
theorem dX11_barOf_118 : decode cX11_barOf 118 = .ok (.iload_n 1, 1) := by decide +kernel
theorem dX11_barOf_119 : decode cX11_barOf 119 = .ok (.iaload, 1) := by decide +kernel
theorem dX11_barOf_120 : decode cX11_barOf 120 = .ok (.aload_n 0, 1) := by decide +kernel
theorem dX11_barOf_121 : decode cX11_barOf 121 = .ok (.getfield 113, 3) := by decide +kernel
theorem dX11_barOf_124 : decode cX11_barOf 124 = .ok (.iload_n 1, 1) := by decide +kernel
theorem dX11_barOf_125 : decode cX11_barOf 125 = .ok (.iaload, 1) := by decide +kernel
theorem dX11_barOf_126 : decode cX11_barOf 126 = .ok (.invokevirtual 306, 3) := by decide +kernel
theorem dX11_barOf_129 : decode cX11_barOf 129 = .ok (.iastore, 1) := by decide +kernel
theorem dX11_barOf_130 : decode cX11_barOf 130 = .ok (.aload_n 0, 1) := by decide +kernel
theorem dX11_barOf_131 : decode cX11_barOf 131 = .ok (.getfield 149, 3) := by decide +kernel
theorem dX11_barOf_134 : decode cX11_barOf 134 = .ok (.bipush 7, 2) := by decide +kernel
theorem dX11_barOf_136 : decode cX11_barOf 136 = .ok (.aload_n 0, 1) := by decide +kernel
theorem dX11_barOf_137 : decode cX11_barOf 137 = .ok (.aload_n 0, 1) := by decide +kernel
theorem dX11_barOf_138 : decode cX11_barOf 138 = .ok (.getfield 110, 3) := by decide +kernel
theorem dX11_barOf_141 : decode cX11_barOf 141 = .ok (.iload_n 1, 1) := by decide +kernel
theorem dX11_barOf_142 : decode cX11_barOf 142 = .ok (.iaload, 1) := by decide +kernel
theorem dX11_barOf_143 : decode cX11_barOf 143 = .ok (.aload_n 0, 1) := by decide +kernel
theorem dX11_barOf_144 : decode cX11_barOf 144 = .ok (.getfield 161, 3) := by decide +kernel
theorem dX11_barOf_147 : decode cX11_barOf 147 = .ok (.iload_n 1, 1) := by decide +kernel
theorem dX11_barOf_148 : decode cX11_barOf 148 = .ok (.iaload, 1) := by decide +kernel
theorem dX11_barOf_149 : decode cX11_barOf 149 = .ok (.iload_n 2, 1) := by decide +kernel
theorem dX11_barOf_150 : decode cX11_barOf 150 = .ok (.invokevirtual 349, 3) := by decide +kernel
theorem dX11_barOf_153 : decode cX11_barOf 153 = .ok (.aload_n 0, 1) := by decide +kernel
theorem dX11_barOf_154 : decode cX11_barOf 154 = .ok (.aload_n 0, 1) := by decide +kernel
theorem dX11_barOf_155 : decode cX11_barOf 155 = .ok (.getfield 113, 3) := by decide +kernel
theorem dX11_barOf_158 : decode cX11_barOf 158 = .ok (.iload_n 1, 1) := by decide +kernel
theorem dX11_barOf_159 : decode cX11_barOf 159 = .ok (.iaload, 1) := by decide +kernel
theorem dX11_barOf_160 : decode cX11_barOf 160 = .ok (.aload_n 0, 1) := by decide +kernel
theorem dX11_barOf_161 : decode cX11_barOf 161 = .ok (.getfield 161, 3) := by decide +kernel
theorem dX11_barOf_164 : decode cX11_barOf 164 = .ok (.iload_n 1, 1) := by decide +kernel
theorem dX11_barOf_165 : decode cX11_barOf 165 = .ok (.iaload, 1) := by decide +kernel
theorem dX11_barOf_166 : decode cX11_barOf 166 = .ok (.iload_n 2, 1) := by decide +kernel
theorem dX11_barOf_167 : decode cX11_barOf 167 = .ok (.invokevirtual 349, 3) := by decide +kernel
theorem dX11_barOf_170 : decode cX11_barOf 170 = .ok (.iadd, 1) := by decide +kernel
theorem dX11_barOf_171 : decode cX11_barOf 171 = .ok (.iastore, 1) := by decide +kernel
theorem dX11_barOf_172 : decode cX11_barOf 172 = .ok (.iconst 0, 1) := by decide +kernel
theorem dX11_barOf_173 : decode cX11_barOf 173 = .ok (.istore 4, 2) := by decide +kernel
theorem dX11_barOf_175 : decode cX11_barOf 175 = .ok (.iload 4, 2) := by decide +kernel
theorem dX11_barOf_177 : decode cX11_barOf 177 = .ok (.iload_n 2, 1) := by decide +kernel
theorem dX11_barOf_178 : decode cX11_barOf 178 = .ok (.if_icmp .ge 109, 3) := by decide +kernel
theorem dX11_barOf_181 : decode cX11_barOf 181 = .ok (.aload_n 0, 1) := by decide +kernel
theorem dX11_barOf_182 : decode cX11_barOf 182 = .ok (.getfield 137, 3) := by decide +kernel
theorem dX11_barOf_185 : decode cX11_barOf 185 = .ok (.iload 4, 2) := by decide +kernel
theorem dX11_barOf_187 : decode cX11_barOf 187 = .ok (.iaload, 1) := by decide +kernel
theorem dX11_barOf_188 : decode cX11_barOf 188 = .ok (.bipush 9, 2) := by decide +kernel
theorem dX11_barOf_190 : decode cX11_barOf 190 = .ok (.if_icmp .ne 91, 3) := by decide +kernel
theorem dX11_barOf_193 : decode cX11_barOf 193 = .ok (.aload_n 0, 1) := by decide +kernel
theorem dX11_barOf_194 : decode cX11_barOf 194 = .ok (.getfield 146, 3) := by decide +kernel
theorem dX11_barOf_197 : decode cX11_barOf 197 = .ok (.iload 4, 2) := by decide +kernel
theorem dX11_barOf_199 : decode cX11_barOf 199 = .ok (.iaload, 1) := by decide +kernel
theorem dX11_barOf_200 : decode cX11_barOf 200 = .ok (.aload_n 0, 1) := by decide +kernel
theorem dX11_barOf_201 : decode cX11_barOf 201 = .ok (.getfield 161, 3) := by decide +kernel
theorem dX11_barOf_204 : decode cX11_barOf 204 = .ok (.iload_n 1, 1) := by decide +kernel
theorem dX11_barOf_205 : decode cX11_barOf 205 = .ok (.iaload, 1) := by decide +kernel
theorem dX11_barOf_206 : decode cX11_barOf 206 = .ok (.if_icmp .gt 75, 3) := by decide +kernel
theorem dX11_barOf_209 : decode cX11_barOf 209 = .ok (.aload_n 0, 1) := by decide +kernel
theorem dX11_barOf_210 : decode cX11_barOf 210 = .ok (.getfield 140, 3) := by decide +kernel
theorem dX11_barOf_213 : decode cX11_barOf 213 = .ok (.iload 4, 2) := by decide +kernel
theorem dX11_barOf_215 : decode cX11_barOf 215 = .ok (.iaload, 1) := by decide +kernel
theorem dX11_barOf_216 : decode cX11_barOf 216 = .ok (.aload_n 0, 1) := by decide +kernel
theorem dX11_barOf_217 : decode cX11_barOf 217 = .ok (.getfield 110, 3) := by decide +kernel
theorem dX11_barOf_220 : decode cX11_barOf 220 = .ok (.iload_n 1, 1) := by decide +kernel
theorem dX11_barOf_221 : decode cX11_barOf 221 = .ok (.iaload, 1) := by decide +kernel
theorem dX11_barOf_222 : decode cX11_barOf 222 = .ok (.if_icmp .ne 19, 3) := by decide +kernel
theorem dX11_barOf_225 : decode cX11_barOf 225 = .ok (.aload_n 0, 1) := by decide +kernel
theorem dX11_barOf_226 : decode cX11_barOf 226 = .ok (.getfield 143, 3) := by decide +kernel
theorem dX11_barOf_229 : decode cX11_barOf 229 = .ok (.iload 4, 2) := by decide +kernel
theorem dX11_barOf_231 : decode cX11_barOf 231 = .ok (.iaload, 1) := by decide +kernel
theorem dX11_barOf_232 : decode cX11_barOf 232 = .ok (.aload_n 0, 1) := by decide +kernel
theorem dX11_barOf_233 : decode cX11_barOf 233 = .ok (.getfield 113, 3) := by decide +kernel
theorem dX11_barOf_236 : decode cX11_barOf 236 = .ok (.iload_n 1, 1) := by decide +kernel
theorem dX11_barOf_237 : decode cX11_barOf 237 = .ok (.iaload, 1) := by decide +kernel
theorem dX11_barOf_238 : decode cX11_barOf 238 = .ok (.if_icmp .eq 35, 3) := by decide +kernel
theorem dX11_barOf_241 : decode cX11_barOf 241 = .ok (.aload_n 0, 1) := by decide +kernel
theorem dX11_barOf_242 : decode cX11_barOf 242 = .ok (.getfield 140, 3) := by decide +kernel
theorem dX11_barOf_245 : decode cX11_barOf 245 = .ok (.iload 4, 2) := by decide +kernel
theorem dX11_barOf_247 : decode cX11_barOf 247 = .ok (.iaload, 1) := by decide +kernel
theorem dX11_barOf_248 : decode cX11_barOf 248 = .ok (.aload_n 0, 1) := by decide +kernel
theorem dX11_barOf_249 : decode cX11_barOf 249 = .ok (.getfield 113, 3) := by decide +kernel
theorem dX11_barOf_252 : decode cX11_barOf 252 = .ok (.iload_n 1, 1) := by decide +kernel
theorem dX11_barOf_253 : decode cX11_barOf 253 = .ok (.iaload, 1) := by decide +kernel
theorem dX11_barOf_254 : decode cX11_barOf 254 = .ok (.if_icmp .ne 27, 3) := by decide +kernel
theorem dX11_barOf_257 : decode cX11_barOf 257 = .ok (.aload_n 0, 1) := by decide +kernel
theorem dX11_barOf_258 : decode cX11_barOf 258 = .ok (.getfield 143, 3) := by decide +kernel
theorem dX11_barOf_261 : decode cX11_barOf 261 = .ok (.iload 4, 2) := by decide +kernel
theorem dX11_barOf_263 : decode cX11_barOf 263 = .ok (.iaload, 1) := by decide +kernel
theorem dX11_barOf_264 : decode cX11_barOf 264 = .ok (.aload_n 0, 1) := by decide +kernel
theorem dX11_barOf_265 : decode cX11_barOf 265 = .ok (.getfield 110, 3) := by decide +kernel
theorem dX11_barOf_268 : decode cX11_barOf 268 = .ok (.iload_n 1, 1) := by decide +kernel
theorem dX11_barOf_269 : decode cX11_barOf 269 = .ok (.iaload, 1) := by decide +kernel
theorem dX11_barOf_270 : decode cX11_barOf 270 = .ok (.if_icmp .ne 11, 3) := by decide +kernel
theorem dX11_barOf_273 : decode cX11_barOf 273 = .ok (.aload_n 0, 1) := by decide +kernel
theorem dX11_barOf_274 : decode cX11_barOf 274 = .ok (.getfield 149, 3) := by decide +kernel
theorem dX11_barOf_277 : decode cX11_barOf 277 = .ok (.bipush 8, 2) := by decide +kernel
theorem dX11_barOf_279 : decode cX11_barOf 279 = .ok (.iconst 1, 1) := by decide +kernel
theorem dX11_barOf_280 : decode cX11_barOf 280 = .ok (.iastore, 1) := by decide +kernel
theorem dX11_barOf_281 : decode cX11_barOf 281 = .ok (.iinc 4 1, 3) := by decide +kernel
theorem dX11_barOf_284 : decode cX11_barOf 284 = .ok (.goto (-109), 3) := by decide +kernel
theorem dX11_barOf_287 : decode cX11_barOf 287 = .ok (.aload_n 0, 1) := by decide +kernel
theorem dX11_barOf_288 : decode cX11_barOf 288 = .ok (.iload_n 1, 1) := by decide +kernel
theorem dX11_barOf_289 : decode cX11_barOf 289 = .ok (.iconst 1, 1) := by decide +kernel
theorem dX11_barOf_290 : decode cX11_barOf 290 = .ok (.invokevirtual 342, 3) := by decide +kernel
theorem dX11_barOf_293 : decode cX11_barOf 293 = .ok (.ireturn, 1) := by decide +kernel
theorem dX11_isIn_0 : decode cX11_isIn 0 = .ok (.aload_n 0, 1) := by decide +kernel
theorem dX11_isIn_1 : decode cX11_isIn 1 = .ok (.getfield 110, 3) := by decide +kernel
theorem dX11_isIn_4 : decode cX11_isIn 4 = .ok (.iload_n 2, 1) := by decide +kernel
theorem dX11_isIn_5 : decode cX11_isIn 5 = .ok (.iaload, 1) := by decide +kernel
theorem dX11_isIn_6 : decode cX11_isIn 6 = .ok (.iload_n 1, 1) := by decide +kernel
theorem dX11_isIn_7 : decode cX11_isIn 7 = .ok (.if_icmp .eq 13, 3) := by decide +kernel
theorem dX11_isIn_10 : decode cX11_isIn 10 = .ok (.aload_n 0, 1) := by decide +kernel
theorem dX11_isIn_11 : decode cX11_isIn 11 = .ok (.getfield 113, 3) := by decide +kernel
theorem dX11_isIn_14 : decode cX11_isIn 14 = .ok (.iload_n 2, 1) := by decide +kernel
theorem dX11_isIn_15 : decode cX11_isIn 15 = .ok (.iaload, 1) := by decide +kernel
theorem dX11_isIn_16 : decode cX11_isIn 16 = .ok (.iload_n 1, 1) := by decide +kernel
theorem dX11_isIn_17 : decode cX11_isIn 17 = .ok (.if_icmp .ne 7, 3) := by decide +kernel
theorem dX11_isIn_20 : decode cX11_isIn 20 = .ok (.iconst 1, 1) := by decide +kernel
theorem dX11_isIn_21 : decode cX11_isIn 21 = .ok (.goto 4, 3) := by decide +kernel
theorem dX11_isIn_24 : decode cX11_isIn 24 = .ok (.iconst 0, 1) := by decide +kernel
theorem dX11_isIn_25 : decode cX11_isIn 25 = .ok (.ireturn, 1) := by decide +kernel
theorem dX11_isRival_0 : decode cX11_isRival 0 = .ok (.iload_n 1, 1) := by decide +kernel
theorem dX11_isRival_1 : decode cX11_isRival 1 = .ok (.iload_n 2, 1) := by decide +kernel
theorem dX11_isRival_2 : decode cX11_isRival 2 = .ok (.if_icmp .eq 74, 3) := by decide +kernel
theorem dX11_isRival_5 : decode cX11_isRival 5 = .ok (.aload_n 0, 1) := by decide +kernel
theorem dX11_isRival_6 : decode cX11_isRival 6 = .ok (.getfield 188, 3) := by decide +kernel
theorem dX11_isRival_9 : decode cX11_isRival 9 = .ok (.iload_n 1, 1) := by decide +kernel
theorem dX11_isRival_10 : decode cX11_isRival 10 = .ok (.baload, 1) := by decide +kernel
theorem dX11_isRival_11 : decode cX11_isRival 11 = .ok (.ifCond .eq 65, 3) := by decide +kernel
theorem dX11_isRival_14 : decode cX11_isRival 14 = .ok (.aload_n 0, 1) := by decide +kernel
theorem dX11_isRival_15 : decode cX11_isRival 15 = .ok (.getfield 161, 3) := by decide +kernel
theorem dX11_isRival_18 : decode cX11_isRival 18 = .ok (.iload_n 1, 1) := by decide +kernel
theorem dX11_isRival_19 : decode cX11_isRival 19 = .ok (.iaload, 1) := by decide +kernel
theorem dX11_isRival_20 : decode cX11_isRival 20 = .ok (.aload_n 0, 1) := by decide +kernel
theorem dX11_isRival_21 : decode cX11_isRival 21 = .ok (.getfield 161, 3) := by decide +kernel
theorem dX11_isRival_24 : decode cX11_isRival 24 = .ok (.iload_n 2, 1) := by decide +kernel
theorem dX11_isRival_25 : decode cX11_isRival 25 = .ok (.iaload, 1) := by decide +kernel
theorem dX11_isRival_26 : decode cX11_isRival 26 = .ok (.if_icmp .gt 50, 3) := by decide +kernel
theorem dX11_isRival_29 : decode cX11_isRival 29 = .ok (.aload_n 0, 1) := by decide +kernel
theorem dX11_isRival_30 : decode cX11_isRival 30 = .ok (.getfield 176, 3) := by decide +kernel
theorem dX11_isRival_33 : decode cX11_isRival 33 = .ok (.iload_n 1, 1) := by decide +kernel
theorem dX11_isRival_34 : decode cX11_isRival 34 = .ok (.iaload, 1) := by decide +kernel
theorem dX11_isRival_35 : decode cX11_isRival 35 = .ok (.aload_n 0, 1) := by decide +kernel
theorem dX11_isRival_36 : decode cX11_isRival 36 = .ok (.getfield 161, 3) := by decide +kernel
theorem dX11_isRival_39 : decode cX11_isRival 39 = .ok (.iload_n 2, 1) := by decide +kernel
theorem dX11_isRival_40 : decode cX11_isRival 40 = .ok (.iaload, 1) := by decide +kernel
theorem dX11_isRival_41 : decode cX11_isRival 41 = .ok (.if_icmp .le 35, 3) := by decide +kernel
theorem dX11_isRival_44 : decode cX11_isRival 44 = .ok (.aload_n 0, 1) := by decide +kernel
theorem dX11_isRival_45 : decode cX11_isRival 45 = .ok (.aload_n 0, 1) := by decide +kernel
theorem dX11_isRival_46 : decode cX11_isRival 46 = .ok (.getfield 110, 3) := by decide +kernel
theorem dX11_isRival_49 : decode cX11_isRival 49 = .ok (.iload_n 2, 1) := by decide +kernel
theorem dX11_isRival_50 : decode cX11_isRival 50 = .ok (.iaload, 1) := by decide +kernel
theorem dX11_isRival_51 : decode cX11_isRival 51 = .ok (.iload_n 1, 1) := by decide +kernel
theorem dX11_isRival_52 : decode cX11_isRival 52 = .ok (.invokevirtual 352, 3) := by decide +kernel
theorem dX11_isRival_55 : decode cX11_isRival 55 = .ok (.ifCond .ne 17, 3) := by decide +kernel
theorem dX11_isRival_58 : decode cX11_isRival 58 = .ok (.aload_n 0, 1) := by decide +kernel
theorem dX11_isRival_59 : decode cX11_isRival 59 = .ok (.aload_n 0, 1) := by decide +kernel
theorem dX11_isRival_60 : decode cX11_isRival 60 = .ok (.getfield 113, 3) := by decide +kernel
theorem dX11_isRival_63 : decode cX11_isRival 63 = .ok (.iload_n 2, 1) := by decide +kernel
theorem dX11_isRival_64 : decode cX11_isRival 64 = .ok (.iaload, 1) := by decide +kernel
theorem dX11_isRival_65 : decode cX11_isRival 65 = .ok (.iload_n 1, 1) := by decide +kernel
theorem dX11_isRival_66 : decode cX11_isRival 66 = .ok (.invokevirtual 352, 3) := by decide +kernel
theorem dX11_isRival_69 : decode cX11_isRival 69 = .ok (.ifCond .eq 7, 3) := by decide +kernel
theorem dX11_isRival_72 : decode cX11_isRival 72 = .ok (.iconst 1, 1) := by decide +kernel
theorem dX11_isRival_73 : decode cX11_isRival 73 = .ok (.goto 4, 3) := by decide +kernel
theorem dX11_isRival_76 : decode cX11_isRival 76 = .ok (.iconst 0, 1) := by decide +kernel
theorem dX11_isRival_77 : decode cX11_isRival 77 = .ok (.ireturn, 1) := by decide +kernel
theorem dX11_judges_0 : decode cX11_judges 0 = .ok (.aload_n 0, 1) := by decide +kernel
theorem dX11_judges_1 : decode cX11_judges 1 = .ok (.getfield 167, 3) := by decide +kernel
theorem dX11_judges_4 : decode cX11_judges 4 = .ok (.iload_n 1, 1) := by decide +kernel
theorem dX11_judges_5 : decode cX11_judges 5 = .ok (.iconst 1, 1) := by decide +kernel
theorem dX11_judges_6 : decode cX11_judges 6 = .ok (.bastore, 1) := by decide +kernel
theorem dX11_judges_7 : decode cX11_judges 7 = .ok (.aload_n 0, 1) := by decide +kernel
theorem dX11_judges_8 : decode cX11_judges 8 = .ok (.getfield 170, 3) := by decide +kernel
theorem dX11_judges_11 : decode cX11_judges 11 = .ok (.iload_n 1, 1) := by decide +kernel
theorem dX11_judges_12 : decode cX11_judges 12 = .ok (.aload_n 0, 1) := by decide +kernel
theorem dX11_judges_13 : decode cX11_judges 13 = .ok (.iload_n 1, 1) := by decide +kernel
theorem dX11_judges_14 : decode cX11_judges 14 = .ok (.iload_n 2, 1) := by decide +kernel
theorem dX11_judges_15 : decode cX11_judges 15 = .ok (.invokevirtual 355, 3) := by decide +kernel
theorem dX11_judges_18 : decode cX11_judges 18 = .ok (.iastore, 1) := by decide +kernel
theorem dX11_judges_19 : decode cX11_judges 19 = .ok (.aload_n 0, 1) := by decide +kernel
theorem dX11_judges_20 : decode cX11_judges 20 = .ok (.getfield 170, 3) := by decide +kernel
theorem dX11_judges_23 : decode cX11_judges 23 = .ok (.iload_n 1, 1) := by decide +kernel
theorem dX11_judges_24 : decode cX11_judges 24 = .ok (.iaload, 1) := by decide +kernel
theorem dX11_judges_25 : decode cX11_judges 25 = .ok (.iconst (-1), 1) := by decide +kernel
theorem dX11_judges_26 : decode cX11_judges 26 = .ok (.if_icmp .eq 4, 3) := by decide +kernel
theorem dX11_judges_29 : decode cX11_judges 29 = .ok (.return_, 1) := by decide +kernel
theorem dX11_judges_30 : decode cX11_judges 30 = .ok (.iconst 0, 1) := by decide +kernel
theorem dX11_judges_31 : decode cX11_judges 31 = .ok (.istore_n 3, 1) := by decide +kernel
theorem dX11_judges_32 : decode cX11_judges 32 = .ok (.iload_n 3, 1) := by decide +kernel
theorem dX11_judges_33 : decode cX11_judges 33 = .ok (.aload_n 0, 1) := by decide +kernel
theorem dX11_judges_34 : decode cX11_judges 34 = .ok (.getfield 310, 3) := by decide +kernel
theorem dX11_judges_37 : decode cX11_judges 37 = .ok (.if_icmp .ge 108, 3) := by decide +kernel
theorem dX11_judges_40 : decode cX11_judges 40 = .ok (.aload_n 0, 1) := by decide +kernel
theorem dX11_judges_41 : decode cX11_judges 41 = .ok (.iload_n 3, 1) := by decide +kernel
theorem dX11_judges_42 : decode cX11_judges 42 = .ok (.iload_n 1, 1) := by decide +kernel
theorem dX11_judges_43 : decode cX11_judges 43 = .ok (.invokevirtual 358, 3) := by decide +kernel
theorem dX11_judges_46 : decode cX11_judges 46 = .ok (.ifCond .eq 93, 3) := by decide +kernel
theorem dX11_judges_49 : decode cX11_judges 49 = .ok (.aload_n 0, 1) := by decide +kernel
theorem dX11_judges_50 : decode cX11_judges 50 = .ok (.aload_n 0, 1) := by decide +kernel
theorem dX11_judges_51 : decode cX11_judges 51 = .ok (.getfield 110, 3) := by decide +kernel
theorem dX11_judges_54 : decode cX11_judges 54 = .ok (.iload_n 1, 1) := by decide +kernel
theorem dX11_judges_55 : decode cX11_judges 55 = .ok (.iaload, 1) := by decide +kernel
theorem dX11_judges_56 : decode cX11_judges 56 = .ok (.iload_n 3, 1) := by decide +kernel
theorem dX11_judges_57 : decode cX11_judges 57 = .ok (.invokevirtual 352, 3) := by decide +kernel
theorem dX11_judges_60 : decode cX11_judges 60 = .ok (.ifCond .eq 20, 3) := by decide +kernel
theorem dX11_judges_63 : decode cX11_judges 63 = .ok (.aload_n 0, 1) := by decide +kernel
theorem dX11_judges_64 : decode cX11_judges 64 = .ok (.aload_n 0, 1) := by decide +kernel
theorem dX11_judges_65 : decode cX11_judges 65 = .ok (.getfield 113, 3) := by decide +kernel
theorem dX11_judges_68 : decode cX11_judges 68 = .ok (.iload_n 1, 1) := by decide +kernel
theorem dX11_judges_69 : decode cX11_judges 69 = .ok (.iaload, 1) := by decide +kernel
theorem dX11_judges_70 : decode cX11_judges 70 = .ok (.iload_n 3, 1) := by decide +kernel
theorem dX11_judges_71 : decode cX11_judges 71 = .ok (.invokevirtual 352, 3) := by decide +kernel
theorem dX11_judges_74 : decode cX11_judges 74 = .ok (.ifCond .eq 6, 3) := by decide +kernel
theorem dX11_judges_77 : decode cX11_judges 77 = .ok (.goto 62, 3) := by decide +kernel
theorem dX11_judges_80 : decode cX11_judges 80 = .ok (.aload_n 0, 1) := by decide +kernel
theorem dX11_judges_81 : decode cX11_judges 81 = .ok (.iload_n 1, 1) := by decide +kernel
theorem dX11_judges_82 : decode cX11_judges 82 = .ok (.invokevirtual 336, 3) := by decide +kernel
theorem dX11_judges_85 : decode cX11_judges 85 = .ok (.aload_n 0, 1) := by decide +kernel
theorem dX11_judges_86 : decode cX11_judges 86 = .ok (.getfield 149, 3) := by decide +kernel
theorem dX11_judges_89 : decode cX11_judges 89 = .ok (.bipush 9, 2) := by decide +kernel
theorem dX11_judges_91 : decode cX11_judges 91 = .ok (.aload_n 0, 1) := by decide +kernel
theorem dX11_judges_92 : decode cX11_judges 92 = .ok (.getfield 122, 3) := by decide +kernel
theorem dX11_judges_95 : decode cX11_judges 95 = .ok (.iload_n 3, 1) := by decide +kernel
theorem dX11_judges_96 : decode cX11_judges 96 = .ok (.iaload, 1) := by decide +kernel
theorem dX11_judges_97 : decode cX11_judges 97 = .ok (.iastore, 1) := by decide +kernel
theorem dX11_judges_98 : decode cX11_judges 98 = .ok (.aload_n 0, 1) := by decide +kernel
theorem dX11_judges_99 : decode cX11_judges 99 = .ok (.getfield 149, 3) := by decide +kernel
theorem dX11_judges_102 : decode cX11_judges 102 = .ok (.bipush 11, 2) := by decide +kernel
theorem dX11_judges_104 : decode cX11_judges 104 = .ok (.aload_n 0, 1) := by decide +kernel
theorem dX11_judges_105 : decode cX11_judges 105 = .ok (.getfield 161, 3) := by decide +kernel
theorem dX11_judges_108 : decode cX11_judges 108 = .ok (.iload_n 1, 1) := by decide +kernel
theorem dX11_judges_109 : decode cX11_judges 109 = .ok (.iaload, 1) := by decide +kernel
theorem dX11_judges_110 : decode cX11_judges 110 = .ok (.aload_n 0, 1) := by decide +kernel
theorem dX11_judges_111 : decode cX11_judges 111 = .ok (.getfield 161, 3) := by decide +kernel
theorem dX11_judges_114 : decode cX11_judges 114 = .ok (.iload_n 3, 1) := by decide +kernel
theorem dX11_judges_115 : decode cX11_judges 115 = .ok (.iaload, 1) := by decide +kernel
theorem dX11_judges_116 : decode cX11_judges 116 = .ok (.isub, 1) := by decide +kernel
theorem dX11_judges_117 : decode cX11_judges 117 = .ok (.iastore, 1) := by decide +kernel
theorem dX11_judges_118 : decode cX11_judges 118 = .ok (.aload_n 0, 1) := by decide +kernel
theorem dX11_judges_119 : decode cX11_judges 119 = .ok (.iload_n 1, 1) := by decide +kernel
theorem dX11_judges_120 : decode cX11_judges 120 = .ok (.iconst 2, 1) := by decide +kernel
theorem dX11_judges_121 : decode cX11_judges 121 = .ok (.invokevirtual 342, 3) := by decide +kernel
theorem dX11_judges_124 : decode cX11_judges 124 = .ok (.iconst (-1), 1) := by decide +kernel
theorem dX11_judges_125 : decode cX11_judges 125 = .ok (.if_icmp .eq 6, 3) := by decide +kernel
theorem dX11_judges_128 : decode cX11_judges 128 = .ok (.goto 11, 3) := by decide +kernel
theorem dX11_judges_131 : decode cX11_judges 131 = .ok (.aload_n 0, 1) := by decide +kernel
theorem dX11_judges_132 : decode cX11_judges 132 = .ok (.getfield 173, 3) := by decide +kernel
theorem dX11_judges_135 : decode cX11_judges 135 = .ok (.iload_n 1, 1) := by decide +kernel
theorem dX11_judges_136 : decode cX11_judges 136 = .ok (.iload_n 3, 1) := by decide +kernel
theorem dX11_judges_137 : decode cX11_judges 137 = .ok (.iastore, 1) := by decide +kernel
theorem dX11_judges_138 : decode cX11_judges 138 = .ok (.return_, 1) := by decide +kernel
theorem dX11_judges_139 : decode cX11_judges 139 = .ok (.iinc 3 1, 3) := by decide +kernel
theorem dX11_judges_142 : decode cX11_judges 142 = .ok (.goto (-110), 3) := by decide +kernel
theorem dX11_judges_145 : decode cX11_judges 145 = .ok (.iconst 0, 1) := by decide +kernel
theorem dX11_judges_146 : decode cX11_judges 146 = .ok (.istore_n 3, 1) := by decide +kernel
theorem dX11_judges_147 : decode cX11_judges 147 = .ok (.iload_n 3, 1) := by decide +kernel
theorem dX11_judges_148 : decode cX11_judges 148 = .ok (.aload_n 0, 1) := by decide +kernel
theorem dX11_judges_149 : decode cX11_judges 149 = .ok (.getfield 310, 3) := by decide +kernel
theorem dX11_judges_152 : decode cX11_judges 152 = .ok (.if_icmp .ge 104, 3) := by decide +kernel
theorem dX11_judges_155 : decode cX11_judges 155 = .ok (.aload_n 0, 1) := by decide +kernel
theorem dX11_judges_156 : decode cX11_judges 156 = .ok (.iload_n 3, 1) := by decide +kernel
theorem dX11_judges_157 : decode cX11_judges 157 = .ok (.iload_n 1, 1) := by decide +kernel
theorem dX11_judges_158 : decode cX11_judges 158 = .ok (.invokevirtual 358, 3) := by decide +kernel
theorem dX11_judges_161 : decode cX11_judges 161 = .ok (.ifCond .ne 6, 3) := by decide +kernel
theorem dX11_judges_164 : decode cX11_judges 164 = .ok (.goto 86, 3) := by decide +kernel
theorem dX11_judges_167 : decode cX11_judges 167 = .ok (.aload_n 0, 1) := by decide +kernel
theorem dX11_judges_168 : decode cX11_judges 168 = .ok (.getfield 176, 3) := by decide +kernel
theorem dX11_judges_171 : decode cX11_judges 171 = .ok (.iload_n 3, 1) := by decide +kernel
theorem dX11_judges_172 : decode cX11_judges 172 = .ok (.aload_n 0, 1) := by decide +kernel
theorem dX11_judges_173 : decode cX11_judges 173 = .ok (.getfield 161, 3) := by decide +kernel
theorem dX11_judges_176 : decode cX11_judges 176 = .ok (.iload_n 1, 1) := by decide +kernel
theorem dX11_judges_177 : decode cX11_judges 177 = .ok (.iaload, 1) := by decide +kernel
theorem dX11_judges_178 : decode cX11_judges 178 = .ok (.iastore, 1) := by decide +kernel
theorem dX11_judges_179 : decode cX11_judges 179 = .ok (.aload_n 0, 1) := by decide +kernel
theorem dX11_judges_180 : decode cX11_judges 180 = .ok (.getfield 179, 3) := by decide +kernel
theorem dX11_judges_183 : decode cX11_judges 183 = .ok (.iload_n 3, 1) := by decide +kernel
theorem dX11_judges_184 : decode cX11_judges 184 = .ok (.bipush 9, 2) := by decide +kernel
theorem dX11_judges_186 : decode cX11_judges 186 = .ok (.iastore, 1) := by decide +kernel
theorem dX11_judges_187 : decode cX11_judges 187 = .ok (.aload_n 0, 1) := by decide +kernel
theorem dX11_judges_188 : decode cX11_judges 188 = .ok (.getfield 182, 3) := by decide +kernel
theorem dX11_judges_191 : decode cX11_judges 191 = .ok (.iload_n 3, 1) := by decide +kernel
theorem dX11_judges_192 : decode cX11_judges 192 = .ok (.iload_n 1, 1) := by decide +kernel
theorem dX11_judges_193 : decode cX11_judges 193 = .ok (.iastore, 1) := by decide +kernel
theorem dX11_judges_194 : decode cX11_judges 194 = .ok (.aload_n 0, 1) := by decide +kernel
theorem dX11_judges_195 : decode cX11_judges 195 = .ok (.aload_n 0, 1) := by decide +kernel
theorem dX11_judges_196 : decode cX11_judges 196 = .ok (.getfield 110, 3) := by decide +kernel
theorem dX11_judges_199 : decode cX11_judges 199 = .ok (.iload_n 3, 1) := by decide +kernel
theorem dX11_judges_200 : decode cX11_judges 200 = .ok (.iaload, 1) := by decide +kernel
theorem dX11_judges_201 : decode cX11_judges 201 = .ok (.iload_n 1, 1) := by decide +kernel
theorem dX11_judges_202 : decode cX11_judges 202 = .ok (.invokevirtual 352, 3) := by decide +kernel
theorem dX11_judges_205 : decode cX11_judges 205 = .ok (.istore 4, 2) := by decide +kernel
theorem dX11_judges_207 : decode cX11_judges 207 = .ok (.aload_n 0, 1) := by decide +kernel
theorem dX11_judges_208 : decode cX11_judges 208 = .ok (.aload_n 0, 1) := by decide +kernel
theorem dX11_judges_209 : decode cX11_judges 209 = .ok (.getfield 113, 3) := by decide +kernel
theorem dX11_judges_212 : decode cX11_judges 212 = .ok (.iload_n 3, 1) := by decide +kernel
theorem dX11_judges_213 : decode cX11_judges 213 = .ok (.iaload, 1) := by decide +kernel
theorem dX11_judges_214 : decode cX11_judges 214 = .ok (.iload_n 1, 1) := by decide +kernel
theorem dX11_judges_215 : decode cX11_judges 215 = .ok (.invokevirtual 352, 3) := by decide +kernel
theorem dX11_judges_218 : decode cX11_judges 218 = .ok (.istore 5, 2) := by decide +kernel
theorem dX11_judges_220 : decode cX11_judges 220 = .ok (.aload_n 0, 1) := by decide +kernel
theorem dX11_judges_221 : decode cX11_judges 221 = .ok (.getfield 185, 3) := by decide +kernel
theorem dX11_judges_224 : decode cX11_judges 224 = .ok (.iload_n 3, 1) := by decide +kernel
theorem dX11_judges_225 : decode cX11_judges 225 = .ok (.iload 4, 2) := by decide +kernel
theorem dX11_judges_227 : decode cX11_judges 227 = .ok (.ifCond .eq 12, 3) := by decide +kernel
theorem dX11_judges_230 : decode cX11_judges 230 = .ok (.iload 5, 2) := by decide +kernel
theorem dX11_judges_232 : decode cX11_judges 232 = .ok (.ifCond .eq 7, 3) := by decide +kernel
theorem dX11_judges_235 : decode cX11_judges 235 = .ok (.iconst 0, 1) := by decide +kernel
theorem dX11_judges_236 : decode cX11_judges 236 = .ok (.goto 13, 3) := by decide +kernel
theorem dX11_judges_239 : decode cX11_judges 239 = .ok (.iload 4, 2) := by decide +kernel
theorem dX11_judges_241 : decode cX11_judges 241 = .ok (.ifCond .eq 7, 3) := by decide +kernel
theorem dX11_judges_244 : decode cX11_judges 244 = .ok (.iconst 1, 1) := by decide +kernel
theorem dX11_judges_245 : decode cX11_judges 245 = .ok (.goto 4, 3) := by decide +kernel
theorem dX11_judges_248 : decode cX11_judges 248 = .ok (.iconst 2, 1) := by decide +kernel
theorem dX11_judges_249 : decode cX11_judges 249 = .ok (.iastore, 1) := by decide +kernel
theorem dX11_judges_250 : decode cX11_judges 250 = .ok (.iinc 3 1, 3) := by decide +kernel
theorem dX11_judges_253 : decode cX11_judges 253 = .ok (.goto (-106), 3) := by decide +kernel
theorem dX11_judges_256 : decode cX11_judges 256 = .ok (.aload_n 0, 1) := by decide +kernel
theorem dX11_judges_257 : decode cX11_judges 257 = .ok (.getfield 188, 3) := by decide +kernel
theorem dX11_judges_260 : decode cX11_judges 260 = .ok (.iload_n 1, 1) := by decide +kernel
theorem dX11_judges_261 : decode cX11_judges 261 = .ok (.iconst 1, 1) := by decide +kernel
theorem dX11_judges_262 : decode cX11_judges 262 = .ok (.bastore, 1) := by decide +kernel
theorem dX11_judges_263 : decode cX11_judges 263 = .ok (.aload_n 0, 1) := by decide +kernel
theorem dX11_judges_264 : decode cX11_judges 264 = .ok (.iload_n 1, 1) := by decide +kernel
theorem dX11_judges_265 : decode cX11_judges 265 = .ok (.iconst 0, 1) := by decide +kernel
theorem dX11_judges_266 : decode cX11_judges 266 = .ok (.iload_n 2, 1) := by decide +kernel
theorem dX11_judges_267 : decode cX11_judges 267 = .ok (.invokevirtual 346, 3) := by decide +kernel
theorem dX11_judges_270 : decode cX11_judges 270 = .ok (.istore_n 3, 1) := by decide +kernel
theorem dX11_judges_271 : decode cX11_judges 271 = .ok (.aload_n 0, 1) := by decide +kernel
theorem dX11_judges_272 : decode cX11_judges 272 = .ok (.iload_n 1, 1) := by decide +kernel
theorem dX11_judges_273 : decode cX11_judges 273 = .ok (.iload_n 2, 1) := by decide +kernel
theorem dX11_judges_274 : decode cX11_judges 274 = .ok (.invokevirtual 361, 3) := by decide +kernel
theorem dX11_judges_277 : decode cX11_judges 277 = .ok (.istore 4, 2) := by decide +kernel
theorem dX11_judges_279 : decode cX11_judges 279 = .ok (.aload_n 0, 1) := by decide +kernel
theorem dX11_judges_280 : decode cX11_judges 280 = .ok (.getfield 176, 3) := by decide +kernel
theorem dX11_judges_283 : decode cX11_judges 283 = .ok (.iload_n 1, 1) := by decide +kernel
theorem dX11_judges_284 : decode cX11_judges 284 = .ok (.iload_n 3, 1) := by decide +kernel
theorem dX11_judges_285 : decode cX11_judges 285 = .ok (.iload 4, 2) := by decide +kernel
theorem dX11_judges_287 : decode cX11_judges 287 = .ok (.if_icmp .gt 7, 3) := by decide +kernel
theorem dX11_judges_290 : decode cX11_judges 290 = .ok (.iload_n 3, 1) := by decide +kernel
theorem dX11_judges_291 : decode cX11_judges 291 = .ok (.goto 5, 3) := by decide +kernel
theorem dX11_judges_294 : decode cX11_judges 294 = .ok (.iload 4, 2) := by decide +kernel
theorem dX11_judges_296 : decode cX11_judges 296 = .ok (.iastore, 1) := by decide +kernel
theorem dX11_judges_297 : decode cX11_judges 297 = .ok (.aload_n 0, 1) := by decide +kernel
theorem dX11_judges_298 : decode cX11_judges 298 = .ok (.getfield 179, 3) := by decide +kernel
theorem dX11_judges_301 : decode cX11_judges 301 = .ok (.iload_n 1, 1) := by decide +kernel
theorem dX11_judges_302 : decode cX11_judges 302 = .ok (.aload_n 0, 1) := by decide +kernel
theorem dX11_judges_303 : decode cX11_judges 303 = .ok (.getfield 176, 3) := by decide +kernel
theorem dX11_judges_306 : decode cX11_judges 306 = .ok (.iload_n 1, 1) := by decide +kernel
theorem dX11_judges_307 : decode cX11_judges 307 = .ok (.iaload, 1) := by decide +kernel
theorem dX11_judges_308 : decode cX11_judges 308 = .ok (.ldc_w 345, 3) := by decide +kernel
theorem dX11_judges_311 : decode cX11_judges 311 = .ok (.if_icmp .ne 7, 3) := by decide +kernel
theorem dX11_judges_314 : decode cX11_judges 314 = .ok (.iconst 0, 1) := by decide +kernel
theorem dX11_judges_315 : decode cX11_judges 315 = .ok (.goto 16, 3) := by decide +kernel
theorem dX11_judges_318 : decode cX11_judges 318 = .ok (.iload_n 3, 1) := by decide +kernel
theorem dX11_judges_319 : decode cX11_judges 319 = .ok (.iload 4, 2) := by decide +kernel
theorem dX11_judges_321 : decode cX11_judges 321 = .ok (.if_icmp .gt 8, 3) := by decide +kernel
theorem dX11_judges_324 : decode cX11_judges 324 = .ok (.bipush 7, 2) := by decide +kernel
theorem dX11_judges_326 : decode cX11_judges 326 = .ok (.goto 5, 3) := by decide +kernel
theorem dX11_judges_329 : decode cX11_judges 329 = .ok (.bipush 8, 2) := by decide +kernel
theorem dX11_judges_331 : decode cX11_judges 331 = .ok (.iastore, 1) := by decide +kernel
theorem dX11_judges_332 : decode cX11_judges 332 = .ok (.return_, 1) := by decide +kernel
theorem dX11_judgesAll_0 : decode cX11_judgesAll 0 = .ok (.aload_n 0, 1) := by decide +kernel
theorem dX11_judgesAll_1 : decode cX11_judgesAll 1 = .ok (.getfield 155, 3) := by decide +kernel
theorem dX11_judgesAll_4 : decode cX11_judgesAll 4 = .ok (.iload_n 1, 1) := by decide +kernel
theorem dX11_judgesAll_5 : decode cX11_judgesAll 5 = .ok (.if_icmp .ne 4, 3) := by decide +kernel
theorem dX11_judgesAll_8 : decode cX11_judgesAll 8 = .ok (.return_, 1) := by decide +kernel
theorem dX11_judgesAll_9 : decode cX11_judgesAll 9 = .ok (.aload_n 0, 1) := by decide +kernel
theorem dX11_judgesAll_10 : decode cX11_judgesAll 10 = .ok (.iload_n 1, 1) := by decide +kernel
theorem dX11_judgesAll_11 : decode cX11_judgesAll 11 = .ok (.putfield 155, 3) := by decide +kernel
theorem dX11_judgesAll_14 : decode cX11_judgesAll 14 = .ok (.iconst 0, 1) := by decide +kernel
theorem dX11_judgesAll_15 : decode cX11_judgesAll 15 = .ok (.istore_n 2, 1) := by decide +kernel
theorem dX11_judgesAll_16 : decode cX11_judgesAll 16 = .ok (.iload_n 2, 1) := by decide +kernel
theorem dX11_judgesAll_17 : decode cX11_judgesAll 17 = .ok (.aload_n 0, 1) := by decide +kernel
theorem dX11_judgesAll_18 : decode cX11_judgesAll 18 = .ok (.getfield 310, 3) := by decide +kernel
theorem dX11_judgesAll_21 : decode cX11_judgesAll 21 = .ok (.if_icmp .ge 85, 3) := by decide +kernel
theorem dX11_judgesAll_24 : decode cX11_judgesAll 24 = .ok (.aload_n 0, 1) := by decide +kernel
theorem dX11_judgesAll_25 : decode cX11_judgesAll 25 = .ok (.getfield 158, 3) := by decide +kernel
theorem dX11_judgesAll_28 : decode cX11_judgesAll 28 = .ok (.iload_n 2, 1) := by decide +kernel
theorem dX11_judgesAll_29 : decode cX11_judgesAll 29 = .ok (.aload_n 0, 1) := by decide +kernel
theorem dX11_judgesAll_30 : decode cX11_judgesAll 30 = .ok (.iload_n 2, 1) := by decide +kernel
theorem dX11_judgesAll_31 : decode cX11_judgesAll 31 = .ok (.iload_n 1, 1) := by decide +kernel
theorem dX11_judgesAll_32 : decode cX11_judgesAll 32 = .ok (.invokevirtual 364, 3) := by decide +kernel
theorem dX11_judgesAll_35 : decode cX11_judgesAll 35 = .ok (.iastore, 1) := by decide +kernel
end
section
theorem dX11_judgesAll_36 : decode cX11_judgesAll 36 = .ok (.aload_n 0, 1) := by decide +kernel
theorem dX11_judgesAll_37 : decode cX11_judgesAll 37 = .ok (.iload_n 2, 1) := by decide +kernel
theorem dX11_judgesAll_38 : decode cX11_judgesAll 38 = .ok (.iload_n 1, 1) := by decide +kernel
theorem dX11_judgesAll_39 : decode cX11_judgesAll 39 = .ok (.invokevirtual 367, 3) := by decide +kernel
theorem dX11_judgesAll_42 : decode cX11_judgesAll 42 = .ok (.aload_n 0, 1) := by decide +kernel
theorem dX11_judgesAll_43 : decode cX11_judgesAll 43 = .ok (.getfield 167, 3) := by decide +kernel
theorem dX11_judgesAll_46 : decode cX11_judgesAll 46 = .ok (.iload_n 2, 1) := by decide +kernel
theorem dX11_judgesAll_47 : decode cX11_judgesAll 47 = .ok (.iconst 0, 1) := by decide +kernel
theorem dX11_judgesAll_48 : decode cX11_judgesAll 48 = .ok (.bastore, 1) := by decide +kernel
theorem dX11_judgesAll_49 : decode cX11_judgesAll 49 = .ok (.aload_n 0, 1) := by decide +kernel
theorem dX11_judgesAll_50 : decode cX11_judgesAll 50 = .ok (.getfield 188, 3) := by decide +kernel
theorem dX11_judgesAll_53 : decode cX11_judgesAll 53 = .ok (.iload_n 2, 1) := by decide +kernel
theorem dX11_judgesAll_54 : decode cX11_judgesAll 54 = .ok (.iconst 0, 1) := by decide +kernel
theorem dX11_judgesAll_55 : decode cX11_judgesAll 55 = .ok (.bastore, 1) := by decide +kernel
theorem dX11_judgesAll_56 : decode cX11_judgesAll 56 = .ok (.aload_n 0, 1) := by decide +kernel
theorem dX11_judgesAll_57 : decode cX11_judgesAll 57 = .ok (.getfield 170, 3) := by decide +kernel
theorem dX11_judgesAll_60 : decode cX11_judgesAll 60 = .ok (.iload_n 2, 1) := by decide +kernel
theorem dX11_judgesAll_61 : decode cX11_judgesAll 61 = .ok (.iconst (-1), 1) := by decide +kernel
theorem dX11_judgesAll_62 : decode cX11_judgesAll 62 = .ok (.iastore, 1) := by decide +kernel
theorem dX11_judgesAll_63 : decode cX11_judgesAll 63 = .ok (.aload_n 0, 1) := by decide +kernel
theorem dX11_judgesAll_64 : decode cX11_judgesAll 64 = .ok (.getfield 173, 3) := by decide +kernel
theorem dX11_judgesAll_67 : decode cX11_judgesAll 67 = .ok (.iload_n 2, 1) := by decide +kernel
theorem dX11_judgesAll_68 : decode cX11_judgesAll 68 = .ok (.iconst (-1), 1) := by decide +kernel
theorem dX11_judgesAll_69 : decode cX11_judgesAll 69 = .ok (.iastore, 1) := by decide +kernel
theorem dX11_judgesAll_70 : decode cX11_judgesAll 70 = .ok (.aload_n 0, 1) := by decide +kernel
theorem dX11_judgesAll_71 : decode cX11_judgesAll 71 = .ok (.getfield 176, 3) := by decide +kernel
theorem dX11_judgesAll_74 : decode cX11_judgesAll 74 = .ok (.iload_n 2, 1) := by decide +kernel
theorem dX11_judgesAll_75 : decode cX11_judgesAll 75 = .ok (.ldc_w 345, 3) := by decide +kernel
theorem dX11_judgesAll_78 : decode cX11_judgesAll 78 = .ok (.iastore, 1) := by decide +kernel
theorem dX11_judgesAll_79 : decode cX11_judgesAll 79 = .ok (.aload_n 0, 1) := by decide +kernel
theorem dX11_judgesAll_80 : decode cX11_judgesAll 80 = .ok (.getfield 179, 3) := by decide +kernel
theorem dX11_judgesAll_83 : decode cX11_judgesAll 83 = .ok (.iload_n 2, 1) := by decide +kernel
theorem dX11_judgesAll_84 : decode cX11_judgesAll 84 = .ok (.iconst 0, 1) := by decide +kernel
theorem dX11_judgesAll_85 : decode cX11_judgesAll 85 = .ok (.iastore, 1) := by decide +kernel
theorem dX11_judgesAll_86 : decode cX11_judgesAll 86 = .ok (.aload_n 0, 1) := by decide +kernel
theorem dX11_judgesAll_87 : decode cX11_judgesAll 87 = .ok (.getfield 182, 3) := by decide +kernel
theorem dX11_judgesAll_90 : decode cX11_judgesAll 90 = .ok (.iload_n 2, 1) := by decide +kernel
theorem dX11_judgesAll_91 : decode cX11_judgesAll 91 = .ok (.iconst (-1), 1) := by decide +kernel
theorem dX11_judgesAll_92 : decode cX11_judgesAll 92 = .ok (.iastore, 1) := by decide +kernel
theorem dX11_judgesAll_93 : decode cX11_judgesAll 93 = .ok (.aload_n 0, 1) := by decide +kernel
theorem dX11_judgesAll_94 : decode cX11_judgesAll 94 = .ok (.getfield 185, 3) := by decide +kernel
theorem dX11_judgesAll_97 : decode cX11_judgesAll 97 = .ok (.iload_n 2, 1) := by decide +kernel
theorem dX11_judgesAll_98 : decode cX11_judgesAll 98 = .ok (.iconst 0, 1) := by decide +kernel
theorem dX11_judgesAll_99 : decode cX11_judgesAll 99 = .ok (.iastore, 1) := by decide +kernel
theorem dX11_judgesAll_100 : decode cX11_judgesAll 100 = .ok (.iinc 2 1, 3) := by decide +kernel
theorem dX11_judgesAll_103 : decode cX11_judgesAll 103 = .ok (.goto (-87), 3) := by decide +kernel
theorem dX11_judgesAll_106 : decode cX11_judgesAll 106 = .ok (.iconst 0, 1) := by decide +kernel
theorem dX11_judgesAll_107 : decode cX11_judgesAll 107 = .ok (.istore_n 2, 1) := by decide +kernel
theorem dX11_judgesAll_108 : decode cX11_judgesAll 108 = .ok (.iload_n 2, 1) := by decide +kernel
theorem dX11_judgesAll_109 : decode cX11_judgesAll 109 = .ok (.aload_n 0, 1) := by decide +kernel
theorem dX11_judgesAll_110 : decode cX11_judgesAll 110 = .ok (.getfield 310, 3) := by decide +kernel
theorem dX11_judgesAll_113 : decode cX11_judgesAll 113 = .ok (.if_icmp .ge 97, 3) := by decide +kernel
theorem dX11_judgesAll_116 : decode cX11_judgesAll 116 = .ok (.iconst (-1), 1) := by decide +kernel
theorem dX11_judgesAll_117 : decode cX11_judgesAll 117 = .ok (.istore_n 3, 1) := by decide +kernel
theorem dX11_judgesAll_118 : decode cX11_judgesAll 118 = .ok (.iconst 0, 1) := by decide +kernel
theorem dX11_judgesAll_119 : decode cX11_judgesAll 119 = .ok (.istore 4, 2) := by decide +kernel
theorem dX11_judgesAll_121 : decode cX11_judgesAll 121 = .ok (.iload 4, 2) := by decide +kernel
theorem dX11_judgesAll_123 : decode cX11_judgesAll 123 = .ok (.aload_n 0, 1) := by decide +kernel
theorem dX11_judgesAll_124 : decode cX11_judgesAll 124 = .ok (.getfield 310, 3) := by decide +kernel
theorem dX11_judgesAll_127 : decode cX11_judgesAll 127 = .ok (.if_icmp .ge 65, 3) := by decide +kernel
theorem dX11_judgesAll_130 : decode cX11_judgesAll 130 = .ok (.aload_n 0, 1) := by decide +kernel
theorem dX11_judgesAll_131 : decode cX11_judgesAll 131 = .ok (.getfield 167, 3) := by decide +kernel
theorem dX11_judgesAll_134 : decode cX11_judgesAll 134 = .ok (.iload 4, 2) := by decide +kernel
theorem dX11_judgesAll_136 : decode cX11_judgesAll 136 = .ok (.baload, 1) := by decide +kernel
theorem dX11_judgesAll_137 : decode cX11_judgesAll 137 = .ok (.ifCond .ne 49, 3) := by decide +kernel
theorem dX11_judgesAll_140 : decode cX11_judgesAll 140 = .ok (.aload_n 0, 1) := by decide +kernel
theorem dX11_judgesAll_141 : decode cX11_judgesAll 141 = .ok (.getfield 158, 3) := by decide +kernel
theorem dX11_judgesAll_144 : decode cX11_judgesAll 144 = .ok (.iload 4, 2) := by decide +kernel
theorem dX11_judgesAll_146 : decode cX11_judgesAll 146 = .ok (.iaload, 1) := by decide +kernel
theorem dX11_judgesAll_147 : decode cX11_judgesAll 147 = .ok (.iconst (-1), 1) := by decide +kernel
theorem dX11_judgesAll_148 : decode cX11_judgesAll 148 = .ok (.if_icmp .eq 38, 3) := by decide +kernel
theorem dX11_judgesAll_151 : decode cX11_judgesAll 151 = .ok (.aload_n 0, 1) := by decide +kernel
theorem dX11_judgesAll_152 : decode cX11_judgesAll 152 = .ok (.getfield 164, 3) := by decide +kernel
theorem dX11_judgesAll_155 : decode cX11_judgesAll 155 = .ok (.iload 4, 2) := by decide +kernel
theorem dX11_judgesAll_157 : decode cX11_judgesAll 157 = .ok (.iaload, 1) := by decide +kernel
theorem dX11_judgesAll_158 : decode cX11_judgesAll 158 = .ok (.iconst 1, 1) := by decide +kernel
theorem dX11_judgesAll_159 : decode cX11_judgesAll 159 = .ok (.if_icmp .ne 27, 3) := by decide +kernel
theorem dX11_judgesAll_162 : decode cX11_judgesAll 162 = .ok (.iload_n 3, 1) := by decide +kernel
theorem dX11_judgesAll_163 : decode cX11_judgesAll 163 = .ok (.iconst (-1), 1) := by decide +kernel
theorem dX11_judgesAll_164 : decode cX11_judgesAll 164 = .ok (.if_icmp .eq 19, 3) := by decide +kernel
theorem dX11_judgesAll_167 : decode cX11_judgesAll 167 = .ok (.aload_n 0, 1) := by decide +kernel
theorem dX11_judgesAll_168 : decode cX11_judgesAll 168 = .ok (.getfield 161, 3) := by decide +kernel
theorem dX11_judgesAll_171 : decode cX11_judgesAll 171 = .ok (.iload 4, 2) := by decide +kernel
theorem dX11_judgesAll_173 : decode cX11_judgesAll 173 = .ok (.iaload, 1) := by decide +kernel
theorem dX11_judgesAll_174 : decode cX11_judgesAll 174 = .ok (.aload_n 0, 1) := by decide +kernel
theorem dX11_judgesAll_175 : decode cX11_judgesAll 175 = .ok (.getfield 161, 3) := by decide +kernel
theorem dX11_judgesAll_178 : decode cX11_judgesAll 178 = .ok (.iload_n 3, 1) := by decide +kernel
theorem dX11_judgesAll_179 : decode cX11_judgesAll 179 = .ok (.iaload, 1) := by decide +kernel
theorem dX11_judgesAll_180 : decode cX11_judgesAll 180 = .ok (.if_icmp .ge 6, 3) := by decide +kernel
theorem dX11_judgesAll_183 : decode cX11_judgesAll 183 = .ok (.iload 4, 2) := by decide +kernel
theorem dX11_judgesAll_185 : decode cX11_judgesAll 185 = .ok (.istore_n 3, 1) := by decide +kernel
theorem dX11_judgesAll_186 : decode cX11_judgesAll 186 = .ok (.iinc 4 1, 3) := by decide +kernel
theorem dX11_judgesAll_189 : decode cX11_judgesAll 189 = .ok (.goto (-68), 3) := by decide +kernel
theorem dX11_judgesAll_192 : decode cX11_judgesAll 192 = .ok (.iload_n 3, 1) := by decide +kernel
theorem dX11_judgesAll_193 : decode cX11_judgesAll 193 = .ok (.iconst (-1), 1) := by decide +kernel
theorem dX11_judgesAll_194 : decode cX11_judgesAll 194 = .ok (.if_icmp .ne 4, 3) := by decide +kernel
theorem dX11_judgesAll_197 : decode cX11_judgesAll 197 = .ok (.return_, 1) := by decide +kernel
theorem dX11_judgesAll_198 : decode cX11_judgesAll 198 = .ok (.aload_n 0, 1) := by decide +kernel
theorem dX11_judgesAll_199 : decode cX11_judgesAll 199 = .ok (.iload_n 3, 1) := by decide +kernel
theorem dX11_judgesAll_200 : decode cX11_judgesAll 200 = .ok (.iload_n 1, 1) := by decide +kernel
theorem dX11_judgesAll_201 : decode cX11_judgesAll 201 = .ok (.invokevirtual 370, 3) := by decide +kernel
theorem dX11_judgesAll_204 : decode cX11_judgesAll 204 = .ok (.iinc 2 1, 3) := by decide +kernel
theorem dX11_judgesAll_207 : decode cX11_judgesAll 207 = .ok (.goto (-99), 3) := by decide +kernel
theorem dX11_judgesAll_210 : decode cX11_judgesAll 210 = .ok (.return_, 1) := by decide +kernel
theorem dX11_proved_0 : decode cX11_proved 0 = .ok (.aload_n 0, 1) := by decide +kernel
theorem dX11_proved_1 : decode cX11_proved 1 = .ok (.iload_n 1, 1) := by decide +kernel
theorem dX11_proved_2 : decode cX11_proved 2 = .ok (.invokevirtual 319, 3) := by decide +kernel
theorem dX11_proved_5 : decode cX11_proved 5 = .ok (.ifCond .eq 11, 3) := by decide +kernel
theorem dX11_proved_8 : decode cX11_proved 8 = .ok (.aload_n 0, 1) := by decide +kernel
theorem dX11_proved_9 : decode cX11_proved 9 = .ok (.iload_n 2, 1) := by decide +kernel
theorem dX11_proved_10 : decode cX11_proved 10 = .ok (.invokevirtual 373, 3) := by decide +kernel
theorem dX11_proved_13 : decode cX11_proved 13 = .ok (.ifCond .ne 5, 3) := by decide +kernel
theorem dX11_proved_16 : decode cX11_proved 16 = .ok (.iconst (-1), 1) := by decide +kernel
theorem dX11_proved_17 : decode cX11_proved 17 = .ok (.ireturn, 1) := by decide +kernel
theorem dX11_proved_18 : decode cX11_proved 18 = .ok (.aload_n 0, 1) := by decide +kernel
theorem dX11_proved_19 : decode cX11_proved 19 = .ok (.iload_n 2, 1) := by decide +kernel
theorem dX11_proved_20 : decode cX11_proved 20 = .ok (.invokevirtual 376, 3) := by decide +kernel
theorem dX11_proved_23 : decode cX11_proved 23 = .ok (.aload_n 0, 1) := by decide +kernel
theorem dX11_proved_24 : decode cX11_proved 24 = .ok (.getfield 158, 3) := by decide +kernel
theorem dX11_proved_27 : decode cX11_proved 27 = .ok (.iload_n 1, 1) := by decide +kernel
theorem dX11_proved_28 : decode cX11_proved 28 = .ok (.iaload, 1) := by decide +kernel
theorem dX11_proved_29 : decode cX11_proved 29 = .ok (.ireturn, 1) := by decide +kernel
theorem dX11_barred_0 : decode cX11_barred 0 = .ok (.aload_n 0, 1) := by decide +kernel
theorem dX11_barred_1 : decode cX11_barred 1 = .ok (.iload_n 1, 1) := by decide +kernel
theorem dX11_barred_2 : decode cX11_barred 2 = .ok (.invokevirtual 319, 3) := by decide +kernel
theorem dX11_barred_5 : decode cX11_barred 5 = .ok (.ifCond .eq 11, 3) := by decide +kernel
theorem dX11_barred_8 : decode cX11_barred 8 = .ok (.aload_n 0, 1) := by decide +kernel
theorem dX11_barred_9 : decode cX11_barred 9 = .ok (.iload_n 2, 1) := by decide +kernel
theorem dX11_barred_10 : decode cX11_barred 10 = .ok (.invokevirtual 373, 3) := by decide +kernel
theorem dX11_barred_13 : decode cX11_barred 13 = .ok (.ifCond .ne 5, 3) := by decide +kernel
theorem dX11_barred_16 : decode cX11_barred 16 = .ok (.iconst (-1), 1) := by decide +kernel
theorem dX11_barred_17 : decode cX11_barred 17 = .ok (.ireturn, 1) := by decide +kernel
theorem dX11_barred_18 : decode cX11_barred 18 = .ok (.aload_n 0, 1) := by decide +kernel
theorem dX11_barred_19 : decode cX11_barred 19 = .ok (.iload_n 2, 1) := by decide +kernel
theorem dX11_barred_20 : decode cX11_barred 20 = .ok (.invokevirtual 376, 3) := by decide +kernel
theorem dX11_barred_23 : decode cX11_barred 23 = .ok (.aload_n 0, 1) := by decide +kernel
theorem dX11_barred_24 : decode cX11_barred 24 = .ok (.getfield 170, 3) := by decide +kernel
theorem dX11_barred_27 : decode cX11_barred 27 = .ok (.iload_n 1, 1) := by decide +kernel
theorem dX11_barred_28 : decode cX11_barred 28 = .ok (.iaload, 1) := by decide +kernel
theorem dX11_barred_29 : decode cX11_barred 29 = .ok (.ireturn, 1) := by decide +kernel
theorem dX11_stateOf_0 : decode cX11_stateOf 0 = .ok (.aload_n 0, 1) := by decide +kernel
theorem dX11_stateOf_1 : decode cX11_stateOf 1 = .ok (.getfield 158, 3) := by decide +kernel
theorem dX11_stateOf_4 : decode cX11_stateOf 4 = .ok (.iload_n 1, 1) := by decide +kernel
theorem dX11_stateOf_5 : decode cX11_stateOf 5 = .ok (.iaload, 1) := by decide +kernel
theorem dX11_stateOf_6 : decode cX11_stateOf 6 = .ok (.iconst (-1), 1) := by decide +kernel
theorem dX11_stateOf_7 : decode cX11_stateOf 7 = .ok (.if_icmp .ne 5, 3) := by decide +kernel
theorem dX11_stateOf_10 : decode cX11_stateOf 10 = .ok (.iconst 0, 1) := by decide +kernel
theorem dX11_stateOf_11 : decode cX11_stateOf 11 = .ok (.ireturn, 1) := by decide +kernel
theorem dX11_stateOf_12 : decode cX11_stateOf 12 = .ok (.iload_n 2, 1) := by decide +kernel
theorem dX11_stateOf_13 : decode cX11_stateOf 13 = .ok (.aload_n 0, 1) := by decide +kernel
theorem dX11_stateOf_14 : decode cX11_stateOf 14 = .ok (.getfield 161, 3) := by decide +kernel
theorem dX11_stateOf_17 : decode cX11_stateOf 17 = .ok (.iload_n 1, 1) := by decide +kernel
theorem dX11_stateOf_18 : decode cX11_stateOf 18 = .ok (.iaload, 1) := by decide +kernel
theorem dX11_stateOf_19 : decode cX11_stateOf 19 = .ok (.if_icmp .ge 19, 3) := by decide +kernel
theorem dX11_stateOf_22 : decode cX11_stateOf 22 = .ok (.aload_n 0, 1) := by decide +kernel
theorem dX11_stateOf_23 : decode cX11_stateOf 23 = .ok (.getfield 125, 3) := by decide +kernel
theorem dX11_stateOf_26 : decode cX11_stateOf 26 = .ok (.iload_n 1, 1) := by decide +kernel
theorem dX11_stateOf_27 : decode cX11_stateOf 27 = .ok (.iaload, 1) := by decide +kernel
theorem dX11_stateOf_28 : decode cX11_stateOf 28 = .ok (.iconst (-1), 1) := by decide +kernel
theorem dX11_stateOf_29 : decode cX11_stateOf 29 = .ok (.if_icmp .ne 7, 3) := by decide +kernel
theorem dX11_stateOf_32 : decode cX11_stateOf 32 = .ok (.iconst 1, 1) := by decide +kernel
theorem dX11_stateOf_33 : decode cX11_stateOf 33 = .ok (.goto 4, 3) := by decide +kernel
theorem dX11_stateOf_36 : decode cX11_stateOf 36 = .ok (.iconst 2, 1) := by decide +kernel
theorem dX11_stateOf_37 : decode cX11_stateOf 37 = .ok (.ireturn, 1) := by decide +kernel
theorem dX11_stateOf_38 : decode cX11_stateOf 38 = .ok (.aload_n 0, 1) := by decide +kernel
theorem dX11_stateOf_39 : decode cX11_stateOf 39 = .ok (.getfield 164, 3) := by decide +kernel
theorem dX11_stateOf_42 : decode cX11_stateOf 42 = .ok (.iload_n 1, 1) := by decide +kernel
theorem dX11_stateOf_43 : decode cX11_stateOf 43 = .ok (.iaload, 1) := by decide +kernel
theorem dX11_stateOf_44 : decode cX11_stateOf 44 = .ok (.iconst 2, 1) := by decide +kernel
theorem dX11_stateOf_45 : decode cX11_stateOf 45 = .ok (.if_icmp .ne 5, 3) := by decide +kernel
theorem dX11_stateOf_48 : decode cX11_stateOf 48 = .ok (.iconst 3, 1) := by decide +kernel
theorem dX11_stateOf_49 : decode cX11_stateOf 49 = .ok (.ireturn, 1) := by decide +kernel
theorem dX11_stateOf_50 : decode cX11_stateOf 50 = .ok (.aload_n 0, 1) := by decide +kernel
theorem dX11_stateOf_51 : decode cX11_stateOf 51 = .ok (.getfield 170, 3) := by decide +kernel
theorem dX11_stateOf_54 : decode cX11_stateOf 54 = .ok (.iload_n 1, 1) := by decide +kernel
theorem dX11_stateOf_55 : decode cX11_stateOf 55 = .ok (.iaload, 1) := by decide +kernel
theorem dX11_stateOf_56 : decode cX11_stateOf 56 = .ok (.iconst (-1), 1) := by decide +kernel
theorem dX11_stateOf_57 : decode cX11_stateOf 57 = .ok (.if_icmp .eq 5, 3) := by decide +kernel
theorem dX11_stateOf_60 : decode cX11_stateOf 60 = .ok (.iconst 4, 1) := by decide +kernel
theorem dX11_stateOf_61 : decode cX11_stateOf 61 = .ok (.ireturn, 1) := by decide +kernel
theorem dX11_stateOf_62 : decode cX11_stateOf 62 = .ok (.aload_n 0, 1) := by decide +kernel
theorem dX11_stateOf_63 : decode cX11_stateOf 63 = .ok (.getfield 173, 3) := by decide +kernel
theorem dX11_stateOf_66 : decode cX11_stateOf 66 = .ok (.iload_n 1, 1) := by decide +kernel
theorem dX11_stateOf_67 : decode cX11_stateOf 67 = .ok (.iaload, 1) := by decide +kernel
theorem dX11_stateOf_68 : decode cX11_stateOf 68 = .ok (.iconst (-1), 1) := by decide +kernel
theorem dX11_stateOf_69 : decode cX11_stateOf 69 = .ok (.if_icmp .eq 5, 3) := by decide +kernel
theorem dX11_stateOf_72 : decode cX11_stateOf 72 = .ok (.iconst 5, 1) := by decide +kernel
theorem dX11_stateOf_73 : decode cX11_stateOf 73 = .ok (.ireturn, 1) := by decide +kernel
theorem dX11_stateOf_74 : decode cX11_stateOf 74 = .ok (.iload_n 2, 1) := by decide +kernel
theorem dX11_stateOf_75 : decode cX11_stateOf 75 = .ok (.aload_n 0, 1) := by decide +kernel
theorem dX11_stateOf_76 : decode cX11_stateOf 76 = .ok (.getfield 176, 3) := by decide +kernel
theorem dX11_stateOf_79 : decode cX11_stateOf 79 = .ok (.iload_n 1, 1) := by decide +kernel
theorem dX11_stateOf_80 : decode cX11_stateOf 80 = .ok (.iaload, 1) := by decide +kernel
theorem dX11_stateOf_81 : decode cX11_stateOf 81 = .ok (.if_icmp .ge 8, 3) := by decide +kernel
theorem dX11_stateOf_84 : decode cX11_stateOf 84 = .ok (.bipush 6, 2) := by decide +kernel
theorem dX11_stateOf_86 : decode cX11_stateOf 86 = .ok (.goto 9, 3) := by decide +kernel
theorem dX11_stateOf_89 : decode cX11_stateOf 89 = .ok (.aload_n 0, 1) := by decide +kernel
theorem dX11_stateOf_90 : decode cX11_stateOf 90 = .ok (.getfield 179, 3) := by decide +kernel
theorem dX11_stateOf_93 : decode cX11_stateOf 93 = .ok (.iload_n 1, 1) := by decide +kernel
theorem dX11_stateOf_94 : decode cX11_stateOf 94 = .ok (.iaload, 1) := by decide +kernel
theorem dX11_stateOf_95 : decode cX11_stateOf 95 = .ok (.ireturn, 1) := by decide +kernel
theorem dX11_state_0 : decode cX11_state 0 = .ok (.aload_n 0, 1) := by decide +kernel
theorem dX11_state_1 : decode cX11_state 1 = .ok (.iload_n 1, 1) := by decide +kernel
theorem dX11_state_2 : decode cX11_state 2 = .ok (.invokevirtual 319, 3) := by decide +kernel
theorem dX11_state_5 : decode cX11_state 5 = .ok (.ifCond .eq 18, 3) := by decide +kernel
theorem dX11_state_8 : decode cX11_state 8 = .ok (.iload_n 2, 1) := by decide +kernel
theorem dX11_state_9 : decode cX11_state 9 = .ok (.invokestatic 259, 3) := by decide +kernel
theorem dX11_state_12 : decode cX11_state 12 = .ok (.ifCond .eq 11, 3) := by decide +kernel
theorem dX11_state_15 : decode cX11_state 15 = .ok (.aload_n 0, 1) := by decide +kernel
theorem dX11_state_16 : decode cX11_state 16 = .ok (.iload_n 3, 1) := by decide +kernel
theorem dX11_state_17 : decode cX11_state 17 = .ok (.invokevirtual 373, 3) := by decide +kernel
theorem dX11_state_20 : decode cX11_state 20 = .ok (.ifCond .ne 5, 3) := by decide +kernel
theorem dX11_state_23 : decode cX11_state 23 = .ok (.iconst (-1), 1) := by decide +kernel
theorem dX11_state_24 : decode cX11_state 24 = .ok (.ireturn, 1) := by decide +kernel
theorem dX11_state_25 : decode cX11_state 25 = .ok (.aload_n 0, 1) := by decide +kernel
theorem dX11_state_26 : decode cX11_state 26 = .ok (.iload_n 3, 1) := by decide +kernel
theorem dX11_state_27 : decode cX11_state 27 = .ok (.invokevirtual 376, 3) := by decide +kernel
theorem dX11_state_30 : decode cX11_state 30 = .ok (.aload_n 0, 1) := by decide +kernel
theorem dX11_state_31 : decode cX11_state 31 = .ok (.iload_n 1, 1) := by decide +kernel
theorem dX11_state_32 : decode cX11_state 32 = .ok (.iload_n 2, 1) := by decide +kernel
theorem dX11_state_33 : decode cX11_state 33 = .ok (.invokevirtual 379, 3) := by decide +kernel
theorem dX11_state_36 : decode cX11_state 36 = .ok (.ireturn, 1) := by decide +kernel
theorem dX11_force_0 : decode cX11_force 0 = .ok (.aload_n 0, 1) := by decide +kernel
theorem dX11_force_1 : decode cX11_force 1 = .ok (.iload_n 1, 1) := by decide +kernel
theorem dX11_force_2 : decode cX11_force 2 = .ok (.invokevirtual 319, 3) := by decide +kernel
theorem dX11_force_5 : decode cX11_force 5 = .ok (.ifCond .eq 20, 3) := by decide +kernel
theorem dX11_force_8 : decode cX11_force 8 = .ok (.aload_n 0, 1) := by decide +kernel
theorem dX11_force_9 : decode cX11_force 9 = .ok (.iload_n 2, 1) := by decide +kernel
theorem dX11_force_10 : decode cX11_force 10 = .ok (.invokevirtual 373, 3) := by decide +kernel
theorem dX11_force_13 : decode cX11_force 13 = .ok (.ifCond .eq 12, 3) := by decide +kernel
theorem dX11_force_16 : decode cX11_force 16 = .ok (.iload_n 3, 1) := by decide +kernel
theorem dX11_force_17 : decode cX11_force 17 = .ok (.ifCond .lt 8, 3) := by decide +kernel
theorem dX11_force_20 : decode cX11_force 20 = .ok (.iload_n 3, 1) := by decide +kernel
theorem dX11_force_21 : decode cX11_force 21 = .ok (.iconst 5, 1) := by decide +kernel
theorem dX11_force_22 : decode cX11_force 22 = .ok (.if_icmp .le 6, 3) := by decide +kernel
theorem dX11_force_25 : decode cX11_force 25 = .ok (.bipush (-3), 2) := by decide +kernel
theorem dX11_force_27 : decode cX11_force 27 = .ok (.ireturn, 1) := by decide +kernel
theorem dX11_force_28 : decode cX11_force 28 = .ok (.aload_n 0, 1) := by decide +kernel
theorem dX11_force_29 : decode cX11_force 29 = .ok (.iload_n 2, 1) := by decide +kernel
theorem dX11_force_30 : decode cX11_force 30 = .ok (.invokevirtual 376, 3) := by decide +kernel
theorem dX11_force_33 : decode cX11_force 33 = .ok (.iload_n 3, 1) := by decide +kernel
theorem dX11_force_34 : decode cX11_force 34 = .ok (.iconst 5, 1) := by decide +kernel
theorem dX11_force_35 : decode cX11_force 35 = .ok (.if_icmp .ne 10, 3) := by decide +kernel
theorem dX11_force_38 : decode cX11_force 38 = .ok (.aload_n 0, 1) := by decide +kernel
theorem dX11_force_39 : decode cX11_force 39 = .ok (.getfield 173, 3) := by decide +kernel
theorem dX11_force_42 : decode cX11_force 42 = .ok (.iload_n 1, 1) := by decide +kernel
theorem dX11_force_43 : decode cX11_force 43 = .ok (.iaload, 1) := by decide +kernel
theorem dX11_force_44 : decode cX11_force 44 = .ok (.ireturn, 1) := by decide +kernel
theorem dX11_force_45 : decode cX11_force 45 = .ok (.aload_n 0, 1) := by decide +kernel
theorem dX11_force_46 : decode cX11_force 46 = .ok (.getfield 188, 3) := by decide +kernel
theorem dX11_force_49 : decode cX11_force 49 = .ok (.iload_n 1, 1) := by decide +kernel
theorem dX11_force_50 : decode cX11_force 50 = .ok (.baload, 1) := by decide +kernel
theorem dX11_force_51 : decode cX11_force 51 = .ok (.ifCond .eq 18, 3) := by decide +kernel
theorem dX11_force_54 : decode cX11_force 54 = .ok (.aload_n 0, 1) := by decide +kernel
theorem dX11_force_55 : decode cX11_force 55 = .ok (.getfield 176, 3) := by decide +kernel
theorem dX11_force_58 : decode cX11_force 58 = .ok (.iload_n 1, 1) := by decide +kernel
theorem dX11_force_59 : decode cX11_force 59 = .ok (.iaload, 1) := by decide +kernel
theorem dX11_force_60 : decode cX11_force 60 = .ok (.aload_n 0, 1) := by decide +kernel
theorem dX11_force_61 : decode cX11_force 61 = .ok (.getfield 161, 3) := by decide +kernel
theorem dX11_force_64 : decode cX11_force 64 = .ok (.iload_n 1, 1) := by decide +kernel
theorem dX11_force_65 : decode cX11_force 65 = .ok (.iaload, 1) := by decide +kernel
theorem dX11_force_66 : decode cX11_force 66 = .ok (.if_icmp .gt 6, 3) := by decide +kernel
theorem dX11_force_69 : decode cX11_force 69 = .ok (.bipush (-2), 2) := by decide +kernel
theorem dX11_force_71 : decode cX11_force 71 = .ok (.ireturn, 1) := by decide +kernel
theorem dX11_force_72 : decode cX11_force 72 = .ok (.iload_n 3, 1) := by decide +kernel
theorem dX11_force_73 : decode cX11_force 73 = .ok (.tableswitch 75 0 3 #[31, 38, 61, 68], 31) := by decide +kernel
theorem dX11_force_104 : decode cX11_force 104 = .ok (.aload_n 0, 1) := by decide +kernel
theorem dX11_force_105 : decode cX11_force 105 = .ok (.getfield 161, 3) := by decide +kernel
theorem dX11_force_108 : decode cX11_force 108 = .ok (.iload_n 1, 1) := by decide +kernel
theorem dX11_force_109 : decode cX11_force 109 = .ok (.iaload, 1) := by decide +kernel
theorem dX11_force_110 : decode cX11_force 110 = .ok (.ireturn, 1) := by decide +kernel
theorem dX11_force_111 : decode cX11_force 111 = .ok (.aload_n 0, 1) := by decide +kernel
theorem dX11_force_112 : decode cX11_force 112 = .ok (.getfield 176, 3) := by decide +kernel
theorem dX11_force_115 : decode cX11_force 115 = .ok (.iload_n 1, 1) := by decide +kernel
theorem dX11_force_116 : decode cX11_force 116 = .ok (.iaload, 1) := by decide +kernel
theorem dX11_force_117 : decode cX11_force 117 = .ok (.ldc_w 345, 3) := by decide +kernel
theorem dX11_force_120 : decode cX11_force 120 = .ok (.if_icmp .ne 7, 3) := by decide +kernel
theorem dX11_force_123 : decode cX11_force 123 = .ok (.iconst (-1), 1) := by decide +kernel
theorem dX11_force_124 : decode cX11_force 124 = .ok (.goto 9, 3) := by decide +kernel
theorem dX11_force_127 : decode cX11_force 127 = .ok (.aload_n 0, 1) := by decide +kernel
theorem dX11_force_128 : decode cX11_force 128 = .ok (.getfield 176, 3) := by decide +kernel
theorem dX11_force_131 : decode cX11_force 131 = .ok (.iload_n 1, 1) := by decide +kernel
theorem dX11_force_132 : decode cX11_force 132 = .ok (.iaload, 1) := by decide +kernel
theorem dX11_force_133 : decode cX11_force 133 = .ok (.ireturn, 1) := by decide +kernel
theorem dX11_force_134 : decode cX11_force 134 = .ok (.aload_n 0, 1) := by decide +kernel
theorem dX11_force_135 : decode cX11_force 135 = .ok (.getfield 179, 3) := by decide +kernel
theorem dX11_force_138 : decode cX11_force 138 = .ok (.iload_n 1, 1) := by decide +kernel
theorem dX11_force_139 : decode cX11_force 139 = .ok (.iaload, 1) := by decide +kernel
theorem dX11_force_140 : decode cX11_force 140 = .ok (.ireturn, 1) := by decide +kernel
theorem dX11_force_141 : decode cX11_force 141 = .ok (.aload_n 0, 1) := by decide +kernel
theorem dX11_force_142 : decode cX11_force 142 = .ok (.getfield 182, 3) := by decide +kernel
theorem dX11_force_145 : decode cX11_force 145 = .ok (.iload_n 1, 1) := by decide +kernel
theorem dX11_force_146 : decode cX11_force 146 = .ok (.iaload, 1) := by decide +kernel
theorem dX11_force_147 : decode cX11_force 147 = .ok (.ireturn, 1) := by decide +kernel
theorem dX11_force_148 : decode cX11_force 148 = .ok (.aload_n 0, 1) := by decide +kernel
theorem dX11_force_149 : decode cX11_force 149 = .ok (.getfield 185, 3) := by decide +kernel
theorem dX11_force_152 : decode cX11_force 152 = .ok (.iload_n 1, 1) := by decide +kernel
theorem dX11_force_153 : decode cX11_force 153 = .ok (.iaload, 1) := by decide +kernel
theorem dX11_force_154 : decode cX11_force 154 = .ok (.ireturn, 1) := by decide +kernel
theorem dX11_bound_0 : decode cX11_bound 0 = .ok (.aload_n 0, 1) := by decide +kernel
theorem dX11_bound_1 : decode cX11_bound 1 = .ok (.iload_n 1, 1) := by decide +kernel
theorem dX11_bound_2 : decode cX11_bound 2 = .ok (.invokevirtual 303, 3) := by decide +kernel
theorem dX11_bound_5 : decode cX11_bound 5 = .ok (.ifCond .eq 18, 3) := by decide +kernel
theorem dX11_bound_8 : decode cX11_bound 8 = .ok (.iload_n 2, 1) := by decide +kernel
theorem dX11_bound_9 : decode cX11_bound 9 = .ok (.invokestatic 259, 3) := by decide +kernel
theorem dX11_bound_12 : decode cX11_bound 12 = .ok (.ifCond .eq 11, 3) := by decide +kernel
theorem dX11_bound_15 : decode cX11_bound 15 = .ok (.aload_n 0, 1) := by decide +kernel
theorem dX11_bound_16 : decode cX11_bound 16 = .ok (.iload_n 3, 1) := by decide +kernel
theorem dX11_bound_17 : decode cX11_bound 17 = .ok (.invokevirtual 373, 3) := by decide +kernel
theorem dX11_bound_20 : decode cX11_bound 20 = .ok (.ifCond .ne 5, 3) := by decide +kernel
theorem dX11_bound_23 : decode cX11_bound 23 = .ok (.iconst (-1), 1) := by decide +kernel
theorem dX11_bound_24 : decode cX11_bound 24 = .ok (.ireturn, 1) := by decide +kernel
theorem dX11_bound_25 : decode cX11_bound 25 = .ok (.aload_n 0, 1) := by decide +kernel
theorem dX11_bound_26 : decode cX11_bound 26 = .ok (.iload_n 3, 1) := by decide +kernel
theorem dX11_bound_27 : decode cX11_bound 27 = .ok (.invokevirtual 376, 3) := by decide +kernel
theorem dX11_bound_30 : decode cX11_bound 30 = .ok (.iconst 0, 1) := by decide +kernel
theorem dX11_bound_31 : decode cX11_bound 31 = .ok (.istore 4, 2) := by decide +kernel
theorem dX11_bound_33 : decode cX11_bound 33 = .ok (.iload 4, 2) := by decide +kernel
theorem dX11_bound_35 : decode cX11_bound 35 = .ok (.aload_n 0, 1) := by decide +kernel
theorem dX11_bound_36 : decode cX11_bound 36 = .ok (.getfield 310, 3) := by decide +kernel
theorem dX11_bound_39 : decode cX11_bound 39 = .ok (.if_icmp .ge 60, 3) := by decide +kernel
theorem dX11_bound_42 : decode cX11_bound 42 = .ok (.aload_n 0, 1) := by decide +kernel
theorem dX11_bound_43 : decode cX11_bound 43 = .ok (.iload_n 1, 1) := by decide +kernel
theorem dX11_bound_44 : decode cX11_bound 44 = .ok (.iload 4, 2) := by decide +kernel
theorem dX11_bound_46 : decode cX11_bound 46 = .ok (.invokevirtual 352, 3) := by decide +kernel
theorem dX11_bound_49 : decode cX11_bound 49 = .ok (.ifCond .eq 44, 3) := by decide +kernel
theorem dX11_bound_52 : decode cX11_bound 52 = .ok (.aload_n 0, 1) := by decide +kernel
theorem dX11_bound_53 : decode cX11_bound 53 = .ok (.iload 4, 2) := by decide +kernel
theorem dX11_bound_55 : decode cX11_bound 55 = .ok (.iload_n 2, 1) := by decide +kernel
theorem dX11_bound_56 : decode cX11_bound 56 = .ok (.invokevirtual 379, 3) := by decide +kernel
theorem dX11_bound_59 : decode cX11_bound 59 = .ok (.bipush 6, 2) := by decide +kernel
theorem dX11_bound_61 : decode cX11_bound 61 = .ok (.if_icmp .ne 32, 3) := by decide +kernel
theorem dX11_bound_64 : decode cX11_bound 64 = .ok (.aload_n 0, 1) := by decide +kernel
theorem dX11_bound_65 : decode cX11_bound 65 = .ok (.getfield 110, 3) := by decide +kernel
theorem dX11_bound_68 : decode cX11_bound 68 = .ok (.iload 4, 2) := by decide +kernel
theorem dX11_bound_70 : decode cX11_bound 70 = .ok (.iaload, 1) := by decide +kernel
theorem dX11_bound_71 : decode cX11_bound 71 = .ok (.iload_n 1, 1) := by decide +kernel
theorem dX11_bound_72 : decode cX11_bound 72 = .ok (.if_icmp .ne 13, 3) := by decide +kernel
theorem dX11_bound_75 : decode cX11_bound 75 = .ok (.aload_n 0, 1) := by decide +kernel
theorem dX11_bound_76 : decode cX11_bound 76 = .ok (.getfield 113, 3) := by decide +kernel
theorem dX11_bound_79 : decode cX11_bound 79 = .ok (.iload 4, 2) := by decide +kernel
theorem dX11_bound_81 : decode cX11_bound 81 = .ok (.iaload, 1) := by decide +kernel
theorem dX11_bound_82 : decode cX11_bound 82 = .ok (.goto 10, 3) := by decide +kernel
theorem dX11_bound_85 : decode cX11_bound 85 = .ok (.aload_n 0, 1) := by decide +kernel
theorem dX11_bound_86 : decode cX11_bound 86 = .ok (.getfield 110, 3) := by decide +kernel
theorem dX11_bound_89 : decode cX11_bound 89 = .ok (.iload 4, 2) := by decide +kernel
theorem dX11_bound_91 : decode cX11_bound 91 = .ok (.iaload, 1) := by decide +kernel
theorem dX11_bound_92 : decode cX11_bound 92 = .ok (.ireturn, 1) := by decide +kernel
theorem dX11_bound_93 : decode cX11_bound 93 = .ok (.iinc 4 1, 3) := by decide +kernel
theorem dX11_bound_96 : decode cX11_bound 96 = .ok (.goto (-63), 3) := by decide +kernel
theorem dX11_bound_99 : decode cX11_bound 99 = .ok (.iconst (-1), 1) := by decide +kernel
theorem dX11_bound_100 : decode cX11_bound 100 = .ok (.ireturn, 1) := by decide +kernel
theorem dX11_backOf_0 : decode cX11_backOf 0 = .ok (.aload_n 0, 1) := by decide +kernel
theorem dX11_backOf_1 : decode cX11_backOf 1 = .ok (.getfield 128, 3) := by decide +kernel
theorem dX11_backOf_4 : decode cX11_backOf 4 = .ok (.iload_n 1, 1) := by decide +kernel
theorem dX11_backOf_5 : decode cX11_backOf 5 = .ok (.iaload, 1) := by decide +kernel
theorem dX11_backOf_6 : decode cX11_backOf 6 = .ok (.istore_n 3, 1) := by decide +kernel
theorem dX11_backOf_7 : decode cX11_backOf 7 = .ok (.aload_n 0, 1) := by decide +kernel
theorem dX11_backOf_8 : decode cX11_backOf 8 = .ok (.iload_n 3, 1) := by decide +kernel
theorem dX11_backOf_9 : decode cX11_backOf 9 = .ok (.iload_n 2, 1) := by decide +kernel
theorem dX11_backOf_10 : decode cX11_backOf 10 = .ok (.invokevirtual 379, 3) := by decide +kernel
theorem dX11_backOf_13 : decode cX11_backOf 13 = .ok (.istore 4, 2) := by decide +kernel
theorem dX11_backOf_15 : decode cX11_backOf 15 = .ok (.iload 4, 2) := by decide +kernel
theorem dX11_backOf_17 : decode cX11_backOf 17 = .ok (.iconst 3, 1) := by decide +kernel
theorem dX11_backOf_18 : decode cX11_backOf 18 = .ok (.if_icmp .lt 10, 3) := by decide +kernel
theorem dX11_backOf_21 : decode cX11_backOf 21 = .ok (.iload 4, 2) := by decide +kernel
theorem dX11_backOf_23 : decode cX11_backOf 23 = .ok (.bipush 6, 2) := by decide +kernel
theorem dX11_backOf_25 : decode cX11_backOf 25 = .ok (.if_icmp .ne 5, 3) := by decide +kernel
theorem dX11_backOf_28 : decode cX11_backOf 28 = .ok (.iconst 0, 1) := by decide +kernel
theorem dX11_backOf_29 : decode cX11_backOf 29 = .ok (.ireturn, 1) := by decide +kernel
theorem dX11_backOf_30 : decode cX11_backOf 30 = .ok (.aload_n 0, 1) := by decide +kernel
theorem dX11_backOf_31 : decode cX11_backOf 31 = .ok (.iload_n 3, 1) := by decide +kernel
theorem dX11_backOf_32 : decode cX11_backOf 32 = .ok (.invokevirtual 336, 3) := by decide +kernel
theorem dX11_backOf_35 : decode cX11_backOf 35 = .ok (.aload_n 0, 1) := by decide +kernel
theorem dX11_backOf_36 : decode cX11_backOf 36 = .ok (.getfield 149, 3) := by decide +kernel
theorem dX11_backOf_39 : decode cX11_backOf 39 = .ok (.bipush 10, 2) := by decide +kernel
theorem dX11_backOf_41 : decode cX11_backOf 41 = .ok (.iload 4, 2) := by decide +kernel
theorem dX11_backOf_43 : decode cX11_backOf 43 = .ok (.iastore, 1) := by decide +kernel
theorem dX11_backOf_44 : decode cX11_backOf 44 = .ok (.iload 4, 2) := by decide +kernel
theorem dX11_backOf_46 : decode cX11_backOf 46 = .ok (.bipush 9, 2) := by decide +kernel
theorem dX11_backOf_48 : decode cX11_backOf 48 = .ok (.if_icmp .ne 56, 3) := by decide +kernel
theorem dX11_backOf_51 : decode cX11_backOf 51 = .ok (.aload_n 0, 1) := by decide +kernel
theorem dX11_backOf_52 : decode cX11_backOf 52 = .ok (.getfield 149, 3) := by decide +kernel
theorem dX11_backOf_55 : decode cX11_backOf 55 = .ok (.bipush 10, 2) := by decide +kernel
theorem dX11_backOf_57 : decode cX11_backOf 57 = .ok (.aload_n 0, 1) := by decide +kernel
theorem dX11_backOf_58 : decode cX11_backOf 58 = .ok (.getfield 185, 3) := by decide +kernel
theorem dX11_backOf_61 : decode cX11_backOf 61 = .ok (.iload_n 3, 1) := by decide +kernel
theorem dX11_backOf_62 : decode cX11_backOf 62 = .ok (.iaload, 1) := by decide +kernel
theorem dX11_backOf_63 : decode cX11_backOf 63 = .ok (.iconst 1, 1) := by decide +kernel
theorem dX11_backOf_64 : decode cX11_backOf 64 = .ok (.aload_n 0, 1) := by decide +kernel
theorem dX11_backOf_65 : decode cX11_backOf 65 = .ok (.getfield 131, 3) := by decide +kernel
theorem dX11_backOf_68 : decode cX11_backOf 68 = .ok (.iload_n 1, 1) := by decide +kernel
theorem dX11_backOf_69 : decode cX11_backOf 69 = .ok (.iaload, 1) := by decide +kernel
theorem dX11_backOf_70 : decode cX11_backOf 70 = .ok (.iadd, 1) := by decide +kernel
theorem dX11_backOf_71 : decode cX11_backOf 71 = .ok (.if_icmp .ne 8, 3) := by decide +kernel
theorem dX11_backOf_74 : decode cX11_backOf 74 = .ok (.bipush 9, 2) := by decide +kernel
theorem dX11_backOf_76 : decode cX11_backOf 76 = .ok (.goto 27, 3) := by decide +kernel
theorem dX11_backOf_79 : decode cX11_backOf 79 = .ok (.aload_n 0, 1) := by decide +kernel
theorem dX11_backOf_80 : decode cX11_backOf 80 = .ok (.getfield 185, 3) := by decide +kernel
theorem dX11_backOf_83 : decode cX11_backOf 83 = .ok (.iload_n 3, 1) := by decide +kernel
theorem dX11_backOf_84 : decode cX11_backOf 84 = .ok (.iaload, 1) := by decide +kernel
theorem dX11_backOf_85 : decode cX11_backOf 85 = .ok (.iconst 2, 1) := by decide +kernel
theorem dX11_backOf_86 : decode cX11_backOf 86 = .ok (.aload_n 0, 1) := by decide +kernel
theorem dX11_backOf_87 : decode cX11_backOf 87 = .ok (.getfield 131, 3) := by decide +kernel
theorem dX11_backOf_90 : decode cX11_backOf 90 = .ok (.iload_n 1, 1) := by decide +kernel
theorem dX11_backOf_91 : decode cX11_backOf 91 = .ok (.iaload, 1) := by decide +kernel
theorem dX11_backOf_92 : decode cX11_backOf 92 = .ok (.isub, 1) := by decide +kernel
theorem dX11_backOf_93 : decode cX11_backOf 93 = .ok (.if_icmp .ne 8, 3) := by decide +kernel
theorem dX11_backOf_96 : decode cX11_backOf 96 = .ok (.bipush 10, 2) := by decide +kernel
theorem dX11_backOf_98 : decode cX11_backOf 98 = .ok (.goto 5, 3) := by decide +kernel
theorem dX11_backOf_101 : decode cX11_backOf 101 = .ok (.bipush 11, 2) := by decide +kernel
theorem dX11_backOf_103 : decode cX11_backOf 103 = .ok (.iastore, 1) := by decide +kernel
theorem dX11_backOf_104 : decode cX11_backOf 104 = .ok (.iload 4, 2) := by decide +kernel
theorem dX11_backOf_106 : decode cX11_backOf 106 = .ok (.bipush 6, 2) := by decide +kernel
theorem dX11_backOf_108 : decode cX11_backOf 108 = .ok (.if_icmp .le 23, 3) := by decide +kernel
theorem dX11_backOf_111 : decode cX11_backOf 111 = .ok (.aload_n 0, 1) := by decide +kernel
theorem dX11_backOf_112 : decode cX11_backOf 112 = .ok (.getfield 149, 3) := by decide +kernel
theorem dX11_backOf_115 : decode cX11_backOf 115 = .ok (.bipush 11, 2) := by decide +kernel
theorem dX11_backOf_117 : decode cX11_backOf 117 = .ok (.aload_n 0, 1) := by decide +kernel
theorem dX11_backOf_118 : decode cX11_backOf 118 = .ok (.getfield 176, 3) := by decide +kernel
theorem dX11_backOf_121 : decode cX11_backOf 121 = .ok (.iload_n 3, 1) := by decide +kernel
theorem dX11_backOf_122 : decode cX11_backOf 122 = .ok (.iaload, 1) := by decide +kernel
theorem dX11_backOf_123 : decode cX11_backOf 123 = .ok (.aload_n 0, 1) := by decide +kernel
theorem dX11_backOf_124 : decode cX11_backOf 124 = .ok (.getfield 161, 3) := by decide +kernel
theorem dX11_backOf_127 : decode cX11_backOf 127 = .ok (.iload_n 3, 1) := by decide +kernel
theorem dX11_backOf_128 : decode cX11_backOf 128 = .ok (.iaload, 1) := by decide +kernel
theorem dX11_backOf_129 : decode cX11_backOf 129 = .ok (.isub, 1) := by decide +kernel
theorem dX11_backOf_130 : decode cX11_backOf 130 = .ok (.iastore, 1) := by decide +kernel
theorem dX11_backOf_131 : decode cX11_backOf 131 = .ok (.aload_n 0, 1) := by decide +kernel
theorem dX11_backOf_132 : decode cX11_backOf 132 = .ok (.iload_n 3, 1) := by decide +kernel
theorem dX11_backOf_133 : decode cX11_backOf 133 = .ok (.iconst 4, 1) := by decide +kernel
theorem dX11_backOf_134 : decode cX11_backOf 134 = .ok (.invokevirtual 342, 3) := by decide +kernel
theorem dX11_backOf_137 : decode cX11_backOf 137 = .ok (.istore 5, 2) := by decide +kernel
theorem dX11_backOf_139 : decode cX11_backOf 139 = .ok (.iload 5, 2) := by decide +kernel
theorem dX11_backOf_141 : decode cX11_backOf 141 = .ok (.iconst (-1), 1) := by decide +kernel
theorem dX11_backOf_142 : decode cX11_backOf 142 = .ok (.if_icmp .ne 5, 3) := by decide +kernel
theorem dX11_backOf_145 : decode cX11_backOf 145 = .ok (.iconst 0, 1) := by decide +kernel
theorem dX11_backOf_146 : decode cX11_backOf 146 = .ok (.ireturn, 1) := by decide +kernel
theorem dX11_backOf_147 : decode cX11_backOf 147 = .ok (.bipush 16, 2) := by decide +kernel
theorem dX11_backOf_149 : decode cX11_backOf 149 = .ok (.aload_n 0, 1) := by decide +kernel
theorem dX11_backOf_150 : decode cX11_backOf 150 = .ok (.iload_n 3, 1) := by decide +kernel
theorem dX11_backOf_151 : decode cX11_backOf 151 = .ok (.invokevirtual 326, 3) := by decide +kernel
theorem dX11_backOf_154 : decode cX11_backOf 154 = .ok (.imul, 1) := by decide +kernel
theorem dX11_backOf_155 : decode cX11_backOf 155 = .ok (.iload 5, 2) := by decide +kernel
theorem dX11_backOf_157 : decode cX11_backOf 157 = .ok (.iadd, 1) := by decide +kernel
theorem dX11_backOf_158 : decode cX11_backOf 158 = .ok (.istore 6, 2) := by decide +kernel
theorem dX11_backOf_160 : decode cX11_backOf 160 = .ok (.aload_n 0, 1) := by decide +kernel
theorem dX11_backOf_161 : decode cX11_backOf 161 = .ok (.aload_n 0, 1) := by decide +kernel
theorem dX11_backOf_162 : decode cX11_backOf 162 = .ok (.getfield 55, 3) := by decide +kernel
theorem dX11_backOf_165 : decode cX11_backOf 165 = .ok (.iload 6, 2) := by decide +kernel
theorem dX11_backOf_167 : decode cX11_backOf 167 = .ok (.iaload, 1) := by decide +kernel
theorem dX11_backOf_168 : decode cX11_backOf 168 = .ok (.aload_n 0, 1) := by decide +kernel
theorem dX11_backOf_169 : decode cX11_backOf 169 = .ok (.getfield 58, 3) := by decide +kernel
theorem dX11_backOf_172 : decode cX11_backOf 172 = .ok (.iload 6, 2) := by decide +kernel
theorem dX11_backOf_174 : decode cX11_backOf 174 = .ok (.iaload, 1) := by decide +kernel
theorem dX11_backOf_175 : decode cX11_backOf 175 = .ok (.invokevirtual 329, 3) := by decide +kernel
theorem dX11_backOf_178 : decode cX11_backOf 178 = .ok (.istore 7, 2) := by decide +kernel
theorem dX11_backOf_180 : decode cX11_backOf 180 = .ok (.iload 7, 2) := by decide +kernel
theorem dX11_backOf_182 : decode cX11_backOf 182 = .ok (.ifCond .ge 7, 3) := by decide +kernel
theorem dX11_backOf_185 : decode cX11_backOf 185 = .ok (.iconst 0, 1) := by decide +kernel
theorem dX11_backOf_186 : decode cX11_backOf 186 = .ok (.goto 17, 3) := by decide +kernel
theorem dX11_backOf_189 : decode cX11_backOf 189 = .ok (.iload 7, 2) := by decide +kernel
theorem dX11_backOf_191 : decode cX11_backOf 191 = .ok (.bipush 100, 2) := by decide +kernel
theorem dX11_backOf_193 : decode cX11_backOf 193 = .ok (.if_icmp .le 8, 3) := by decide +kernel
theorem dX11_backOf_196 : decode cX11_backOf 196 = .ok (.bipush 100, 2) := by decide +kernel
theorem dX11_backOf_198 : decode cX11_backOf 198 = .ok (.goto 5, 3) := by decide +kernel
theorem dX11_backOf_201 : decode cX11_backOf 201 = .ok (.iload 7, 2) := by decide +kernel
theorem dX11_backOf_203 : decode cX11_backOf 203 = .ok (.istore 7, 2) := by decide +kernel
theorem dX11_backOf_205 : decode cX11_backOf 205 = .ok (.aload_n 0, 1) := by decide +kernel
theorem dX11_backOf_206 : decode cX11_backOf 206 = .ok (.getfield 134, 3) := by decide +kernel
theorem dX11_backOf_209 : decode cX11_backOf 209 = .ok (.iload_n 1, 1) := by decide +kernel
theorem dX11_backOf_210 : decode cX11_backOf 210 = .ok (.iaload, 1) := by decide +kernel
theorem dX11_backOf_211 : decode cX11_backOf 211 = .ok (.iload 7, 2) := by decide +kernel
theorem dX11_backOf_213 : decode cX11_backOf 213 = .ok (.imul, 1) := by decide +kernel
theorem dX11_backOf_214 : decode cX11_backOf 214 = .ok (.bipush 100, 2) := by decide +kernel
theorem dX11_backOf_216 : decode cX11_backOf 216 = .ok (.idiv, 1) := by decide +kernel
theorem dX11_backOf_217 : decode cX11_backOf 217 = .ok (.ireturn, 1) := by decide +kernel
theorem dX11_goes_0 : decode cX11_goes 0 = .ok (.iload_n 1, 1) := by decide +kernel
theorem dX11_goes_1 : decode cX11_goes 1 = .ok (.ifCond .lt 26, 3) := by decide +kernel
theorem dX11_goes_4 : decode cX11_goes 4 = .ok (.iload_n 1, 1) := by decide +kernel
theorem dX11_goes_5 : decode cX11_goes 5 = .ok (.aload_n 0, 1) := by decide +kernel
theorem dX11_goes_6 : decode cX11_goes 6 = .ok (.getfield 316, 3) := by decide +kernel
theorem dX11_goes_9 : decode cX11_goes 9 = .ok (.if_icmp .ge 18, 3) := by decide +kernel
theorem dX11_goes_12 : decode cX11_goes 12 = .ok (.iload_n 2, 1) := by decide +kernel
theorem dX11_goes_13 : decode cX11_goes 13 = .ok (.invokestatic 259, 3) := by decide +kernel
theorem dX11_goes_16 : decode cX11_goes 16 = .ok (.ifCond .eq 11, 3) := by decide +kernel
theorem dX11_goes_19 : decode cX11_goes 19 = .ok (.aload_n 0, 1) := by decide +kernel
theorem dX11_goes_20 : decode cX11_goes 20 = .ok (.iload_n 3, 1) := by decide +kernel
theorem dX11_goes_21 : decode cX11_goes 21 = .ok (.invokevirtual 373, 3) := by decide +kernel
theorem dX11_goes_24 : decode cX11_goes 24 = .ok (.ifCond .ne 5, 3) := by decide +kernel
theorem dX11_goes_27 : decode cX11_goes 27 = .ok (.iconst (-1), 1) := by decide +kernel
theorem dX11_goes_28 : decode cX11_goes 28 = .ok (.ireturn, 1) := by decide +kernel
theorem dX11_goes_29 : decode cX11_goes 29 = .ok (.aload_n 0, 1) := by decide +kernel
theorem dX11_goes_30 : decode cX11_goes 30 = .ok (.iload_n 3, 1) := by decide +kernel
theorem dX11_goes_31 : decode cX11_goes 31 = .ok (.invokevirtual 376, 3) := by decide +kernel
theorem dX11_goes_34 : decode cX11_goes 34 = .ok (.aload_n 0, 1) := by decide +kernel
theorem dX11_goes_35 : decode cX11_goes 35 = .ok (.iload_n 1, 1) := by decide +kernel
theorem dX11_goes_36 : decode cX11_goes 36 = .ok (.iload_n 2, 1) := by decide +kernel
theorem dX11_goes_37 : decode cX11_goes 37 = .ok (.invokevirtual 382, 3) := by decide +kernel
theorem dX11_goes_40 : decode cX11_goes 40 = .ok (.ireturn, 1) := by decide +kernel
theorem dX11_owes_0 : decode cX11_owes 0 = .ok (.aload_n 0, 1) := by decide +kernel
theorem dX11_owes_1 : decode cX11_owes 1 = .ok (.iload_n 1, 1) := by decide +kernel
theorem dX11_owes_2 : decode cX11_owes 2 = .ok (.invokevirtual 303, 3) := by decide +kernel
theorem dX11_owes_5 : decode cX11_owes 5 = .ok (.ifCond .eq 18, 3) := by decide +kernel
theorem dX11_owes_8 : decode cX11_owes 8 = .ok (.iload_n 2, 1) := by decide +kernel
theorem dX11_owes_9 : decode cX11_owes 9 = .ok (.invokestatic 259, 3) := by decide +kernel
theorem dX11_owes_12 : decode cX11_owes 12 = .ok (.ifCond .eq 11, 3) := by decide +kernel
theorem dX11_owes_15 : decode cX11_owes 15 = .ok (.aload_n 0, 1) := by decide +kernel
theorem dX11_owes_16 : decode cX11_owes 16 = .ok (.iload_n 3, 1) := by decide +kernel
theorem dX11_owes_17 : decode cX11_owes 17 = .ok (.invokevirtual 373, 3) := by decide +kernel
theorem dX11_owes_20 : decode cX11_owes 20 = .ok (.ifCond .ne 5, 3) := by decide +kernel
theorem dX11_owes_23 : decode cX11_owes 23 = .ok (.iconst 0, 1) := by decide +kernel
theorem dX11_owes_24 : decode cX11_owes 24 = .ok (.ireturn, 1) := by decide +kernel
theorem dX11_owes_25 : decode cX11_owes 25 = .ok (.aload_n 0, 1) := by decide +kernel
theorem dX11_owes_26 : decode cX11_owes 26 = .ok (.iload_n 3, 1) := by decide +kernel
theorem dX11_owes_27 : decode cX11_owes 27 = .ok (.invokevirtual 376, 3) := by decide +kernel
theorem dX11_owes_30 : decode cX11_owes 30 = .ok (.iconst 0, 1) := by decide +kernel
theorem dX11_owes_31 : decode cX11_owes 31 = .ok (.istore 4, 2) := by decide +kernel
theorem dX11_owes_33 : decode cX11_owes 33 = .ok (.iconst 0, 1) := by decide +kernel
theorem dX11_owes_34 : decode cX11_owes 34 = .ok (.istore 5, 2) := by decide +kernel
theorem dX11_owes_36 : decode cX11_owes 36 = .ok (.iload 5, 2) := by decide +kernel
theorem dX11_owes_38 : decode cX11_owes 38 = .ok (.aload_n 0, 1) := by decide +kernel
theorem dX11_owes_39 : decode cX11_owes 39 = .ok (.getfield 316, 3) := by decide +kernel
theorem dX11_owes_42 : decode cX11_owes 42 = .ok (.if_icmp .ge 106, 3) := by decide +kernel
theorem dX11_owes_45 : decode cX11_owes 45 = .ok (.aload_n 0, 1) := by decide +kernel
theorem dX11_owes_46 : decode cX11_owes 46 = .ok (.getfield 128, 3) := by decide +kernel
theorem dX11_owes_49 : decode cX11_owes 49 = .ok (.iload 5, 2) := by decide +kernel
theorem dX11_owes_51 : decode cX11_owes 51 = .ok (.iaload, 1) := by decide +kernel
theorem dX11_owes_52 : decode cX11_owes 52 = .ok (.istore 6, 2) := by decide +kernel
theorem dX11_owes_54 : decode cX11_owes 54 = .ok (.aload_n 0, 1) := by decide +kernel
theorem dX11_owes_55 : decode cX11_owes 55 = .ok (.iload_n 1, 1) := by decide +kernel
theorem dX11_owes_56 : decode cX11_owes 56 = .ok (.iload 6, 2) := by decide +kernel
theorem dX11_owes_58 : decode cX11_owes 58 = .ok (.invokevirtual 352, 3) := by decide +kernel
theorem dX11_owes_61 : decode cX11_owes 61 = .ok (.ifCond .ne 6, 3) := by decide +kernel
theorem dX11_owes_64 : decode cX11_owes 64 = .ok (.goto 78, 3) := by decide +kernel
theorem dX11_owes_67 : decode cX11_owes 67 = .ok (.aload_n 0, 1) := by decide +kernel
theorem dX11_owes_68 : decode cX11_owes 68 = .ok (.getfield 131, 3) := by decide +kernel
theorem dX11_owes_71 : decode cX11_owes 71 = .ok (.iload 5, 2) := by decide +kernel
theorem dX11_owes_73 : decode cX11_owes 73 = .ok (.iaload, 1) := by decide +kernel
theorem dX11_owes_74 : decode cX11_owes 74 = .ok (.ifCond .ne 22, 3) := by decide +kernel
theorem dX11_owes_77 : decode cX11_owes 77 = .ok (.aload_n 0, 1) := by decide +kernel
theorem dX11_owes_78 : decode cX11_owes 78 = .ok (.getfield 110, 3) := by decide +kernel
theorem dX11_owes_81 : decode cX11_owes 81 = .ok (.iload 6, 2) := by decide +kernel
theorem dX11_owes_83 : decode cX11_owes 83 = .ok (.iaload, 1) := by decide +kernel
theorem dX11_owes_84 : decode cX11_owes 84 = .ok (.iload_n 1, 1) := by decide +kernel
theorem dX11_owes_85 : decode cX11_owes 85 = .ok (.if_icmp .ne 7, 3) := by decide +kernel
theorem dX11_owes_88 : decode cX11_owes 88 = .ok (.iconst 1, 1) := by decide +kernel
theorem dX11_owes_89 : decode cX11_owes 89 = .ok (.goto 23, 3) := by decide +kernel
theorem dX11_owes_92 : decode cX11_owes 92 = .ok (.iconst 0, 1) := by decide +kernel
theorem dX11_owes_93 : decode cX11_owes 93 = .ok (.goto 19, 3) := by decide +kernel
theorem dX11_owes_96 : decode cX11_owes 96 = .ok (.aload_n 0, 1) := by decide +kernel
theorem dX11_owes_97 : decode cX11_owes 97 = .ok (.getfield 113, 3) := by decide +kernel
theorem dX11_owes_100 : decode cX11_owes 100 = .ok (.iload 6, 2) := by decide +kernel
theorem dX11_owes_102 : decode cX11_owes 102 = .ok (.iaload, 1) := by decide +kernel
theorem dX11_owes_103 : decode cX11_owes 103 = .ok (.iload_n 1, 1) := by decide +kernel
theorem dX11_owes_104 : decode cX11_owes 104 = .ok (.if_icmp .ne 7, 3) := by decide +kernel
theorem dX11_owes_107 : decode cX11_owes 107 = .ok (.iconst 1, 1) := by decide +kernel
theorem dX11_owes_108 : decode cX11_owes 108 = .ok (.goto 4, 3) := by decide +kernel
theorem dX11_owes_111 : decode cX11_owes 111 = .ok (.iconst 0, 1) := by decide +kernel
theorem dX11_owes_112 : decode cX11_owes 112 = .ok (.istore 7, 2) := by decide +kernel
theorem dX11_owes_114 : decode cX11_owes 114 = .ok (.iload 4, 2) := by decide +kernel
theorem dX11_owes_116 : decode cX11_owes 116 = .ok (.iload 7, 2) := by decide +kernel
theorem dX11_owes_118 : decode cX11_owes 118 = .ok (.ifCond .eq 14, 3) := by decide +kernel
theorem dX11_owes_121 : decode cX11_owes 121 = .ok (.aload_n 0, 1) := by decide +kernel
theorem dX11_owes_122 : decode cX11_owes 122 = .ok (.iload 5, 2) := by decide +kernel
theorem dX11_owes_124 : decode cX11_owes 124 = .ok (.iload_n 2, 1) := by decide +kernel
theorem dX11_owes_125 : decode cX11_owes 125 = .ok (.invokevirtual 382, 3) := by decide +kernel
theorem dX11_owes_128 : decode cX11_owes 128 = .ok (.ineg, 1) := by decide +kernel
theorem dX11_owes_129 : decode cX11_owes 129 = .ok (.goto 10, 3) := by decide +kernel
theorem dX11_owes_132 : decode cX11_owes 132 = .ok (.aload_n 0, 1) := by decide +kernel
theorem dX11_owes_133 : decode cX11_owes 133 = .ok (.iload 5, 2) := by decide +kernel
theorem dX11_owes_135 : decode cX11_owes 135 = .ok (.iload_n 2, 1) := by decide +kernel
theorem dX11_owes_136 : decode cX11_owes 136 = .ok (.invokevirtual 382, 3) := by decide +kernel
theorem dX11_owes_139 : decode cX11_owes 139 = .ok (.iadd, 1) := by decide +kernel
theorem dX11_owes_140 : decode cX11_owes 140 = .ok (.istore 4, 2) := by decide +kernel
theorem dX11_owes_142 : decode cX11_owes 142 = .ok (.iinc 5 1, 3) := by decide +kernel
theorem dX11_owes_145 : decode cX11_owes 145 = .ok (.goto (-109), 3) := by decide +kernel
theorem dX11_owes_148 : decode cX11_owes 148 = .ok (.iload 4, 2) := by decide +kernel
theorem dX11_owes_150 : decode cX11_owes 150 = .ok (.ireturn, 1) := by decide +kernel
theorem dX11_changed_0 : decode cX11_changed 0 = .ok (.iload_n 1, 1) := by decide +kernel
theorem dX11_changed_1 : decode cX11_changed 1 = .ok (.invokestatic 259, 3) := by decide +kernel
theorem dX11_changed_4 : decode cX11_changed 4 = .ok (.ifCond .eq 19, 3) := by decide +kernel
theorem dX11_changed_7 : decode cX11_changed 7 = .ok (.aload_n 0, 1) := by decide +kernel
theorem dX11_changed_8 : decode cX11_changed 8 = .ok (.iload_n 2, 1) := by decide +kernel
theorem dX11_changed_9 : decode cX11_changed 9 = .ok (.invokevirtual 373, 3) := by decide +kernel
theorem dX11_changed_12 : decode cX11_changed 12 = .ok (.ifCond .eq 11, 3) := by decide +kernel
theorem dX11_changed_15 : decode cX11_changed 15 = .ok (.aload_n 0, 1) := by decide +kernel
theorem dX11_changed_16 : decode cX11_changed 16 = .ok (.iload_n 3, 1) := by decide +kernel
theorem dX11_changed_17 : decode cX11_changed 17 = .ok (.invokevirtual 373, 3) := by decide +kernel
theorem dX11_changed_20 : decode cX11_changed 20 = .ok (.ifCond .ne 5, 3) := by decide +kernel
theorem dX11_changed_23 : decode cX11_changed 23 = .ok (.iconst (-1), 1) := by decide +kernel
theorem dX11_changed_24 : decode cX11_changed 24 = .ok (.ireturn, 1) := by decide +kernel
theorem dX11_changed_25 : decode cX11_changed 25 = .ok (.aload_n 0, 1) := by decide +kernel
theorem dX11_changed_26 : decode cX11_changed 26 = .ok (.iload_n 2, 1) := by decide +kernel
theorem dX11_changed_27 : decode cX11_changed 27 = .ok (.invokevirtual 376, 3) := by decide +kernel
theorem dX11_changed_30 : decode cX11_changed 30 = .ok (.iconst 0, 1) := by decide +kernel
theorem dX11_changed_31 : decode cX11_changed 31 = .ok (.istore 4, 2) := by decide +kernel
theorem dX11_changed_33 : decode cX11_changed 33 = .ok (.iload 4, 2) := by decide +kernel
theorem dX11_changed_35 : decode cX11_changed 35 = .ok (.aload_n 0, 1) := by decide +kernel
theorem dX11_changed_36 : decode cX11_changed 36 = .ok (.getfield 310, 3) := by decide +kernel
theorem dX11_changed_39 : decode cX11_changed 39 = .ok (.if_icmp .ge 23, 3) := by decide +kernel
theorem dX11_changed_42 : decode cX11_changed 42 = .ok (.aload_n 0, 1) := by decide +kernel
theorem dX11_changed_43 : decode cX11_changed 43 = .ok (.getfield 191, 3) := by decide +kernel
theorem dX11_changed_46 : decode cX11_changed 46 = .ok (.iload 4, 2) := by decide +kernel
theorem dX11_changed_48 : decode cX11_changed 48 = .ok (.aload_n 0, 1) := by decide +kernel
theorem dX11_changed_49 : decode cX11_changed 49 = .ok (.iload 4, 2) := by decide +kernel
theorem dX11_changed_51 : decode cX11_changed 51 = .ok (.iload_n 1, 1) := by decide +kernel
theorem dX11_changed_52 : decode cX11_changed 52 = .ok (.invokevirtual 379, 3) := by decide +kernel
theorem dX11_changed_55 : decode cX11_changed 55 = .ok (.iastore, 1) := by decide +kernel
theorem dX11_changed_56 : decode cX11_changed 56 = .ok (.iinc 4 1, 3) := by decide +kernel
theorem dX11_changed_59 : decode cX11_changed 59 = .ok (.goto (-26), 3) := by decide +kernel
theorem dX11_changed_62 : decode cX11_changed 62 = .ok (.aload_n 0, 1) := by decide +kernel
theorem dX11_changed_63 : decode cX11_changed 63 = .ok (.iload_n 3, 1) := by decide +kernel
theorem dX11_changed_64 : decode cX11_changed 64 = .ok (.invokevirtual 376, 3) := by decide +kernel
theorem dX11_changed_67 : decode cX11_changed 67 = .ok (.iconst 0, 1) := by decide +kernel
theorem dX11_changed_68 : decode cX11_changed 68 = .ok (.istore 4, 2) := by decide +kernel
theorem dX11_changed_70 : decode cX11_changed 70 = .ok (.iload 4, 2) := by decide +kernel
theorem dX11_changed_72 : decode cX11_changed 72 = .ok (.aload_n 0, 1) := by decide +kernel
theorem dX11_changed_73 : decode cX11_changed 73 = .ok (.getfield 310, 3) := by decide +kernel
theorem dX11_changed_76 : decode cX11_changed 76 = .ok (.if_icmp .ge 29, 3) := by decide +kernel
theorem dX11_changed_79 : decode cX11_changed 79 = .ok (.aload_n 0, 1) := by decide +kernel
theorem dX11_changed_80 : decode cX11_changed 80 = .ok (.iload 4, 2) := by decide +kernel
theorem dX11_changed_82 : decode cX11_changed 82 = .ok (.iload_n 1, 1) := by decide +kernel
theorem dX11_changed_83 : decode cX11_changed 83 = .ok (.invokevirtual 379, 3) := by decide +kernel
theorem dX11_changed_86 : decode cX11_changed 86 = .ok (.aload_n 0, 1) := by decide +kernel
theorem dX11_changed_87 : decode cX11_changed 87 = .ok (.getfield 191, 3) := by decide +kernel
theorem dX11_changed_90 : decode cX11_changed 90 = .ok (.iload 4, 2) := by decide +kernel
theorem dX11_changed_92 : decode cX11_changed 92 = .ok (.iaload, 1) := by decide +kernel
theorem dX11_changed_93 : decode cX11_changed 93 = .ok (.if_icmp .eq 6, 3) := by decide +kernel
theorem dX11_changed_96 : decode cX11_changed 96 = .ok (.iload 4, 2) := by decide +kernel
theorem dX11_changed_98 : decode cX11_changed 98 = .ok (.ireturn, 1) := by decide +kernel
theorem dX11_changed_99 : decode cX11_changed 99 = .ok (.iinc 4 1, 3) := by decide +kernel
theorem dX11_changed_102 : decode cX11_changed 102 = .ok (.goto (-32), 3) := by decide +kernel
theorem dX11_changed_105 : decode cX11_changed 105 = .ok (.iconst (-1), 1) := by decide +kernel
theorem dX11_changed_106 : decode cX11_changed 106 = .ok (.ireturn, 1) := by decide +kernel
theorem dX11_count_0 : decode cX11_count 0 = .ok (.iload_n 1, 1) := by decide +kernel
theorem dX11_count_1 : decode cX11_count 1 = .ok (.tableswitch 69 0 5 #[39, 44, 49, 54, 59, 64], 39) := by decide +kernel
theorem dX11_count_40 : decode cX11_count 40 = .ok (.aload_n 0, 1) := by decide +kernel
theorem dX11_count_41 : decode cX11_count 41 = .ok (.getfield 300, 3) := by decide +kernel
theorem dX11_count_44 : decode cX11_count 44 = .ok (.ireturn, 1) := by decide +kernel
theorem dX11_count_45 : decode cX11_count 45 = .ok (.aload_n 0, 1) := by decide +kernel
theorem dX11_count_46 : decode cX11_count 46 = .ok (.getfield 310, 3) := by decide +kernel
theorem dX11_count_49 : decode cX11_count 49 = .ok (.ireturn, 1) := by decide +kernel
theorem dX11_count_50 : decode cX11_count 50 = .ok (.aload_n 0, 1) := by decide +kernel
theorem dX11_count_51 : decode cX11_count 51 = .ok (.getfield 316, 3) := by decide +kernel
theorem dX11_count_54 : decode cX11_count 54 = .ok (.ireturn, 1) := by decide +kernel
theorem dX11_count_55 : decode cX11_count 55 = .ok (.aload_n 0, 1) := by decide +kernel
theorem dX11_count_56 : decode cX11_count 56 = .ok (.getfield 313, 3) := by decide +kernel
theorem dX11_count_59 : decode cX11_count 59 = .ok (.ireturn, 1) := by decide +kernel
theorem dX11_count_60 : decode cX11_count 60 = .ok (.aload_n 0, 1) := by decide +kernel
theorem dX11_count_61 : decode cX11_count 61 = .ok (.getfield 262, 3) := by decide +kernel
theorem dX11_count_64 : decode cX11_count 64 = .ok (.ireturn, 1) := by decide +kernel
theorem dX11_count_65 : decode cX11_count 65 = .ok (.aload_n 0, 1) := by decide +kernel
theorem dX11_count_66 : decode cX11_count 66 = .ok (.getfield 198, 3) := by decide +kernel
theorem dX11_count_69 : decode cX11_count 69 = .ok (.ireturn, 1) := by decide +kernel
theorem dX11_count_70 : decode cX11_count 70 = .ok (.iconst (-1), 1) := by decide +kernel
theorem dX11_count_71 : decode cX11_count 71 = .ok (.ireturn, 1) := by decide +kernel
end
section
theorem dJ9_max_7cf53_0 : decode cJ9_max_7cf53 0 = .ok (.iload_n 0, 1) := by decide +kernel
theorem dJ9_max_7cf53_1 : decode cJ9_max_7cf53 1 = .ok (.iload_n 1, 1) := by decide +kernel
theorem dJ9_max_7cf53_2 : decode cJ9_max_7cf53 2 = .ok (.if_icmp .lt 7, 3) := by decide +kernel
theorem dJ9_max_7cf53_5 : decode cJ9_max_7cf53 5 = .ok (.iload_n 0, 1) := by decide +kernel
theorem dJ9_max_7cf53_6 : decode cJ9_max_7cf53 6 = .ok (.goto 4, 3) := by decide +kernel
theorem dJ9_max_7cf53_9 : decode cJ9_max_7cf53 9 = .ok (.iload_n 1, 1) := by decide +kernel
theorem dJ9_max_7cf53_10 : decode cJ9_max_7cf53 10 = .ok (.ireturn, 1) := by decide +kernel
theorem dJ9_min_7cf53_0 : decode cJ9_min_7cf53 0 = .ok (.iload_n 0, 1) := by decide +kernel
theorem dJ9_min_7cf53_1 : decode cJ9_min_7cf53 1 = .ok (.iload_n 1, 1) := by decide +kernel
theorem dJ9_min_7cf53_2 : decode cJ9_min_7cf53 2 = .ok (.if_icmp .gt 7, 3) := by decide +kernel
theorem dJ9_min_7cf53_5 : decode cJ9_min_7cf53 5 = .ok (.iload_n 0, 1) := by decide +kernel
theorem dJ9_min_7cf53_6 : decode cJ9_min_7cf53 6 = .ok (.goto 4, 3) := by decide +kernel
theorem dJ9_min_7cf53_9 : decode cJ9_min_7cf53 9 = .ok (.iload_n 1, 1) := by decide +kernel
theorem dJ9_min_7cf53_10 : decode cJ9_min_7cf53 10 = .ok (.ireturn, 1) := by decide +kernel
theorem dJ0_charAt_5068e_0 : decode cJ0_charAt_5068e 0 = .ok (.aload_n 0, 1) := by decide +kernel
theorem dJ0_charAt_5068e_1 : decode cJ0_charAt_5068e 1 = .ok (.invokevirtual 492, 3) := by decide +kernel
theorem dJ0_charAt_5068e_4 : decode cJ0_charAt_5068e 4 = .ok (.ifCond .eq 12, 3) := by decide +kernel
theorem dJ0_charAt_5068e_7 : decode cJ0_charAt_5068e 7 = .ok (.aload_n 0, 1) := by decide +kernel
theorem dJ0_charAt_5068e_8 : decode cJ0_charAt_5068e 8 = .ok (.getfield 9, 3) := by decide +kernel
theorem dJ0_charAt_5068e_11 : decode cJ0_charAt_5068e 11 = .ok (.iload_n 1, 1) := by decide +kernel
theorem dJ0_charAt_5068e_12 : decode cJ0_charAt_5068e 12 = .ok (.invokestatic 495, 3) := by decide +kernel
theorem dJ0_charAt_5068e_15 : decode cJ0_charAt_5068e 15 = .ok (.ireturn, 1) := by decide +kernel
theorem dJ0_charAt_5068e_16 : decode cJ0_charAt_5068e 16 = .ok (.aload_n 0, 1) := by decide +kernel
theorem dJ0_charAt_5068e_17 : decode cJ0_charAt_5068e 17 = .ok (.getfield 9, 3) := by decide +kernel
theorem dJ0_charAt_5068e_20 : decode cJ0_charAt_5068e 20 = .ok (.iload_n 1, 1) := by decide +kernel
theorem dJ0_charAt_5068e_21 : decode cJ0_charAt_5068e 21 = .ok (.invokestatic 498, 3) := by decide +kernel
theorem dJ0_charAt_5068e_24 : decode cJ0_charAt_5068e 24 = .ok (.ireturn, 1) := by decide +kernel
theorem dJ0_isLatin1_aae02_0 : decode cJ0_isLatin1_aae02 0 = .ok (.getstatic 38, 3) := by decide +kernel
theorem dJ0_isLatin1_aae02_3 : decode cJ0_isLatin1_aae02 3 = .ok (.ifCond .eq 14, 3) := by decide +kernel
theorem dJ0_isLatin1_aae02_6 : decode cJ0_isLatin1_aae02 6 = .ok (.aload_n 0, 1) := by decide +kernel
theorem dJ0_isLatin1_aae02_7 : decode cJ0_isLatin1_aae02 7 = .ok (.getfield 15, 3) := by decide +kernel
theorem dJ0_isLatin1_aae02_10 : decode cJ0_isLatin1_aae02 10 = .ok (.ifCond .ne 7, 3) := by decide +kernel
theorem dJ0_isLatin1_aae02_13 : decode cJ0_isLatin1_aae02 13 = .ok (.iconst 1, 1) := by decide +kernel
theorem dJ0_isLatin1_aae02_14 : decode cJ0_isLatin1_aae02 14 = .ok (.goto 4, 3) := by decide +kernel
theorem dJ0_isLatin1_aae02_17 : decode cJ0_isLatin1_aae02 17 = .ok (.iconst 0, 1) := by decide +kernel
theorem dJ0_isLatin1_aae02_18 : decode cJ0_isLatin1_aae02 18 = .ok (.ireturn, 1) := by decide +kernel
theorem dJ0_checkIndex_df160_0 : decode cJ0_checkIndex_df160 0 = .ok (.iload_n 0, 1) := by decide +kernel
theorem dJ0_checkIndex_df160_1 : decode cJ0_checkIndex_df160 1 = .ok (.iload_n 1, 1) := by decide +kernel
theorem dJ0_checkIndex_df160_2 : decode cJ0_checkIndex_df160 2 = .ok (.getstatic 1053, 3) := by decide +kernel
theorem dJ0_checkIndex_df160_5 : decode cJ0_checkIndex_df160 5 = .ok (.invokestatic 1059, 3) := by decide +kernel
theorem dJ0_checkIndex_df160_8 : decode cJ0_checkIndex_df160 8 = .ok (.pop, 1) := by decide +kernel
theorem dJ0_checkIndex_df160_9 : decode cJ0_checkIndex_df160 9 = .ok (.return_, 1) := by decide +kernel
theorem dJ1_charAt_3b067_0 : decode cJ1_charAt_3b067 0 = .ok (.iload_n 1, 1) := by decide +kernel
theorem dJ1_charAt_3b067_1 : decode cJ1_charAt_3b067 1 = .ok (.aload_n 0, 1) := by decide +kernel
theorem dJ1_charAt_3b067_2 : decode cJ1_charAt_3b067 2 = .ok (.arraylength, 1) := by decide +kernel
theorem dJ1_charAt_3b067_3 : decode cJ1_charAt_3b067 3 = .ok (.invokestatic 9, 3) := by decide +kernel
theorem dJ1_charAt_3b067_6 : decode cJ1_charAt_3b067 6 = .ok (.aload_n 0, 1) := by decide +kernel
theorem dJ1_charAt_3b067_7 : decode cJ1_charAt_3b067 7 = .ok (.iload_n 1, 1) := by decide +kernel
theorem dJ1_charAt_3b067_8 : decode cJ1_charAt_3b067 8 = .ok (.baload, 1) := by decide +kernel
theorem dJ1_charAt_3b067_9 : decode cJ1_charAt_3b067 9 = .ok (.sipush 255, 3) := by decide +kernel
theorem dJ1_charAt_3b067_12 : decode cJ1_charAt_3b067 12 = .ok (.iand, 1) := by decide +kernel
theorem dJ1_charAt_3b067_13 : decode cJ1_charAt_3b067 13 = .ok (.i2c, 1) := by decide +kernel
theorem dJ1_charAt_3b067_14 : decode cJ1_charAt_3b067 14 = .ok (.ireturn, 1) := by decide +kernel
theorem dJ2_getChar_3b067_0 : decode cJ2_getChar_3b067 0 = .ok (.getstatic 44, 3) := by decide +kernel
theorem dJ2_getChar_3b067_3 : decode cJ2_getChar_3b067 3 = .ok (.ifCond .ne 25, 3) := by decide +kernel
theorem dJ2_getChar_3b067_6 : decode cJ2_getChar_3b067 6 = .ok (.iload_n 1, 1) := by decide +kernel
theorem dJ2_getChar_3b067_7 : decode cJ2_getChar_3b067 7 = .ok (.ifCond .lt 11, 3) := by decide +kernel
theorem dJ2_getChar_3b067_10 : decode cJ2_getChar_3b067 10 = .ok (.iload_n 1, 1) := by decide +kernel
theorem dJ2_getChar_3b067_11 : decode cJ2_getChar_3b067 11 = .ok (.aload_n 0, 1) := by decide +kernel
theorem dJ2_getChar_3b067_12 : decode cJ2_getChar_3b067 12 = .ok (.invokestatic 48, 3) := by decide +kernel
theorem dJ2_getChar_3b067_15 : decode cJ2_getChar_3b067 15 = .ok (.if_icmp .lt 13, 3) := by decide +kernel
theorem dJ2_getChar_3b067_18 : decode cJ2_getChar_3b067 18 = .ok (.new 52, 3) := by decide +kernel
theorem dJ2_getChar_3b067_21 : decode cJ2_getChar_3b067 21 = .ok (.dup, 1) := by decide +kernel
theorem dJ2_getChar_3b067_22 : decode cJ2_getChar_3b067 22 = .ok (.ldc 54, 2) := by decide +kernel
theorem dJ2_getChar_3b067_24 : decode cJ2_getChar_3b067 24 = .ok (.invokespecial 56, 3) := by decide +kernel
theorem dJ2_getChar_3b067_27 : decode cJ2_getChar_3b067 27 = .ok (.athrow, 1) := by decide +kernel
theorem dJ2_getChar_3b067_28 : decode cJ2_getChar_3b067 28 = .ok (.iload_n 1, 1) := by decide +kernel
theorem dJ2_getChar_3b067_29 : decode cJ2_getChar_3b067 29 = .ok (.iconst 1, 1) := by decide +kernel
theorem dJ2_getChar_3b067_30 : decode cJ2_getChar_3b067 30 = .ok (.ishl, 1) := by decide +kernel
theorem dJ2_getChar_3b067_31 : decode cJ2_getChar_3b067 31 = .ok (.istore_n 1, 1) := by decide +kernel
theorem dJ2_getChar_3b067_32 : decode cJ2_getChar_3b067 32 = .ok (.aload_n 0, 1) := by decide +kernel
theorem dJ2_getChar_3b067_33 : decode cJ2_getChar_3b067 33 = .ok (.iload_n 1, 1) := by decide +kernel
theorem dJ2_getChar_3b067_34 : decode cJ2_getChar_3b067 34 = .ok (.iinc 1 1, 3) := by decide +kernel
theorem dJ2_getChar_3b067_37 : decode cJ2_getChar_3b067 37 = .ok (.baload, 1) := by decide +kernel
theorem dJ2_getChar_3b067_38 : decode cJ2_getChar_3b067 38 = .ok (.sipush 255, 3) := by decide +kernel
theorem dJ2_getChar_3b067_41 : decode cJ2_getChar_3b067 41 = .ok (.iand, 1) := by decide +kernel
theorem dJ2_getChar_3b067_42 : decode cJ2_getChar_3b067 42 = .ok (.getstatic 59, 3) := by decide +kernel
theorem dJ2_getChar_3b067_45 : decode cJ2_getChar_3b067 45 = .ok (.ishl, 1) := by decide +kernel
theorem dJ2_getChar_3b067_46 : decode cJ2_getChar_3b067 46 = .ok (.aload_n 0, 1) := by decide +kernel
theorem dJ2_getChar_3b067_47 : decode cJ2_getChar_3b067 47 = .ok (.iload_n 1, 1) := by decide +kernel
theorem dJ2_getChar_3b067_48 : decode cJ2_getChar_3b067 48 = .ok (.baload, 1) := by decide +kernel
theorem dJ2_getChar_3b067_49 : decode cJ2_getChar_3b067 49 = .ok (.sipush 255, 3) := by decide +kernel
theorem dJ2_getChar_3b067_52 : decode cJ2_getChar_3b067 52 = .ok (.iand, 1) := by decide +kernel
theorem dJ2_getChar_3b067_53 : decode cJ2_getChar_3b067 53 = .ok (.getstatic 63, 3) := by decide +kernel
theorem dJ2_getChar_3b067_56 : decode cJ2_getChar_3b067 56 = .ok (.ishl, 1) := by decide +kernel
theorem dJ2_getChar_3b067_57 : decode cJ2_getChar_3b067 57 = .ok (.ior, 1) := by decide +kernel
theorem dJ2_getChar_3b067_58 : decode cJ2_getChar_3b067 58 = .ok (.i2c, 1) := by decide +kernel
theorem dJ2_getChar_3b067_59 : decode cJ2_getChar_3b067 59 = .ok (.ireturn, 1) := by decide +kernel
theorem dJ2_length_9d52b_0 : decode cJ2_length_9d52b 0 = .ok (.aload_n 0, 1) := by decide +kernel
theorem dJ2_length_9d52b_1 : decode cJ2_length_9d52b 1 = .ok (.arraylength, 1) := by decide +kernel
theorem dJ2_length_9d52b_2 : decode cJ2_length_9d52b 2 = .ok (.iconst 1, 1) := by decide +kernel
theorem dJ2_length_9d52b_3 : decode cJ2_length_9d52b 3 = .ok (.ishr, 1) := by decide +kernel
theorem dJ2_length_9d52b_4 : decode cJ2_length_9d52b 4 = .ok (.ireturn, 1) := by decide +kernel
theorem dJ2_charAt_3b067_0 : decode cJ2_charAt_3b067 0 = .ok (.iload_n 1, 1) := by decide +kernel
theorem dJ2_charAt_3b067_1 : decode cJ2_charAt_3b067 1 = .ok (.aload_n 0, 1) := by decide +kernel
theorem dJ2_charAt_3b067_2 : decode cJ2_charAt_3b067 2 = .ok (.invokestatic 67, 3) := by decide +kernel
theorem dJ2_charAt_3b067_5 : decode cJ2_charAt_3b067 5 = .ok (.aload_n 0, 1) := by decide +kernel
theorem dJ2_charAt_3b067_6 : decode cJ2_charAt_3b067 6 = .ok (.iload_n 1, 1) := by decide +kernel
theorem dJ2_charAt_3b067_7 : decode cJ2_charAt_3b067 7 = .ok (.invokestatic 71, 3) := by decide +kernel
theorem dJ2_charAt_3b067_10 : decode cJ2_charAt_3b067 10 = .ok (.ireturn, 1) := by decide +kernel
theorem dJ2_checkIndex_2214a_0 : decode cJ2_checkIndex_2214a 0 = .ok (.iload_n 0, 1) := by decide +kernel
theorem dJ2_checkIndex_2214a_1 : decode cJ2_checkIndex_2214a 1 = .ok (.aload_n 1, 1) := by decide +kernel
theorem dJ2_checkIndex_2214a_2 : decode cJ2_checkIndex_2214a 2 = .ok (.invokestatic 48, 3) := by decide +kernel
theorem dJ2_checkIndex_2214a_5 : decode cJ2_checkIndex_2214a 5 = .ok (.invokestatic 414, 3) := by decide +kernel
theorem dJ2_checkIndex_2214a_8 : decode cJ2_checkIndex_2214a 8 = .ok (.return_, 1) := by decide +kernel
theorem dJ7_fill_53178_0 : decode cJ7_fill_53178 0 = .ok (.iconst 0, 1) := by decide +kernel
theorem dJ7_fill_53178_1 : decode cJ7_fill_53178 1 = .ok (.istore_n 2, 1) := by decide +kernel
theorem dJ7_fill_53178_2 : decode cJ7_fill_53178 2 = .ok (.aload_n 0, 1) := by decide +kernel
theorem dJ7_fill_53178_3 : decode cJ7_fill_53178 3 = .ok (.arraylength, 1) := by decide +kernel
theorem dJ7_fill_53178_4 : decode cJ7_fill_53178 4 = .ok (.istore_n 3, 1) := by decide +kernel
theorem dJ7_fill_53178_5 : decode cJ7_fill_53178 5 = .ok (.iload_n 2, 1) := by decide +kernel
theorem dJ7_fill_53178_6 : decode cJ7_fill_53178 6 = .ok (.iload_n 3, 1) := by decide +kernel
theorem dJ7_fill_53178_7 : decode cJ7_fill_53178 7 = .ok (.if_icmp .ge 13, 3) := by decide +kernel
theorem dJ7_fill_53178_10 : decode cJ7_fill_53178 10 = .ok (.aload_n 0, 1) := by decide +kernel
theorem dJ7_fill_53178_11 : decode cJ7_fill_53178 11 = .ok (.iload_n 2, 1) := by decide +kernel
theorem dJ7_fill_53178_12 : decode cJ7_fill_53178 12 = .ok (.iload_n 1, 1) := by decide +kernel
theorem dJ7_fill_53178_13 : decode cJ7_fill_53178 13 = .ok (.iastore, 1) := by decide +kernel
theorem dJ7_fill_53178_14 : decode cJ7_fill_53178 14 = .ok (.iinc 2 1, 3) := by decide +kernel
theorem dJ7_fill_53178_17 : decode cJ7_fill_53178 17 = .ok (.goto (-12), 3) := by decide +kernel
theorem dJ7_fill_53178_20 : decode cJ7_fill_53178 20 = .ok (.return_, 1) := by decide +kernel
theorem dJ7_copyOf_59c91_0 : decode cJ7_copyOf_59c91 0 = .ok (.iload_n 1, 1) := by decide +kernel
theorem dJ7_copyOf_59c91_1 : decode cJ7_copyOf_59c91 1 = .ok (.aload_n 0, 1) := by decide +kernel
theorem dJ7_copyOf_59c91_2 : decode cJ7_copyOf_59c91 2 = .ok (.arraylength, 1) := by decide +kernel
theorem dJ7_copyOf_59c91_3 : decode cJ7_copyOf_59c91 3 = .ok (.if_icmp .ne 11, 3) := by decide +kernel
theorem dJ7_copyOf_59c91_6 : decode cJ7_copyOf_59c91 6 = .ok (.aload_n 0, 1) := by decide +kernel
theorem dJ7_copyOf_59c91_7 : decode cJ7_copyOf_59c91 7 = .ok (.invokevirtual 316, 3) := by decide +kernel
theorem dJ7_copyOf_59c91_10 : decode cJ7_copyOf_59c91 10 = .ok (.checkcast 317, 3) := by decide +kernel
theorem dJ7_copyOf_59c91_13 : decode cJ7_copyOf_59c91 13 = .ok (.areturn, 1) := by decide +kernel
theorem dJ7_copyOf_59c91_14 : decode cJ7_copyOf_59c91 14 = .ok (.iload_n 1, 1) := by decide +kernel
theorem dJ7_copyOf_59c91_15 : decode cJ7_copyOf_59c91 15 = .ok (.newarray .int, 2) := by decide +kernel
theorem dJ7_copyOf_59c91_17 : decode cJ7_copyOf_59c91 17 = .ok (.astore_n 2, 1) := by decide +kernel
theorem dJ7_copyOf_59c91_18 : decode cJ7_copyOf_59c91 18 = .ok (.aload_n 0, 1) := by decide +kernel
theorem dJ7_copyOf_59c91_19 : decode cJ7_copyOf_59c91 19 = .ok (.iconst 0, 1) := by decide +kernel
theorem dJ7_copyOf_59c91_20 : decode cJ7_copyOf_59c91 20 = .ok (.aload_n 2, 1) := by decide +kernel
theorem dJ7_copyOf_59c91_21 : decode cJ7_copyOf_59c91 21 = .ok (.iconst 0, 1) := by decide +kernel
theorem dJ7_copyOf_59c91_22 : decode cJ7_copyOf_59c91 22 = .ok (.aload_n 0, 1) := by decide +kernel
theorem dJ7_copyOf_59c91_23 : decode cJ7_copyOf_59c91 23 = .ok (.arraylength, 1) := by decide +kernel
theorem dJ7_copyOf_59c91_24 : decode cJ7_copyOf_59c91 24 = .ok (.iload_n 1, 1) := by decide +kernel
theorem dJ7_copyOf_59c91_25 : decode cJ7_copyOf_59c91 25 = .ok (.invokestatic 304, 3) := by decide +kernel
theorem dJ7_copyOf_59c91_28 : decode cJ7_copyOf_59c91 28 = .ok (.invokestatic 150, 3) := by decide +kernel
theorem dJ7_copyOf_59c91_31 : decode cJ7_copyOf_59c91 31 = .ok (.aload_n 2, 1) := by decide +kernel
theorem dJ7_copyOf_59c91_32 : decode cJ7_copyOf_59c91 32 = .ok (.areturn, 1) := by decide +kernel
theorem dJ3_checkIndex_8e157_0 : decode cJ3_checkIndex_8e157 0 = .ok (.iload_n 0, 1) := by decide +kernel
theorem dJ3_checkIndex_8e157_1 : decode cJ3_checkIndex_8e157 1 = .ok (.ifCond .lt 8, 3) := by decide +kernel
theorem dJ3_checkIndex_8e157_4 : decode cJ3_checkIndex_8e157 4 = .ok (.iload_n 0, 1) := by decide +kernel
theorem dJ3_checkIndex_8e157_5 : decode cJ3_checkIndex_8e157 5 = .ok (.iload_n 1, 1) := by decide +kernel
theorem dJ3_checkIndex_8e157_6 : decode cJ3_checkIndex_8e157 6 = .ok (.if_icmp .lt 10, 3) := by decide +kernel
theorem dJ3_checkIndex_8e157_9 : decode cJ3_checkIndex_8e157 9 = .ok (.aload_n 2, 1) := by decide +kernel
theorem dJ3_checkIndex_8e157_10 : decode cJ3_checkIndex_8e157 10 = .ok (.iload_n 0, 1) := by decide +kernel
theorem dJ3_checkIndex_8e157_11 : decode cJ3_checkIndex_8e157 11 = .ok (.iload_n 1, 1) := by decide +kernel
theorem dJ3_checkIndex_8e157_12 : decode cJ3_checkIndex_8e157 12 = .ok (.invokestatic 95, 3) := by decide +kernel
theorem dJ3_checkIndex_8e157_15 : decode cJ3_checkIndex_8e157 15 = .ok (.athrow, 1) := by decide +kernel
theorem dJ3_checkIndex_8e157_16 : decode cJ3_checkIndex_8e157 16 = .ok (.iload_n 0, 1) := by decide +kernel
theorem dJ3_checkIndex_8e157_17 : decode cJ3_checkIndex_8e157 17 = .ok (.ireturn, 1) := by decide +kernel
theorem dL_law_0 : decode cL_law 0 = .ok (.new 7, 3) := by decide +kernel
theorem dL_law_3 : decode cL_law 3 = .ok (.dup, 1) := by decide +kernel
theorem dL_law_4 : decode cL_law 4 = .ok (.invokespecial 9, 3) := by decide +kernel
theorem dL_law_7 : decode cL_law 7 = .ok (.astore_n 1, 1) := by decide +kernel
theorem dL_law_8 : decode cL_law 8 = .ok (.new 10, 3) := by decide +kernel
theorem dL_law_11 : decode cL_law 11 = .ok (.dup, 1) := by decide +kernel
theorem dL_law_12 : decode cL_law 12 = .ok (.invokespecial 12, 3) := by decide +kernel
theorem dL_law_15 : decode cL_law 15 = .ok (.astore_n 2, 1) := by decide +kernel
theorem dL_law_16 : decode cL_law 16 = .ok (.iconst 0, 1) := by decide +kernel
theorem dL_law_17 : decode cL_law 17 = .ok (.istore_n 3, 1) := by decide +kernel
theorem dL_law_18 : decode cL_law 18 = .ok (.iload_n 3, 1) := by decide +kernel
theorem dL_law_19 : decode cL_law 19 = .ok (.aload_n 0, 1) := by decide +kernel
theorem dL_law_20 : decode cL_law 20 = .ok (.arraylength, 1) := by decide +kernel
theorem dL_law_21 : decode cL_law 21 = .ok (.bipush 7, 2) := by decide +kernel
theorem dL_law_23 : decode cL_law 23 = .ok (.isub, 1) := by decide +kernel
theorem dL_law_24 : decode cL_law 24 = .ok (.if_icmp .gt 1072, 3) := by decide +kernel
theorem dL_law_27 : decode cL_law 27 = .ok (.aload_n 0, 1) := by decide +kernel
theorem dL_law_28 : decode cL_law 28 = .ok (.iload_n 3, 1) := by decide +kernel
theorem dL_law_29 : decode cL_law 29 = .ok (.iaload, 1) := by decide +kernel
theorem dL_law_30 : decode cL_law 30 = .ok (.bipush 31, 2) := by decide +kernel
theorem dL_law_32 : decode cL_law 32 = .ok (.iand, 1) := by decide +kernel
theorem dL_law_33 : decode cL_law 33 = .ok (.tableswitch 1057 0 23 #[111, 174, 197, 230, 243, 286, 361, 404, 463, 486, 545, 588, 631, 664, 687, 710, 743, 776, 819, 862, 905, 948, 991, 1034], 111) := by decide +kernel
theorem dL_law_144 : decode cL_law 144 = .ok (.aload_n 1, 1) := by decide +kernel
theorem dL_law_145 : decode cL_law 145 = .ok (.aload_n 0, 1) := by decide +kernel
theorem dL_law_146 : decode cL_law 146 = .ok (.iload_n 3, 1) := by decide +kernel
theorem dL_law_147 : decode cL_law 147 = .ok (.iconst 1, 1) := by decide +kernel
theorem dL_law_148 : decode cL_law 148 = .ok (.iadd, 1) := by decide +kernel
theorem dL_law_149 : decode cL_law 149 = .ok (.iaload, 1) := by decide +kernel
theorem dL_law_150 : decode cL_law 150 = .ok (.aload_n 0, 1) := by decide +kernel
theorem dL_law_151 : decode cL_law 151 = .ok (.iload_n 3, 1) := by decide +kernel
theorem dL_law_152 : decode cL_law 152 = .ok (.iconst 2, 1) := by decide +kernel
theorem dL_law_153 : decode cL_law 153 = .ok (.iadd, 1) := by decide +kernel
theorem dL_law_154 : decode cL_law 154 = .ok (.iaload, 1) := by decide +kernel
theorem dL_law_155 : decode cL_law 155 = .ok (.aload_n 0, 1) := by decide +kernel
theorem dL_law_156 : decode cL_law 156 = .ok (.iload_n 3, 1) := by decide +kernel
theorem dL_law_157 : decode cL_law 157 = .ok (.iconst 3, 1) := by decide +kernel
theorem dL_law_158 : decode cL_law 158 = .ok (.iadd, 1) := by decide +kernel
theorem dL_law_159 : decode cL_law 159 = .ok (.iaload, 1) := by decide +kernel
theorem dL_law_160 : decode cL_law 160 = .ok (.aload_n 0, 1) := by decide +kernel
theorem dL_law_161 : decode cL_law 161 = .ok (.iload_n 3, 1) := by decide +kernel
theorem dL_law_162 : decode cL_law 162 = .ok (.iconst 4, 1) := by decide +kernel
theorem dL_law_163 : decode cL_law 163 = .ok (.iadd, 1) := by decide +kernel
theorem dL_law_164 : decode cL_law 164 = .ok (.iaload, 1) := by decide +kernel
theorem dL_law_165 : decode cL_law 165 = .ok (.aload_n 0, 1) := by decide +kernel
theorem dL_law_166 : decode cL_law 166 = .ok (.iload_n 3, 1) := by decide +kernel
theorem dL_law_167 : decode cL_law 167 = .ok (.iconst 5, 1) := by decide +kernel
theorem dL_law_168 : decode cL_law 168 = .ok (.iadd, 1) := by decide +kernel
theorem dL_law_169 : decode cL_law 169 = .ok (.iaload, 1) := by decide +kernel
theorem dL_law_170 : decode cL_law 170 = .ok (.invokevirtual 13, 3) := by decide +kernel
theorem dL_law_173 : decode cL_law 173 = .ok (.aload_n 2, 1) := by decide +kernel
theorem dL_law_174 : decode cL_law 174 = .ok (.aload_n 0, 1) := by decide +kernel
theorem dL_law_175 : decode cL_law 175 = .ok (.iload_n 3, 1) := by decide +kernel
theorem dL_law_176 : decode cL_law 176 = .ok (.iconst 1, 1) := by decide +kernel
theorem dL_law_177 : decode cL_law 177 = .ok (.iadd, 1) := by decide +kernel
theorem dL_law_178 : decode cL_law 178 = .ok (.iaload, 1) := by decide +kernel
theorem dL_law_179 : decode cL_law 179 = .ok (.aload_n 0, 1) := by decide +kernel
theorem dL_law_180 : decode cL_law 180 = .ok (.iload_n 3, 1) := by decide +kernel
theorem dL_law_181 : decode cL_law 181 = .ok (.iconst 2, 1) := by decide +kernel
theorem dL_law_182 : decode cL_law 182 = .ok (.iadd, 1) := by decide +kernel
theorem dL_law_183 : decode cL_law 183 = .ok (.iaload, 1) := by decide +kernel
theorem dL_law_184 : decode cL_law 184 = .ok (.aload_n 0, 1) := by decide +kernel
theorem dL_law_185 : decode cL_law 185 = .ok (.iload_n 3, 1) := by decide +kernel
theorem dL_law_186 : decode cL_law 186 = .ok (.iconst 3, 1) := by decide +kernel
theorem dL_law_187 : decode cL_law 187 = .ok (.iadd, 1) := by decide +kernel
theorem dL_law_188 : decode cL_law 188 = .ok (.iaload, 1) := by decide +kernel
theorem dL_law_189 : decode cL_law 189 = .ok (.aload_n 0, 1) := by decide +kernel
theorem dL_law_190 : decode cL_law 190 = .ok (.iload_n 3, 1) := by decide +kernel
theorem dL_law_191 : decode cL_law 191 = .ok (.iconst 4, 1) := by decide +kernel
theorem dL_law_192 : decode cL_law 192 = .ok (.iadd, 1) := by decide +kernel
theorem dL_law_193 : decode cL_law 193 = .ok (.iaload, 1) := by decide +kernel
theorem dL_law_194 : decode cL_law 194 = .ok (.aload_n 0, 1) := by decide +kernel
theorem dL_law_195 : decode cL_law 195 = .ok (.iload_n 3, 1) := by decide +kernel
theorem dL_law_196 : decode cL_law 196 = .ok (.iconst 5, 1) := by decide +kernel
theorem dL_law_197 : decode cL_law 197 = .ok (.iadd, 1) := by decide +kernel
theorem dL_law_198 : decode cL_law 198 = .ok (.iaload, 1) := by decide +kernel
theorem dL_law_199 : decode cL_law 199 = .ok (.invokevirtual 17, 3) := by decide +kernel
theorem dL_law_202 : decode cL_law 202 = .ok (.if_icmp .eq 888, 3) := by decide +kernel
theorem dL_law_205 : decode cL_law 205 = .ok (.iconst 0, 1) := by decide +kernel
theorem dL_law_206 : decode cL_law 206 = .ok (.ireturn, 1) := by decide +kernel
theorem dL_law_207 : decode cL_law 207 = .ok (.aload_n 1, 1) := by decide +kernel
theorem dL_law_208 : decode cL_law 208 = .ok (.aload_n 0, 1) := by decide +kernel
theorem dL_law_209 : decode cL_law 209 = .ok (.iload_n 3, 1) := by decide +kernel
theorem dL_law_210 : decode cL_law 210 = .ok (.iconst 1, 1) := by decide +kernel
theorem dL_law_211 : decode cL_law 211 = .ok (.iadd, 1) := by decide +kernel
theorem dL_law_212 : decode cL_law 212 = .ok (.iaload, 1) := by decide +kernel
theorem dL_law_213 : decode cL_law 213 = .ok (.invokevirtual 18, 3) := by decide +kernel
theorem dL_law_216 : decode cL_law 216 = .ok (.aload_n 2, 1) := by decide +kernel
theorem dL_law_217 : decode cL_law 217 = .ok (.aload_n 0, 1) := by decide +kernel
theorem dL_law_218 : decode cL_law 218 = .ok (.iload_n 3, 1) := by decide +kernel
theorem dL_law_219 : decode cL_law 219 = .ok (.iconst 1, 1) := by decide +kernel
theorem dL_law_220 : decode cL_law 220 = .ok (.iadd, 1) := by decide +kernel
theorem dL_law_221 : decode cL_law 221 = .ok (.iaload, 1) := by decide +kernel
theorem dL_law_222 : decode cL_law 222 = .ok (.invokevirtual 22, 3) := by decide +kernel
theorem dL_law_225 : decode cL_law 225 = .ok (.if_icmp .eq 865, 3) := by decide +kernel
theorem dL_law_228 : decode cL_law 228 = .ok (.iconst 0, 1) := by decide +kernel
theorem dL_law_229 : decode cL_law 229 = .ok (.ireturn, 1) := by decide +kernel
theorem dL_law_230 : decode cL_law 230 = .ok (.aload_n 1, 1) := by decide +kernel
theorem dL_law_231 : decode cL_law 231 = .ok (.aload_n 0, 1) := by decide +kernel
theorem dL_law_232 : decode cL_law 232 = .ok (.iload_n 3, 1) := by decide +kernel
theorem dL_law_233 : decode cL_law 233 = .ok (.iconst 1, 1) := by decide +kernel
theorem dL_law_234 : decode cL_law 234 = .ok (.iadd, 1) := by decide +kernel
theorem dL_law_235 : decode cL_law 235 = .ok (.iaload, 1) := by decide +kernel
theorem dL_law_236 : decode cL_law 236 = .ok (.aload_n 0, 1) := by decide +kernel
theorem dL_law_237 : decode cL_law 237 = .ok (.iload_n 3, 1) := by decide +kernel
theorem dL_law_238 : decode cL_law 238 = .ok (.iconst 2, 1) := by decide +kernel
theorem dL_law_239 : decode cL_law 239 = .ok (.iadd, 1) := by decide +kernel
theorem dL_law_240 : decode cL_law 240 = .ok (.iaload, 1) := by decide +kernel
theorem dL_law_241 : decode cL_law 241 = .ok (.invokevirtual 23, 3) := by decide +kernel
theorem dL_law_244 : decode cL_law 244 = .ok (.aload_n 2, 1) := by decide +kernel
theorem dL_law_245 : decode cL_law 245 = .ok (.aload_n 0, 1) := by decide +kernel
theorem dL_law_246 : decode cL_law 246 = .ok (.iload_n 3, 1) := by decide +kernel
theorem dL_law_247 : decode cL_law 247 = .ok (.iconst 1, 1) := by decide +kernel
theorem dL_law_248 : decode cL_law 248 = .ok (.iadd, 1) := by decide +kernel
theorem dL_law_249 : decode cL_law 249 = .ok (.iaload, 1) := by decide +kernel
theorem dL_law_250 : decode cL_law 250 = .ok (.aload_n 0, 1) := by decide +kernel
theorem dL_law_251 : decode cL_law 251 = .ok (.iload_n 3, 1) := by decide +kernel
theorem dL_law_252 : decode cL_law 252 = .ok (.iconst 2, 1) := by decide +kernel
theorem dL_law_253 : decode cL_law 253 = .ok (.iadd, 1) := by decide +kernel
theorem dL_law_254 : decode cL_law 254 = .ok (.iaload, 1) := by decide +kernel
theorem dL_law_255 : decode cL_law 255 = .ok (.invokevirtual 27, 3) := by decide +kernel
theorem dL_law_258 : decode cL_law 258 = .ok (.if_icmp .eq 832, 3) := by decide +kernel
theorem dL_law_261 : decode cL_law 261 = .ok (.iconst 0, 1) := by decide +kernel
theorem dL_law_262 : decode cL_law 262 = .ok (.ireturn, 1) := by decide +kernel
theorem dL_law_263 : decode cL_law 263 = .ok (.aload_n 1, 1) := by decide +kernel
theorem dL_law_264 : decode cL_law 264 = .ok (.invokevirtual 28, 3) := by decide +kernel
theorem dL_law_267 : decode cL_law 267 = .ok (.aload_n 2, 1) := by decide +kernel
theorem dL_law_268 : decode cL_law 268 = .ok (.invokevirtual 32, 3) := by decide +kernel
theorem dL_law_271 : decode cL_law 271 = .ok (.if_icmp .eq 819, 3) := by decide +kernel
theorem dL_law_274 : decode cL_law 274 = .ok (.iconst 0, 1) := by decide +kernel
theorem dL_law_275 : decode cL_law 275 = .ok (.ireturn, 1) := by decide +kernel
theorem dL_law_276 : decode cL_law 276 = .ok (.aload_n 1, 1) := by decide +kernel
theorem dL_law_277 : decode cL_law 277 = .ok (.aload_n 0, 1) := by decide +kernel
theorem dL_law_278 : decode cL_law 278 = .ok (.iload_n 3, 1) := by decide +kernel
theorem dL_law_279 : decode cL_law 279 = .ok (.iconst 1, 1) := by decide +kernel
theorem dL_law_280 : decode cL_law 280 = .ok (.iadd, 1) := by decide +kernel
theorem dL_law_281 : decode cL_law 281 = .ok (.iaload, 1) := by decide +kernel
theorem dL_law_282 : decode cL_law 282 = .ok (.aload_n 0, 1) := by decide +kernel
theorem dL_law_283 : decode cL_law 283 = .ok (.iload_n 3, 1) := by decide +kernel
theorem dL_law_284 : decode cL_law 284 = .ok (.iconst 2, 1) := by decide +kernel
theorem dL_law_285 : decode cL_law 285 = .ok (.iadd, 1) := by decide +kernel
theorem dL_law_286 : decode cL_law 286 = .ok (.iaload, 1) := by decide +kernel
theorem dL_law_287 : decode cL_law 287 = .ok (.aload_n 0, 1) := by decide +kernel
theorem dL_law_288 : decode cL_law 288 = .ok (.iload_n 3, 1) := by decide +kernel
theorem dL_law_289 : decode cL_law 289 = .ok (.iconst 3, 1) := by decide +kernel
theorem dL_law_290 : decode cL_law 290 = .ok (.iadd, 1) := by decide +kernel
theorem dL_law_291 : decode cL_law 291 = .ok (.iaload, 1) := by decide +kernel
theorem dL_law_292 : decode cL_law 292 = .ok (.invokevirtual 33, 3) := by decide +kernel
theorem dL_law_295 : decode cL_law 295 = .ok (.aload_n 2, 1) := by decide +kernel
theorem dL_law_296 : decode cL_law 296 = .ok (.aload_n 0, 1) := by decide +kernel
theorem dL_law_297 : decode cL_law 297 = .ok (.iload_n 3, 1) := by decide +kernel
theorem dL_law_298 : decode cL_law 298 = .ok (.iconst 1, 1) := by decide +kernel
theorem dL_law_299 : decode cL_law 299 = .ok (.iadd, 1) := by decide +kernel
theorem dL_law_300 : decode cL_law 300 = .ok (.iaload, 1) := by decide +kernel
theorem dL_law_301 : decode cL_law 301 = .ok (.aload_n 0, 1) := by decide +kernel
theorem dL_law_302 : decode cL_law 302 = .ok (.iload_n 3, 1) := by decide +kernel
theorem dL_law_303 : decode cL_law 303 = .ok (.iconst 2, 1) := by decide +kernel
theorem dL_law_304 : decode cL_law 304 = .ok (.iadd, 1) := by decide +kernel
theorem dL_law_305 : decode cL_law 305 = .ok (.iaload, 1) := by decide +kernel
theorem dL_law_306 : decode cL_law 306 = .ok (.aload_n 0, 1) := by decide +kernel
theorem dL_law_307 : decode cL_law 307 = .ok (.iload_n 3, 1) := by decide +kernel
theorem dL_law_308 : decode cL_law 308 = .ok (.iconst 3, 1) := by decide +kernel
theorem dL_law_309 : decode cL_law 309 = .ok (.iadd, 1) := by decide +kernel
theorem dL_law_310 : decode cL_law 310 = .ok (.iaload, 1) := by decide +kernel
theorem dL_law_311 : decode cL_law 311 = .ok (.invokevirtual 37, 3) := by decide +kernel
theorem dL_law_314 : decode cL_law 314 = .ok (.if_icmp .eq 776, 3) := by decide +kernel
theorem dL_law_317 : decode cL_law 317 = .ok (.iconst 0, 1) := by decide +kernel
theorem dL_law_318 : decode cL_law 318 = .ok (.ireturn, 1) := by decide +kernel
theorem dL_law_319 : decode cL_law 319 = .ok (.aload_n 1, 1) := by decide +kernel
theorem dL_law_320 : decode cL_law 320 = .ok (.aload_n 0, 1) := by decide +kernel
theorem dL_law_321 : decode cL_law 321 = .ok (.iload_n 3, 1) := by decide +kernel
theorem dL_law_322 : decode cL_law 322 = .ok (.iconst 1, 1) := by decide +kernel
theorem dL_law_323 : decode cL_law 323 = .ok (.iadd, 1) := by decide +kernel
theorem dL_law_324 : decode cL_law 324 = .ok (.iaload, 1) := by decide +kernel
theorem dL_law_325 : decode cL_law 325 = .ok (.aload_n 0, 1) := by decide +kernel
theorem dL_law_326 : decode cL_law 326 = .ok (.iload_n 3, 1) := by decide +kernel
theorem dL_law_327 : decode cL_law 327 = .ok (.iconst 2, 1) := by decide +kernel
theorem dL_law_328 : decode cL_law 328 = .ok (.iadd, 1) := by decide +kernel
theorem dL_law_329 : decode cL_law 329 = .ok (.iaload, 1) := by decide +kernel
theorem dL_law_330 : decode cL_law 330 = .ok (.aload_n 0, 1) := by decide +kernel
theorem dL_law_331 : decode cL_law 331 = .ok (.iload_n 3, 1) := by decide +kernel
theorem dL_law_332 : decode cL_law 332 = .ok (.iconst 3, 1) := by decide +kernel
theorem dL_law_333 : decode cL_law 333 = .ok (.iadd, 1) := by decide +kernel
theorem dL_law_334 : decode cL_law 334 = .ok (.iaload, 1) := by decide +kernel
theorem dL_law_335 : decode cL_law 335 = .ok (.aload_n 0, 1) := by decide +kernel
theorem dL_law_336 : decode cL_law 336 = .ok (.iload_n 3, 1) := by decide +kernel
theorem dL_law_337 : decode cL_law 337 = .ok (.iconst 4, 1) := by decide +kernel
theorem dL_law_338 : decode cL_law 338 = .ok (.iadd, 1) := by decide +kernel
theorem dL_law_339 : decode cL_law 339 = .ok (.iaload, 1) := by decide +kernel
theorem dL_law_340 : decode cL_law 340 = .ok (.aload_n 0, 1) := by decide +kernel
theorem dL_law_341 : decode cL_law 341 = .ok (.iload_n 3, 1) := by decide +kernel
theorem dL_law_342 : decode cL_law 342 = .ok (.iconst 5, 1) := by decide +kernel
theorem dL_law_343 : decode cL_law 343 = .ok (.iadd, 1) := by decide +kernel
theorem dL_law_344 : decode cL_law 344 = .ok (.iaload, 1) := by decide +kernel
theorem dL_law_345 : decode cL_law 345 = .ok (.aload_n 0, 1) := by decide +kernel
theorem dL_law_346 : decode cL_law 346 = .ok (.iload_n 3, 1) := by decide +kernel
theorem dL_law_347 : decode cL_law 347 = .ok (.bipush 6, 2) := by decide +kernel
theorem dL_law_349 : decode cL_law 349 = .ok (.iadd, 1) := by decide +kernel
theorem dL_law_350 : decode cL_law 350 = .ok (.iaload, 1) := by decide +kernel
theorem dL_law_351 : decode cL_law 351 = .ok (.invokevirtual 38, 3) := by decide +kernel
theorem dL_law_354 : decode cL_law 354 = .ok (.aload_n 2, 1) := by decide +kernel
theorem dL_law_355 : decode cL_law 355 = .ok (.aload_n 0, 1) := by decide +kernel
theorem dL_law_356 : decode cL_law 356 = .ok (.iload_n 3, 1) := by decide +kernel
theorem dL_law_357 : decode cL_law 357 = .ok (.iconst 1, 1) := by decide +kernel
theorem dL_law_358 : decode cL_law 358 = .ok (.iadd, 1) := by decide +kernel
theorem dL_law_359 : decode cL_law 359 = .ok (.iaload, 1) := by decide +kernel
theorem dL_law_360 : decode cL_law 360 = .ok (.aload_n 0, 1) := by decide +kernel
theorem dL_law_361 : decode cL_law 361 = .ok (.iload_n 3, 1) := by decide +kernel
theorem dL_law_362 : decode cL_law 362 = .ok (.iconst 2, 1) := by decide +kernel
theorem dL_law_363 : decode cL_law 363 = .ok (.iadd, 1) := by decide +kernel
theorem dL_law_364 : decode cL_law 364 = .ok (.iaload, 1) := by decide +kernel
theorem dL_law_365 : decode cL_law 365 = .ok (.aload_n 0, 1) := by decide +kernel
theorem dL_law_366 : decode cL_law 366 = .ok (.iload_n 3, 1) := by decide +kernel
theorem dL_law_367 : decode cL_law 367 = .ok (.iconst 3, 1) := by decide +kernel
theorem dL_law_368 : decode cL_law 368 = .ok (.iadd, 1) := by decide +kernel
theorem dL_law_369 : decode cL_law 369 = .ok (.iaload, 1) := by decide +kernel
theorem dL_law_370 : decode cL_law 370 = .ok (.aload_n 0, 1) := by decide +kernel
theorem dL_law_371 : decode cL_law 371 = .ok (.iload_n 3, 1) := by decide +kernel
theorem dL_law_372 : decode cL_law 372 = .ok (.iconst 4, 1) := by decide +kernel
theorem dL_law_373 : decode cL_law 373 = .ok (.iadd, 1) := by decide +kernel
theorem dL_law_374 : decode cL_law 374 = .ok (.iaload, 1) := by decide +kernel
theorem dL_law_375 : decode cL_law 375 = .ok (.aload_n 0, 1) := by decide +kernel
theorem dL_law_376 : decode cL_law 376 = .ok (.iload_n 3, 1) := by decide +kernel
theorem dL_law_377 : decode cL_law 377 = .ok (.iconst 5, 1) := by decide +kernel
theorem dL_law_378 : decode cL_law 378 = .ok (.iadd, 1) := by decide +kernel
theorem dL_law_379 : decode cL_law 379 = .ok (.iaload, 1) := by decide +kernel
theorem dL_law_380 : decode cL_law 380 = .ok (.aload_n 0, 1) := by decide +kernel
theorem dL_law_381 : decode cL_law 381 = .ok (.iload_n 3, 1) := by decide +kernel
theorem dL_law_382 : decode cL_law 382 = .ok (.bipush 6, 2) := by decide +kernel
theorem dL_law_384 : decode cL_law 384 = .ok (.iadd, 1) := by decide +kernel
theorem dL_law_385 : decode cL_law 385 = .ok (.iaload, 1) := by decide +kernel
theorem dL_law_386 : decode cL_law 386 = .ok (.invokevirtual 42, 3) := by decide +kernel
theorem dL_law_389 : decode cL_law 389 = .ok (.if_icmp .eq 701, 3) := by decide +kernel
theorem dL_law_392 : decode cL_law 392 = .ok (.iconst 0, 1) := by decide +kernel
theorem dL_law_393 : decode cL_law 393 = .ok (.ireturn, 1) := by decide +kernel
theorem dL_law_394 : decode cL_law 394 = .ok (.aload_n 1, 1) := by decide +kernel
theorem dL_law_395 : decode cL_law 395 = .ok (.aload_n 0, 1) := by decide +kernel
theorem dL_law_396 : decode cL_law 396 = .ok (.iload_n 3, 1) := by decide +kernel
theorem dL_law_397 : decode cL_law 397 = .ok (.iconst 1, 1) := by decide +kernel
theorem dL_law_398 : decode cL_law 398 = .ok (.iadd, 1) := by decide +kernel
theorem dL_law_399 : decode cL_law 399 = .ok (.iaload, 1) := by decide +kernel
theorem dL_law_400 : decode cL_law 400 = .ok (.aload_n 0, 1) := by decide +kernel
theorem dL_law_401 : decode cL_law 401 = .ok (.iload_n 3, 1) := by decide +kernel
theorem dL_law_402 : decode cL_law 402 = .ok (.iconst 2, 1) := by decide +kernel
theorem dL_law_403 : decode cL_law 403 = .ok (.iadd, 1) := by decide +kernel
theorem dL_law_404 : decode cL_law 404 = .ok (.iaload, 1) := by decide +kernel
theorem dL_law_405 : decode cL_law 405 = .ok (.aload_n 0, 1) := by decide +kernel
theorem dL_law_406 : decode cL_law 406 = .ok (.iload_n 3, 1) := by decide +kernel
theorem dL_law_407 : decode cL_law 407 = .ok (.iconst 3, 1) := by decide +kernel
theorem dL_law_408 : decode cL_law 408 = .ok (.iadd, 1) := by decide +kernel
theorem dL_law_409 : decode cL_law 409 = .ok (.iaload, 1) := by decide +kernel
theorem dL_law_410 : decode cL_law 410 = .ok (.invokevirtual 43, 3) := by decide +kernel
theorem dL_law_413 : decode cL_law 413 = .ok (.aload_n 2, 1) := by decide +kernel
theorem dL_law_414 : decode cL_law 414 = .ok (.aload_n 0, 1) := by decide +kernel
theorem dL_law_415 : decode cL_law 415 = .ok (.iload_n 3, 1) := by decide +kernel
theorem dL_law_416 : decode cL_law 416 = .ok (.iconst 1, 1) := by decide +kernel
theorem dL_law_417 : decode cL_law 417 = .ok (.iadd, 1) := by decide +kernel
theorem dL_law_418 : decode cL_law 418 = .ok (.iaload, 1) := by decide +kernel
theorem dL_law_419 : decode cL_law 419 = .ok (.aload_n 0, 1) := by decide +kernel
theorem dL_law_420 : decode cL_law 420 = .ok (.iload_n 3, 1) := by decide +kernel
theorem dL_law_421 : decode cL_law 421 = .ok (.iconst 2, 1) := by decide +kernel
theorem dL_law_422 : decode cL_law 422 = .ok (.iadd, 1) := by decide +kernel
theorem dL_law_423 : decode cL_law 423 = .ok (.iaload, 1) := by decide +kernel
theorem dL_law_424 : decode cL_law 424 = .ok (.aload_n 0, 1) := by decide +kernel
theorem dL_law_425 : decode cL_law 425 = .ok (.iload_n 3, 1) := by decide +kernel
theorem dL_law_426 : decode cL_law 426 = .ok (.iconst 3, 1) := by decide +kernel
theorem dL_law_427 : decode cL_law 427 = .ok (.iadd, 1) := by decide +kernel
theorem dL_law_428 : decode cL_law 428 = .ok (.iaload, 1) := by decide +kernel
theorem dL_law_429 : decode cL_law 429 = .ok (.invokevirtual 46, 3) := by decide +kernel
theorem dL_law_432 : decode cL_law 432 = .ok (.if_icmp .eq 658, 3) := by decide +kernel
theorem dL_law_435 : decode cL_law 435 = .ok (.iconst 0, 1) := by decide +kernel
theorem dL_law_436 : decode cL_law 436 = .ok (.ireturn, 1) := by decide +kernel
theorem dL_law_437 : decode cL_law 437 = .ok (.aload_n 1, 1) := by decide +kernel
theorem dL_law_438 : decode cL_law 438 = .ok (.aload_n 0, 1) := by decide +kernel
theorem dL_law_439 : decode cL_law 439 = .ok (.iload_n 3, 1) := by decide +kernel
theorem dL_law_440 : decode cL_law 440 = .ok (.iconst 1, 1) := by decide +kernel
theorem dL_law_441 : decode cL_law 441 = .ok (.iadd, 1) := by decide +kernel
theorem dL_law_442 : decode cL_law 442 = .ok (.iaload, 1) := by decide +kernel
theorem dL_law_443 : decode cL_law 443 = .ok (.aload_n 0, 1) := by decide +kernel
theorem dL_law_444 : decode cL_law 444 = .ok (.iload_n 3, 1) := by decide +kernel
theorem dL_law_445 : decode cL_law 445 = .ok (.iconst 2, 1) := by decide +kernel
theorem dL_law_446 : decode cL_law 446 = .ok (.iadd, 1) := by decide +kernel
theorem dL_law_447 : decode cL_law 447 = .ok (.iaload, 1) := by decide +kernel
theorem dL_law_448 : decode cL_law 448 = .ok (.aload_n 0, 1) := by decide +kernel
theorem dL_law_449 : decode cL_law 449 = .ok (.iload_n 3, 1) := by decide +kernel
theorem dL_law_450 : decode cL_law 450 = .ok (.iconst 3, 1) := by decide +kernel
theorem dL_law_451 : decode cL_law 451 = .ok (.iadd, 1) := by decide +kernel
theorem dL_law_452 : decode cL_law 452 = .ok (.iaload, 1) := by decide +kernel
theorem dL_law_453 : decode cL_law 453 = .ok (.ifCond .eq 7, 3) := by decide +kernel
theorem dL_law_456 : decode cL_law 456 = .ok (.iconst 1, 1) := by decide +kernel
theorem dL_law_457 : decode cL_law 457 = .ok (.goto 4, 3) := by decide +kernel
theorem dL_law_460 : decode cL_law 460 = .ok (.iconst 0, 1) := by decide +kernel
theorem dL_law_461 : decode cL_law 461 = .ok (.invokevirtual 47, 3) := by decide +kernel
theorem dL_law_464 : decode cL_law 464 = .ok (.aload_n 2, 1) := by decide +kernel
theorem dL_law_465 : decode cL_law 465 = .ok (.aload_n 0, 1) := by decide +kernel
theorem dL_law_466 : decode cL_law 466 = .ok (.iload_n 3, 1) := by decide +kernel
theorem dL_law_467 : decode cL_law 467 = .ok (.iconst 1, 1) := by decide +kernel
theorem dL_law_468 : decode cL_law 468 = .ok (.iadd, 1) := by decide +kernel
theorem dL_law_469 : decode cL_law 469 = .ok (.iaload, 1) := by decide +kernel
theorem dL_law_470 : decode cL_law 470 = .ok (.aload_n 0, 1) := by decide +kernel
theorem dL_law_471 : decode cL_law 471 = .ok (.iload_n 3, 1) := by decide +kernel
theorem dL_law_472 : decode cL_law 472 = .ok (.iconst 2, 1) := by decide +kernel
theorem dL_law_473 : decode cL_law 473 = .ok (.iadd, 1) := by decide +kernel
theorem dL_law_474 : decode cL_law 474 = .ok (.iaload, 1) := by decide +kernel
theorem dL_law_475 : decode cL_law 475 = .ok (.aload_n 0, 1) := by decide +kernel
theorem dL_law_476 : decode cL_law 476 = .ok (.iload_n 3, 1) := by decide +kernel
theorem dL_law_477 : decode cL_law 477 = .ok (.iconst 3, 1) := by decide +kernel
theorem dL_law_478 : decode cL_law 478 = .ok (.iadd, 1) := by decide +kernel
theorem dL_law_479 : decode cL_law 479 = .ok (.iaload, 1) := by decide +kernel
theorem dL_law_480 : decode cL_law 480 = .ok (.ifCond .eq 7, 3) := by decide +kernel
theorem dL_law_483 : decode cL_law 483 = .ok (.iconst 1, 1) := by decide +kernel
theorem dL_law_484 : decode cL_law 484 = .ok (.goto 4, 3) := by decide +kernel
theorem dL_law_487 : decode cL_law 487 = .ok (.iconst 0, 1) := by decide +kernel
theorem dL_law_488 : decode cL_law 488 = .ok (.invokevirtual 51, 3) := by decide +kernel
theorem dL_law_491 : decode cL_law 491 = .ok (.if_icmp .eq 599, 3) := by decide +kernel
theorem dL_law_494 : decode cL_law 494 = .ok (.iconst 0, 1) := by decide +kernel
theorem dL_law_495 : decode cL_law 495 = .ok (.ireturn, 1) := by decide +kernel
theorem dL_law_496 : decode cL_law 496 = .ok (.aload_n 1, 1) := by decide +kernel
theorem dL_law_497 : decode cL_law 497 = .ok (.aload_n 0, 1) := by decide +kernel
theorem dL_law_498 : decode cL_law 498 = .ok (.iload_n 3, 1) := by decide +kernel
theorem dL_law_499 : decode cL_law 499 = .ok (.iconst 1, 1) := by decide +kernel
theorem dL_law_500 : decode cL_law 500 = .ok (.iadd, 1) := by decide +kernel
theorem dL_law_501 : decode cL_law 501 = .ok (.iaload, 1) := by decide +kernel
theorem dL_law_502 : decode cL_law 502 = .ok (.invokevirtual 52, 3) := by decide +kernel
theorem dL_law_505 : decode cL_law 505 = .ok (.aload_n 2, 1) := by decide +kernel
theorem dL_law_506 : decode cL_law 506 = .ok (.aload_n 0, 1) := by decide +kernel
theorem dL_law_507 : decode cL_law 507 = .ok (.iload_n 3, 1) := by decide +kernel
theorem dL_law_508 : decode cL_law 508 = .ok (.iconst 1, 1) := by decide +kernel
theorem dL_law_509 : decode cL_law 509 = .ok (.iadd, 1) := by decide +kernel
theorem dL_law_510 : decode cL_law 510 = .ok (.iaload, 1) := by decide +kernel
theorem dL_law_511 : decode cL_law 511 = .ok (.invokevirtual 55, 3) := by decide +kernel
theorem dL_law_514 : decode cL_law 514 = .ok (.if_icmp .eq 576, 3) := by decide +kernel
theorem dL_law_517 : decode cL_law 517 = .ok (.iconst 0, 1) := by decide +kernel
theorem dL_law_518 : decode cL_law 518 = .ok (.ireturn, 1) := by decide +kernel
theorem dL_law_519 : decode cL_law 519 = .ok (.aload_n 1, 1) := by decide +kernel
theorem dL_law_520 : decode cL_law 520 = .ok (.aload_n 0, 1) := by decide +kernel
theorem dL_law_521 : decode cL_law 521 = .ok (.iload_n 3, 1) := by decide +kernel
theorem dL_law_522 : decode cL_law 522 = .ok (.iconst 1, 1) := by decide +kernel
theorem dL_law_523 : decode cL_law 523 = .ok (.iadd, 1) := by decide +kernel
theorem dL_law_524 : decode cL_law 524 = .ok (.iaload, 1) := by decide +kernel
theorem dL_law_525 : decode cL_law 525 = .ok (.aload_n 0, 1) := by decide +kernel
theorem dL_law_526 : decode cL_law 526 = .ok (.iload_n 3, 1) := by decide +kernel
theorem dL_law_527 : decode cL_law 527 = .ok (.iconst 2, 1) := by decide +kernel
theorem dL_law_528 : decode cL_law 528 = .ok (.iadd, 1) := by decide +kernel
theorem dL_law_529 : decode cL_law 529 = .ok (.iaload, 1) := by decide +kernel
theorem dL_law_530 : decode cL_law 530 = .ok (.aload_n 0, 1) := by decide +kernel
theorem dL_law_531 : decode cL_law 531 = .ok (.iload_n 3, 1) := by decide +kernel
theorem dL_law_532 : decode cL_law 532 = .ok (.iconst 3, 1) := by decide +kernel
theorem dL_law_533 : decode cL_law 533 = .ok (.iadd, 1) := by decide +kernel
theorem dL_law_534 : decode cL_law 534 = .ok (.iaload, 1) := by decide +kernel
theorem dL_law_535 : decode cL_law 535 = .ok (.ifCond .eq 7, 3) := by decide +kernel
theorem dL_law_538 : decode cL_law 538 = .ok (.iconst 1, 1) := by decide +kernel
theorem dL_law_539 : decode cL_law 539 = .ok (.goto 4, 3) := by decide +kernel
theorem dL_law_542 : decode cL_law 542 = .ok (.iconst 0, 1) := by decide +kernel
theorem dL_law_543 : decode cL_law 543 = .ok (.invokevirtual 56, 3) := by decide +kernel
theorem dL_law_546 : decode cL_law 546 = .ok (.aload_n 2, 1) := by decide +kernel
theorem dL_law_547 : decode cL_law 547 = .ok (.aload_n 0, 1) := by decide +kernel
theorem dL_law_548 : decode cL_law 548 = .ok (.iload_n 3, 1) := by decide +kernel
theorem dL_law_549 : decode cL_law 549 = .ok (.iconst 1, 1) := by decide +kernel
theorem dL_law_550 : decode cL_law 550 = .ok (.iadd, 1) := by decide +kernel
theorem dL_law_551 : decode cL_law 551 = .ok (.iaload, 1) := by decide +kernel
theorem dL_law_552 : decode cL_law 552 = .ok (.aload_n 0, 1) := by decide +kernel
theorem dL_law_553 : decode cL_law 553 = .ok (.iload_n 3, 1) := by decide +kernel
theorem dL_law_554 : decode cL_law 554 = .ok (.iconst 2, 1) := by decide +kernel
theorem dL_law_555 : decode cL_law 555 = .ok (.iadd, 1) := by decide +kernel
theorem dL_law_556 : decode cL_law 556 = .ok (.iaload, 1) := by decide +kernel
theorem dL_law_557 : decode cL_law 557 = .ok (.aload_n 0, 1) := by decide +kernel
theorem dL_law_558 : decode cL_law 558 = .ok (.iload_n 3, 1) := by decide +kernel
theorem dL_law_559 : decode cL_law 559 = .ok (.iconst 3, 1) := by decide +kernel
theorem dL_law_560 : decode cL_law 560 = .ok (.iadd, 1) := by decide +kernel
theorem dL_law_561 : decode cL_law 561 = .ok (.iaload, 1) := by decide +kernel
theorem dL_law_562 : decode cL_law 562 = .ok (.ifCond .eq 7, 3) := by decide +kernel
theorem dL_law_565 : decode cL_law 565 = .ok (.iconst 1, 1) := by decide +kernel
theorem dL_law_566 : decode cL_law 566 = .ok (.goto 4, 3) := by decide +kernel
theorem dL_law_569 : decode cL_law 569 = .ok (.iconst 0, 1) := by decide +kernel
theorem dL_law_570 : decode cL_law 570 = .ok (.invokevirtual 59, 3) := by decide +kernel
theorem dL_law_573 : decode cL_law 573 = .ok (.if_icmp .eq 517, 3) := by decide +kernel
theorem dL_law_576 : decode cL_law 576 = .ok (.iconst 0, 1) := by decide +kernel
theorem dL_law_577 : decode cL_law 577 = .ok (.ireturn, 1) := by decide +kernel
theorem dL_law_578 : decode cL_law 578 = .ok (.aload_n 1, 1) := by decide +kernel
theorem dL_law_579 : decode cL_law 579 = .ok (.aload_n 0, 1) := by decide +kernel
theorem dL_law_580 : decode cL_law 580 = .ok (.iload_n 3, 1) := by decide +kernel
theorem dL_law_581 : decode cL_law 581 = .ok (.iconst 1, 1) := by decide +kernel
theorem dL_law_582 : decode cL_law 582 = .ok (.iadd, 1) := by decide +kernel
theorem dL_law_583 : decode cL_law 583 = .ok (.iaload, 1) := by decide +kernel
theorem dL_law_584 : decode cL_law 584 = .ok (.aload_n 0, 1) := by decide +kernel
theorem dL_law_585 : decode cL_law 585 = .ok (.iload_n 3, 1) := by decide +kernel
theorem dL_law_586 : decode cL_law 586 = .ok (.iconst 2, 1) := by decide +kernel
theorem dL_law_587 : decode cL_law 587 = .ok (.iadd, 1) := by decide +kernel
theorem dL_law_588 : decode cL_law 588 = .ok (.iaload, 1) := by decide +kernel
theorem dL_law_589 : decode cL_law 589 = .ok (.aload_n 0, 1) := by decide +kernel
theorem dL_law_590 : decode cL_law 590 = .ok (.iload_n 3, 1) := by decide +kernel
theorem dL_law_591 : decode cL_law 591 = .ok (.iconst 3, 1) := by decide +kernel
theorem dL_law_592 : decode cL_law 592 = .ok (.iadd, 1) := by decide +kernel
theorem dL_law_593 : decode cL_law 593 = .ok (.iaload, 1) := by decide +kernel
theorem dL_law_594 : decode cL_law 594 = .ok (.invokevirtual 60, 3) := by decide +kernel
theorem dL_law_597 : decode cL_law 597 = .ok (.aload_n 2, 1) := by decide +kernel
theorem dL_law_598 : decode cL_law 598 = .ok (.aload_n 0, 1) := by decide +kernel
theorem dL_law_599 : decode cL_law 599 = .ok (.iload_n 3, 1) := by decide +kernel
theorem dL_law_600 : decode cL_law 600 = .ok (.iconst 1, 1) := by decide +kernel
theorem dL_law_601 : decode cL_law 601 = .ok (.iadd, 1) := by decide +kernel
theorem dL_law_602 : decode cL_law 602 = .ok (.iaload, 1) := by decide +kernel
theorem dL_law_603 : decode cL_law 603 = .ok (.aload_n 0, 1) := by decide +kernel
theorem dL_law_604 : decode cL_law 604 = .ok (.iload_n 3, 1) := by decide +kernel
theorem dL_law_605 : decode cL_law 605 = .ok (.iconst 2, 1) := by decide +kernel
theorem dL_law_606 : decode cL_law 606 = .ok (.iadd, 1) := by decide +kernel
theorem dL_law_607 : decode cL_law 607 = .ok (.iaload, 1) := by decide +kernel
theorem dL_law_608 : decode cL_law 608 = .ok (.aload_n 0, 1) := by decide +kernel
theorem dL_law_609 : decode cL_law 609 = .ok (.iload_n 3, 1) := by decide +kernel
theorem dL_law_610 : decode cL_law 610 = .ok (.iconst 3, 1) := by decide +kernel
theorem dL_law_611 : decode cL_law 611 = .ok (.iadd, 1) := by decide +kernel
theorem dL_law_612 : decode cL_law 612 = .ok (.iaload, 1) := by decide +kernel
theorem dL_law_613 : decode cL_law 613 = .ok (.invokevirtual 63, 3) := by decide +kernel
theorem dL_law_616 : decode cL_law 616 = .ok (.if_icmp .eq 474, 3) := by decide +kernel
theorem dL_law_619 : decode cL_law 619 = .ok (.iconst 0, 1) := by decide +kernel
theorem dL_law_620 : decode cL_law 620 = .ok (.ireturn, 1) := by decide +kernel
theorem dL_law_621 : decode cL_law 621 = .ok (.aload_n 1, 1) := by decide +kernel
theorem dL_law_622 : decode cL_law 622 = .ok (.aload_n 0, 1) := by decide +kernel
theorem dL_law_623 : decode cL_law 623 = .ok (.iload_n 3, 1) := by decide +kernel
theorem dL_law_624 : decode cL_law 624 = .ok (.iconst 1, 1) := by decide +kernel
theorem dL_law_625 : decode cL_law 625 = .ok (.iadd, 1) := by decide +kernel
theorem dL_law_626 : decode cL_law 626 = .ok (.iaload, 1) := by decide +kernel
theorem dL_law_627 : decode cL_law 627 = .ok (.aload_n 0, 1) := by decide +kernel
theorem dL_law_628 : decode cL_law 628 = .ok (.iload_n 3, 1) := by decide +kernel
theorem dL_law_629 : decode cL_law 629 = .ok (.iconst 2, 1) := by decide +kernel
theorem dL_law_630 : decode cL_law 630 = .ok (.iadd, 1) := by decide +kernel
theorem dL_law_631 : decode cL_law 631 = .ok (.iaload, 1) := by decide +kernel
theorem dL_law_632 : decode cL_law 632 = .ok (.aload_n 0, 1) := by decide +kernel
theorem dL_law_633 : decode cL_law 633 = .ok (.iload_n 3, 1) := by decide +kernel
theorem dL_law_634 : decode cL_law 634 = .ok (.iconst 3, 1) := by decide +kernel
theorem dL_law_635 : decode cL_law 635 = .ok (.iadd, 1) := by decide +kernel
theorem dL_law_636 : decode cL_law 636 = .ok (.iaload, 1) := by decide +kernel
theorem dL_law_637 : decode cL_law 637 = .ok (.invokevirtual 64, 3) := by decide +kernel
theorem dL_law_640 : decode cL_law 640 = .ok (.aload_n 2, 1) := by decide +kernel
theorem dL_law_641 : decode cL_law 641 = .ok (.aload_n 0, 1) := by decide +kernel
theorem dL_law_642 : decode cL_law 642 = .ok (.iload_n 3, 1) := by decide +kernel
theorem dL_law_643 : decode cL_law 643 = .ok (.iconst 1, 1) := by decide +kernel
theorem dL_law_644 : decode cL_law 644 = .ok (.iadd, 1) := by decide +kernel
theorem dL_law_645 : decode cL_law 645 = .ok (.iaload, 1) := by decide +kernel
theorem dL_law_646 : decode cL_law 646 = .ok (.aload_n 0, 1) := by decide +kernel
theorem dL_law_647 : decode cL_law 647 = .ok (.iload_n 3, 1) := by decide +kernel
theorem dL_law_648 : decode cL_law 648 = .ok (.iconst 2, 1) := by decide +kernel
theorem dL_law_649 : decode cL_law 649 = .ok (.iadd, 1) := by decide +kernel
theorem dL_law_650 : decode cL_law 650 = .ok (.iaload, 1) := by decide +kernel
theorem dL_law_651 : decode cL_law 651 = .ok (.aload_n 0, 1) := by decide +kernel
theorem dL_law_652 : decode cL_law 652 = .ok (.iload_n 3, 1) := by decide +kernel
theorem dL_law_653 : decode cL_law 653 = .ok (.iconst 3, 1) := by decide +kernel
theorem dL_law_654 : decode cL_law 654 = .ok (.iadd, 1) := by decide +kernel
theorem dL_law_655 : decode cL_law 655 = .ok (.iaload, 1) := by decide +kernel
theorem dL_law_656 : decode cL_law 656 = .ok (.invokevirtual 67, 3) := by decide +kernel
theorem dL_law_659 : decode cL_law 659 = .ok (.if_icmp .eq 431, 3) := by decide +kernel
theorem dL_law_662 : decode cL_law 662 = .ok (.iconst 0, 1) := by decide +kernel
theorem dL_law_663 : decode cL_law 663 = .ok (.ireturn, 1) := by decide +kernel
theorem dL_law_664 : decode cL_law 664 = .ok (.aload_n 1, 1) := by decide +kernel
theorem dL_law_665 : decode cL_law 665 = .ok (.aload_n 0, 1) := by decide +kernel
theorem dL_law_666 : decode cL_law 666 = .ok (.iload_n 3, 1) := by decide +kernel
theorem dL_law_667 : decode cL_law 667 = .ok (.iconst 1, 1) := by decide +kernel
theorem dL_law_668 : decode cL_law 668 = .ok (.iadd, 1) := by decide +kernel
theorem dL_law_669 : decode cL_law 669 = .ok (.iaload, 1) := by decide +kernel
theorem dL_law_670 : decode cL_law 670 = .ok (.aload_n 0, 1) := by decide +kernel
theorem dL_law_671 : decode cL_law 671 = .ok (.iload_n 3, 1) := by decide +kernel
theorem dL_law_672 : decode cL_law 672 = .ok (.iconst 2, 1) := by decide +kernel
theorem dL_law_673 : decode cL_law 673 = .ok (.iadd, 1) := by decide +kernel
theorem dL_law_674 : decode cL_law 674 = .ok (.iaload, 1) := by decide +kernel
theorem dL_law_675 : decode cL_law 675 = .ok (.invokevirtual 68, 3) := by decide +kernel
theorem dL_law_678 : decode cL_law 678 = .ok (.aload_n 2, 1) := by decide +kernel
theorem dL_law_679 : decode cL_law 679 = .ok (.aload_n 0, 1) := by decide +kernel
theorem dL_law_680 : decode cL_law 680 = .ok (.iload_n 3, 1) := by decide +kernel
theorem dL_law_681 : decode cL_law 681 = .ok (.iconst 1, 1) := by decide +kernel
theorem dL_law_682 : decode cL_law 682 = .ok (.iadd, 1) := by decide +kernel
theorem dL_law_683 : decode cL_law 683 = .ok (.iaload, 1) := by decide +kernel
theorem dL_law_684 : decode cL_law 684 = .ok (.aload_n 0, 1) := by decide +kernel
theorem dL_law_685 : decode cL_law 685 = .ok (.iload_n 3, 1) := by decide +kernel
theorem dL_law_686 : decode cL_law 686 = .ok (.iconst 2, 1) := by decide +kernel
theorem dL_law_687 : decode cL_law 687 = .ok (.iadd, 1) := by decide +kernel
theorem dL_law_688 : decode cL_law 688 = .ok (.iaload, 1) := by decide +kernel
theorem dL_law_689 : decode cL_law 689 = .ok (.invokevirtual 71, 3) := by decide +kernel
theorem dL_law_692 : decode cL_law 692 = .ok (.if_icmp .eq 398, 3) := by decide +kernel
theorem dL_law_695 : decode cL_law 695 = .ok (.iconst 0, 1) := by decide +kernel
theorem dL_law_696 : decode cL_law 696 = .ok (.ireturn, 1) := by decide +kernel
theorem dL_law_697 : decode cL_law 697 = .ok (.aload_n 1, 1) := by decide +kernel
theorem dL_law_698 : decode cL_law 698 = .ok (.aload_n 0, 1) := by decide +kernel
theorem dL_law_699 : decode cL_law 699 = .ok (.iload_n 3, 1) := by decide +kernel
theorem dL_law_700 : decode cL_law 700 = .ok (.iconst 1, 1) := by decide +kernel
theorem dL_law_701 : decode cL_law 701 = .ok (.iadd, 1) := by decide +kernel
theorem dL_law_702 : decode cL_law 702 = .ok (.iaload, 1) := by decide +kernel
theorem dL_law_703 : decode cL_law 703 = .ok (.invokevirtual 72, 3) := by decide +kernel
theorem dL_law_706 : decode cL_law 706 = .ok (.aload_n 2, 1) := by decide +kernel
theorem dL_law_707 : decode cL_law 707 = .ok (.aload_n 0, 1) := by decide +kernel
theorem dL_law_708 : decode cL_law 708 = .ok (.iload_n 3, 1) := by decide +kernel
theorem dL_law_709 : decode cL_law 709 = .ok (.iconst 1, 1) := by decide +kernel
theorem dL_law_710 : decode cL_law 710 = .ok (.iadd, 1) := by decide +kernel
theorem dL_law_711 : decode cL_law 711 = .ok (.iaload, 1) := by decide +kernel
theorem dL_law_712 : decode cL_law 712 = .ok (.invokevirtual 75, 3) := by decide +kernel
theorem dL_law_715 : decode cL_law 715 = .ok (.if_icmp .eq 375, 3) := by decide +kernel
theorem dL_law_718 : decode cL_law 718 = .ok (.iconst 0, 1) := by decide +kernel
theorem dL_law_719 : decode cL_law 719 = .ok (.ireturn, 1) := by decide +kernel
theorem dL_law_720 : decode cL_law 720 = .ok (.aload_n 1, 1) := by decide +kernel
theorem dL_law_721 : decode cL_law 721 = .ok (.aload_n 0, 1) := by decide +kernel
theorem dL_law_722 : decode cL_law 722 = .ok (.iload_n 3, 1) := by decide +kernel
theorem dL_law_723 : decode cL_law 723 = .ok (.iconst 1, 1) := by decide +kernel
theorem dL_law_724 : decode cL_law 724 = .ok (.iadd, 1) := by decide +kernel
theorem dL_law_725 : decode cL_law 725 = .ok (.iaload, 1) := by decide +kernel
theorem dL_law_726 : decode cL_law 726 = .ok (.invokevirtual 76, 3) := by decide +kernel
theorem dL_law_729 : decode cL_law 729 = .ok (.aload_n 2, 1) := by decide +kernel
theorem dL_law_730 : decode cL_law 730 = .ok (.aload_n 0, 1) := by decide +kernel
theorem dL_law_731 : decode cL_law 731 = .ok (.iload_n 3, 1) := by decide +kernel
theorem dL_law_732 : decode cL_law 732 = .ok (.iconst 1, 1) := by decide +kernel
theorem dL_law_733 : decode cL_law 733 = .ok (.iadd, 1) := by decide +kernel
theorem dL_law_734 : decode cL_law 734 = .ok (.iaload, 1) := by decide +kernel
theorem dL_law_735 : decode cL_law 735 = .ok (.invokevirtual 79, 3) := by decide +kernel
theorem dL_law_738 : decode cL_law 738 = .ok (.if_icmp .eq 352, 3) := by decide +kernel
theorem dL_law_741 : decode cL_law 741 = .ok (.iconst 0, 1) := by decide +kernel
theorem dL_law_742 : decode cL_law 742 = .ok (.ireturn, 1) := by decide +kernel
theorem dL_law_743 : decode cL_law 743 = .ok (.aload_n 1, 1) := by decide +kernel
theorem dL_law_744 : decode cL_law 744 = .ok (.aload_n 0, 1) := by decide +kernel
theorem dL_law_745 : decode cL_law 745 = .ok (.iload_n 3, 1) := by decide +kernel
theorem dL_law_746 : decode cL_law 746 = .ok (.iconst 1, 1) := by decide +kernel
theorem dL_law_747 : decode cL_law 747 = .ok (.iadd, 1) := by decide +kernel
theorem dL_law_748 : decode cL_law 748 = .ok (.iaload, 1) := by decide +kernel
theorem dL_law_749 : decode cL_law 749 = .ok (.aload_n 0, 1) := by decide +kernel
theorem dL_law_750 : decode cL_law 750 = .ok (.iload_n 3, 1) := by decide +kernel
theorem dL_law_751 : decode cL_law 751 = .ok (.iconst 2, 1) := by decide +kernel
theorem dL_law_752 : decode cL_law 752 = .ok (.iadd, 1) := by decide +kernel
theorem dL_law_753 : decode cL_law 753 = .ok (.iaload, 1) := by decide +kernel
theorem dL_law_754 : decode cL_law 754 = .ok (.invokevirtual 80, 3) := by decide +kernel
theorem dL_law_757 : decode cL_law 757 = .ok (.aload_n 2, 1) := by decide +kernel
theorem dL_law_758 : decode cL_law 758 = .ok (.aload_n 0, 1) := by decide +kernel
theorem dL_law_759 : decode cL_law 759 = .ok (.iload_n 3, 1) := by decide +kernel
theorem dL_law_760 : decode cL_law 760 = .ok (.iconst 1, 1) := by decide +kernel
theorem dL_law_761 : decode cL_law 761 = .ok (.iadd, 1) := by decide +kernel
theorem dL_law_762 : decode cL_law 762 = .ok (.iaload, 1) := by decide +kernel
theorem dL_law_763 : decode cL_law 763 = .ok (.aload_n 0, 1) := by decide +kernel
theorem dL_law_764 : decode cL_law 764 = .ok (.iload_n 3, 1) := by decide +kernel
theorem dL_law_765 : decode cL_law 765 = .ok (.iconst 2, 1) := by decide +kernel
theorem dL_law_766 : decode cL_law 766 = .ok (.iadd, 1) := by decide +kernel
theorem dL_law_767 : decode cL_law 767 = .ok (.iaload, 1) := by decide +kernel
theorem dL_law_768 : decode cL_law 768 = .ok (.invokevirtual 83, 3) := by decide +kernel
theorem dL_law_771 : decode cL_law 771 = .ok (.if_icmp .eq 319, 3) := by decide +kernel
theorem dL_law_774 : decode cL_law 774 = .ok (.iconst 0, 1) := by decide +kernel
theorem dL_law_775 : decode cL_law 775 = .ok (.ireturn, 1) := by decide +kernel
theorem dL_law_776 : decode cL_law 776 = .ok (.aload_n 1, 1) := by decide +kernel
theorem dL_law_777 : decode cL_law 777 = .ok (.aload_n 0, 1) := by decide +kernel
theorem dL_law_778 : decode cL_law 778 = .ok (.iload_n 3, 1) := by decide +kernel
theorem dL_law_779 : decode cL_law 779 = .ok (.iconst 1, 1) := by decide +kernel
theorem dL_law_780 : decode cL_law 780 = .ok (.iadd, 1) := by decide +kernel
theorem dL_law_781 : decode cL_law 781 = .ok (.iaload, 1) := by decide +kernel
end
section
theorem dL_law_782 : decode cL_law 782 = .ok (.aload_n 0, 1) := by decide +kernel
theorem dL_law_783 : decode cL_law 783 = .ok (.iload_n 3, 1) := by decide +kernel
theorem dL_law_784 : decode cL_law 784 = .ok (.iconst 2, 1) := by decide +kernel
theorem dL_law_785 : decode cL_law 785 = .ok (.iadd, 1) := by decide +kernel
theorem dL_law_786 : decode cL_law 786 = .ok (.iaload, 1) := by decide +kernel
theorem dL_law_787 : decode cL_law 787 = .ok (.invokevirtual 84, 3) := by decide +kernel
theorem dL_law_790 : decode cL_law 790 = .ok (.aload_n 2, 1) := by decide +kernel
theorem dL_law_791 : decode cL_law 791 = .ok (.aload_n 0, 1) := by decide +kernel
theorem dL_law_792 : decode cL_law 792 = .ok (.iload_n 3, 1) := by decide +kernel
theorem dL_law_793 : decode cL_law 793 = .ok (.iconst 1, 1) := by decide +kernel
theorem dL_law_794 : decode cL_law 794 = .ok (.iadd, 1) := by decide +kernel
theorem dL_law_795 : decode cL_law 795 = .ok (.iaload, 1) := by decide +kernel
theorem dL_law_796 : decode cL_law 796 = .ok (.aload_n 0, 1) := by decide +kernel
theorem dL_law_797 : decode cL_law 797 = .ok (.iload_n 3, 1) := by decide +kernel
theorem dL_law_798 : decode cL_law 798 = .ok (.iconst 2, 1) := by decide +kernel
theorem dL_law_799 : decode cL_law 799 = .ok (.iadd, 1) := by decide +kernel
theorem dL_law_800 : decode cL_law 800 = .ok (.iaload, 1) := by decide +kernel
theorem dL_law_801 : decode cL_law 801 = .ok (.invokevirtual 87, 3) := by decide +kernel
theorem dL_law_804 : decode cL_law 804 = .ok (.if_icmp .eq 286, 3) := by decide +kernel
theorem dL_law_807 : decode cL_law 807 = .ok (.iconst 0, 1) := by decide +kernel
theorem dL_law_808 : decode cL_law 808 = .ok (.ireturn, 1) := by decide +kernel
theorem dL_law_809 : decode cL_law 809 = .ok (.aload_n 1, 1) := by decide +kernel
theorem dL_law_810 : decode cL_law 810 = .ok (.aload_n 0, 1) := by decide +kernel
theorem dL_law_811 : decode cL_law 811 = .ok (.iload_n 3, 1) := by decide +kernel
theorem dL_law_812 : decode cL_law 812 = .ok (.iconst 1, 1) := by decide +kernel
theorem dL_law_813 : decode cL_law 813 = .ok (.iadd, 1) := by decide +kernel
theorem dL_law_814 : decode cL_law 814 = .ok (.iaload, 1) := by decide +kernel
theorem dL_law_815 : decode cL_law 815 = .ok (.aload_n 0, 1) := by decide +kernel
theorem dL_law_816 : decode cL_law 816 = .ok (.iload_n 3, 1) := by decide +kernel
theorem dL_law_817 : decode cL_law 817 = .ok (.iconst 2, 1) := by decide +kernel
theorem dL_law_818 : decode cL_law 818 = .ok (.iadd, 1) := by decide +kernel
theorem dL_law_819 : decode cL_law 819 = .ok (.iaload, 1) := by decide +kernel
theorem dL_law_820 : decode cL_law 820 = .ok (.aload_n 0, 1) := by decide +kernel
theorem dL_law_821 : decode cL_law 821 = .ok (.iload_n 3, 1) := by decide +kernel
theorem dL_law_822 : decode cL_law 822 = .ok (.iconst 3, 1) := by decide +kernel
theorem dL_law_823 : decode cL_law 823 = .ok (.iadd, 1) := by decide +kernel
theorem dL_law_824 : decode cL_law 824 = .ok (.iaload, 1) := by decide +kernel
theorem dL_law_825 : decode cL_law 825 = .ok (.invokevirtual 88, 3) := by decide +kernel
theorem dL_law_828 : decode cL_law 828 = .ok (.aload_n 2, 1) := by decide +kernel
theorem dL_law_829 : decode cL_law 829 = .ok (.aload_n 0, 1) := by decide +kernel
theorem dL_law_830 : decode cL_law 830 = .ok (.iload_n 3, 1) := by decide +kernel
theorem dL_law_831 : decode cL_law 831 = .ok (.iconst 1, 1) := by decide +kernel
theorem dL_law_832 : decode cL_law 832 = .ok (.iadd, 1) := by decide +kernel
theorem dL_law_833 : decode cL_law 833 = .ok (.iaload, 1) := by decide +kernel
theorem dL_law_834 : decode cL_law 834 = .ok (.aload_n 0, 1) := by decide +kernel
theorem dL_law_835 : decode cL_law 835 = .ok (.iload_n 3, 1) := by decide +kernel
theorem dL_law_836 : decode cL_law 836 = .ok (.iconst 2, 1) := by decide +kernel
theorem dL_law_837 : decode cL_law 837 = .ok (.iadd, 1) := by decide +kernel
theorem dL_law_838 : decode cL_law 838 = .ok (.iaload, 1) := by decide +kernel
theorem dL_law_839 : decode cL_law 839 = .ok (.aload_n 0, 1) := by decide +kernel
theorem dL_law_840 : decode cL_law 840 = .ok (.iload_n 3, 1) := by decide +kernel
theorem dL_law_841 : decode cL_law 841 = .ok (.iconst 3, 1) := by decide +kernel
theorem dL_law_842 : decode cL_law 842 = .ok (.iadd, 1) := by decide +kernel
theorem dL_law_843 : decode cL_law 843 = .ok (.iaload, 1) := by decide +kernel
theorem dL_law_844 : decode cL_law 844 = .ok (.invokevirtual 91, 3) := by decide +kernel
theorem dL_law_847 : decode cL_law 847 = .ok (.if_icmp .eq 243, 3) := by decide +kernel
theorem dL_law_850 : decode cL_law 850 = .ok (.iconst 0, 1) := by decide +kernel
theorem dL_law_851 : decode cL_law 851 = .ok (.ireturn, 1) := by decide +kernel
theorem dL_law_852 : decode cL_law 852 = .ok (.aload_n 1, 1) := by decide +kernel
theorem dL_law_853 : decode cL_law 853 = .ok (.aload_n 0, 1) := by decide +kernel
theorem dL_law_854 : decode cL_law 854 = .ok (.iload_n 3, 1) := by decide +kernel
theorem dL_law_855 : decode cL_law 855 = .ok (.iconst 1, 1) := by decide +kernel
theorem dL_law_856 : decode cL_law 856 = .ok (.iadd, 1) := by decide +kernel
theorem dL_law_857 : decode cL_law 857 = .ok (.iaload, 1) := by decide +kernel
theorem dL_law_858 : decode cL_law 858 = .ok (.aload_n 0, 1) := by decide +kernel
theorem dL_law_859 : decode cL_law 859 = .ok (.iload_n 3, 1) := by decide +kernel
theorem dL_law_860 : decode cL_law 860 = .ok (.iconst 2, 1) := by decide +kernel
theorem dL_law_861 : decode cL_law 861 = .ok (.iadd, 1) := by decide +kernel
theorem dL_law_862 : decode cL_law 862 = .ok (.iaload, 1) := by decide +kernel
theorem dL_law_863 : decode cL_law 863 = .ok (.aload_n 0, 1) := by decide +kernel
theorem dL_law_864 : decode cL_law 864 = .ok (.iload_n 3, 1) := by decide +kernel
theorem dL_law_865 : decode cL_law 865 = .ok (.iconst 3, 1) := by decide +kernel
theorem dL_law_866 : decode cL_law 866 = .ok (.iadd, 1) := by decide +kernel
theorem dL_law_867 : decode cL_law 867 = .ok (.iaload, 1) := by decide +kernel
theorem dL_law_868 : decode cL_law 868 = .ok (.invokevirtual 92, 3) := by decide +kernel
theorem dL_law_871 : decode cL_law 871 = .ok (.aload_n 2, 1) := by decide +kernel
theorem dL_law_872 : decode cL_law 872 = .ok (.aload_n 0, 1) := by decide +kernel
theorem dL_law_873 : decode cL_law 873 = .ok (.iload_n 3, 1) := by decide +kernel
theorem dL_law_874 : decode cL_law 874 = .ok (.iconst 1, 1) := by decide +kernel
theorem dL_law_875 : decode cL_law 875 = .ok (.iadd, 1) := by decide +kernel
theorem dL_law_876 : decode cL_law 876 = .ok (.iaload, 1) := by decide +kernel
theorem dL_law_877 : decode cL_law 877 = .ok (.aload_n 0, 1) := by decide +kernel
theorem dL_law_878 : decode cL_law 878 = .ok (.iload_n 3, 1) := by decide +kernel
theorem dL_law_879 : decode cL_law 879 = .ok (.iconst 2, 1) := by decide +kernel
theorem dL_law_880 : decode cL_law 880 = .ok (.iadd, 1) := by decide +kernel
theorem dL_law_881 : decode cL_law 881 = .ok (.iaload, 1) := by decide +kernel
theorem dL_law_882 : decode cL_law 882 = .ok (.aload_n 0, 1) := by decide +kernel
theorem dL_law_883 : decode cL_law 883 = .ok (.iload_n 3, 1) := by decide +kernel
theorem dL_law_884 : decode cL_law 884 = .ok (.iconst 3, 1) := by decide +kernel
theorem dL_law_885 : decode cL_law 885 = .ok (.iadd, 1) := by decide +kernel
theorem dL_law_886 : decode cL_law 886 = .ok (.iaload, 1) := by decide +kernel
theorem dL_law_887 : decode cL_law 887 = .ok (.invokevirtual 95, 3) := by decide +kernel
theorem dL_law_890 : decode cL_law 890 = .ok (.if_icmp .eq 200, 3) := by decide +kernel
theorem dL_law_893 : decode cL_law 893 = .ok (.iconst 0, 1) := by decide +kernel
theorem dL_law_894 : decode cL_law 894 = .ok (.ireturn, 1) := by decide +kernel
theorem dL_law_895 : decode cL_law 895 = .ok (.aload_n 1, 1) := by decide +kernel
theorem dL_law_896 : decode cL_law 896 = .ok (.aload_n 0, 1) := by decide +kernel
theorem dL_law_897 : decode cL_law 897 = .ok (.iload_n 3, 1) := by decide +kernel
theorem dL_law_898 : decode cL_law 898 = .ok (.iconst 1, 1) := by decide +kernel
theorem dL_law_899 : decode cL_law 899 = .ok (.iadd, 1) := by decide +kernel
theorem dL_law_900 : decode cL_law 900 = .ok (.iaload, 1) := by decide +kernel
theorem dL_law_901 : decode cL_law 901 = .ok (.aload_n 0, 1) := by decide +kernel
theorem dL_law_902 : decode cL_law 902 = .ok (.iload_n 3, 1) := by decide +kernel
theorem dL_law_903 : decode cL_law 903 = .ok (.iconst 2, 1) := by decide +kernel
theorem dL_law_904 : decode cL_law 904 = .ok (.iadd, 1) := by decide +kernel
theorem dL_law_905 : decode cL_law 905 = .ok (.iaload, 1) := by decide +kernel
theorem dL_law_906 : decode cL_law 906 = .ok (.aload_n 0, 1) := by decide +kernel
theorem dL_law_907 : decode cL_law 907 = .ok (.iload_n 3, 1) := by decide +kernel
theorem dL_law_908 : decode cL_law 908 = .ok (.iconst 3, 1) := by decide +kernel
theorem dL_law_909 : decode cL_law 909 = .ok (.iadd, 1) := by decide +kernel
theorem dL_law_910 : decode cL_law 910 = .ok (.iaload, 1) := by decide +kernel
theorem dL_law_911 : decode cL_law 911 = .ok (.invokevirtual 96, 3) := by decide +kernel
theorem dL_law_914 : decode cL_law 914 = .ok (.aload_n 2, 1) := by decide +kernel
theorem dL_law_915 : decode cL_law 915 = .ok (.aload_n 0, 1) := by decide +kernel
theorem dL_law_916 : decode cL_law 916 = .ok (.iload_n 3, 1) := by decide +kernel
theorem dL_law_917 : decode cL_law 917 = .ok (.iconst 1, 1) := by decide +kernel
theorem dL_law_918 : decode cL_law 918 = .ok (.iadd, 1) := by decide +kernel
theorem dL_law_919 : decode cL_law 919 = .ok (.iaload, 1) := by decide +kernel
theorem dL_law_920 : decode cL_law 920 = .ok (.aload_n 0, 1) := by decide +kernel
theorem dL_law_921 : decode cL_law 921 = .ok (.iload_n 3, 1) := by decide +kernel
theorem dL_law_922 : decode cL_law 922 = .ok (.iconst 2, 1) := by decide +kernel
theorem dL_law_923 : decode cL_law 923 = .ok (.iadd, 1) := by decide +kernel
theorem dL_law_924 : decode cL_law 924 = .ok (.iaload, 1) := by decide +kernel
theorem dL_law_925 : decode cL_law 925 = .ok (.aload_n 0, 1) := by decide +kernel
theorem dL_law_926 : decode cL_law 926 = .ok (.iload_n 3, 1) := by decide +kernel
theorem dL_law_927 : decode cL_law 927 = .ok (.iconst 3, 1) := by decide +kernel
theorem dL_law_928 : decode cL_law 928 = .ok (.iadd, 1) := by decide +kernel
theorem dL_law_929 : decode cL_law 929 = .ok (.iaload, 1) := by decide +kernel
theorem dL_law_930 : decode cL_law 930 = .ok (.invokevirtual 99, 3) := by decide +kernel
theorem dL_law_933 : decode cL_law 933 = .ok (.if_icmp .eq 157, 3) := by decide +kernel
theorem dL_law_936 : decode cL_law 936 = .ok (.iconst 0, 1) := by decide +kernel
theorem dL_law_937 : decode cL_law 937 = .ok (.ireturn, 1) := by decide +kernel
theorem dL_law_938 : decode cL_law 938 = .ok (.aload_n 1, 1) := by decide +kernel
theorem dL_law_939 : decode cL_law 939 = .ok (.aload_n 0, 1) := by decide +kernel
theorem dL_law_940 : decode cL_law 940 = .ok (.iload_n 3, 1) := by decide +kernel
theorem dL_law_941 : decode cL_law 941 = .ok (.iconst 1, 1) := by decide +kernel
theorem dL_law_942 : decode cL_law 942 = .ok (.iadd, 1) := by decide +kernel
theorem dL_law_943 : decode cL_law 943 = .ok (.iaload, 1) := by decide +kernel
theorem dL_law_944 : decode cL_law 944 = .ok (.aload_n 0, 1) := by decide +kernel
theorem dL_law_945 : decode cL_law 945 = .ok (.iload_n 3, 1) := by decide +kernel
theorem dL_law_946 : decode cL_law 946 = .ok (.iconst 2, 1) := by decide +kernel
theorem dL_law_947 : decode cL_law 947 = .ok (.iadd, 1) := by decide +kernel
theorem dL_law_948 : decode cL_law 948 = .ok (.iaload, 1) := by decide +kernel
theorem dL_law_949 : decode cL_law 949 = .ok (.aload_n 0, 1) := by decide +kernel
theorem dL_law_950 : decode cL_law 950 = .ok (.iload_n 3, 1) := by decide +kernel
theorem dL_law_951 : decode cL_law 951 = .ok (.iconst 3, 1) := by decide +kernel
theorem dL_law_952 : decode cL_law 952 = .ok (.iadd, 1) := by decide +kernel
theorem dL_law_953 : decode cL_law 953 = .ok (.iaload, 1) := by decide +kernel
theorem dL_law_954 : decode cL_law 954 = .ok (.invokevirtual 100, 3) := by decide +kernel
theorem dL_law_957 : decode cL_law 957 = .ok (.aload_n 2, 1) := by decide +kernel
theorem dL_law_958 : decode cL_law 958 = .ok (.aload_n 0, 1) := by decide +kernel
theorem dL_law_959 : decode cL_law 959 = .ok (.iload_n 3, 1) := by decide +kernel
theorem dL_law_960 : decode cL_law 960 = .ok (.iconst 1, 1) := by decide +kernel
theorem dL_law_961 : decode cL_law 961 = .ok (.iadd, 1) := by decide +kernel
theorem dL_law_962 : decode cL_law 962 = .ok (.iaload, 1) := by decide +kernel
theorem dL_law_963 : decode cL_law 963 = .ok (.aload_n 0, 1) := by decide +kernel
theorem dL_law_964 : decode cL_law 964 = .ok (.iload_n 3, 1) := by decide +kernel
theorem dL_law_965 : decode cL_law 965 = .ok (.iconst 2, 1) := by decide +kernel
theorem dL_law_966 : decode cL_law 966 = .ok (.iadd, 1) := by decide +kernel
theorem dL_law_967 : decode cL_law 967 = .ok (.iaload, 1) := by decide +kernel
theorem dL_law_968 : decode cL_law 968 = .ok (.aload_n 0, 1) := by decide +kernel
theorem dL_law_969 : decode cL_law 969 = .ok (.iload_n 3, 1) := by decide +kernel
theorem dL_law_970 : decode cL_law 970 = .ok (.iconst 3, 1) := by decide +kernel
theorem dL_law_971 : decode cL_law 971 = .ok (.iadd, 1) := by decide +kernel
theorem dL_law_972 : decode cL_law 972 = .ok (.iaload, 1) := by decide +kernel
theorem dL_law_973 : decode cL_law 973 = .ok (.invokevirtual 103, 3) := by decide +kernel
theorem dL_law_976 : decode cL_law 976 = .ok (.if_icmp .eq 114, 3) := by decide +kernel
theorem dL_law_979 : decode cL_law 979 = .ok (.iconst 0, 1) := by decide +kernel
theorem dL_law_980 : decode cL_law 980 = .ok (.ireturn, 1) := by decide +kernel
theorem dL_law_981 : decode cL_law 981 = .ok (.aload_n 1, 1) := by decide +kernel
theorem dL_law_982 : decode cL_law 982 = .ok (.aload_n 0, 1) := by decide +kernel
theorem dL_law_983 : decode cL_law 983 = .ok (.iload_n 3, 1) := by decide +kernel
theorem dL_law_984 : decode cL_law 984 = .ok (.iconst 1, 1) := by decide +kernel
theorem dL_law_985 : decode cL_law 985 = .ok (.iadd, 1) := by decide +kernel
theorem dL_law_986 : decode cL_law 986 = .ok (.iaload, 1) := by decide +kernel
theorem dL_law_987 : decode cL_law 987 = .ok (.aload_n 0, 1) := by decide +kernel
theorem dL_law_988 : decode cL_law 988 = .ok (.iload_n 3, 1) := by decide +kernel
theorem dL_law_989 : decode cL_law 989 = .ok (.iconst 2, 1) := by decide +kernel
theorem dL_law_990 : decode cL_law 990 = .ok (.iadd, 1) := by decide +kernel
theorem dL_law_991 : decode cL_law 991 = .ok (.iaload, 1) := by decide +kernel
theorem dL_law_992 : decode cL_law 992 = .ok (.aload_n 0, 1) := by decide +kernel
theorem dL_law_993 : decode cL_law 993 = .ok (.iload_n 3, 1) := by decide +kernel
theorem dL_law_994 : decode cL_law 994 = .ok (.iconst 3, 1) := by decide +kernel
theorem dL_law_995 : decode cL_law 995 = .ok (.iadd, 1) := by decide +kernel
theorem dL_law_996 : decode cL_law 996 = .ok (.iaload, 1) := by decide +kernel
theorem dL_law_997 : decode cL_law 997 = .ok (.invokevirtual 104, 3) := by decide +kernel
theorem dL_law_1000 : decode cL_law 1000 = .ok (.aload_n 2, 1) := by decide +kernel
theorem dL_law_1001 : decode cL_law 1001 = .ok (.aload_n 0, 1) := by decide +kernel
theorem dL_law_1002 : decode cL_law 1002 = .ok (.iload_n 3, 1) := by decide +kernel
theorem dL_law_1003 : decode cL_law 1003 = .ok (.iconst 1, 1) := by decide +kernel
theorem dL_law_1004 : decode cL_law 1004 = .ok (.iadd, 1) := by decide +kernel
theorem dL_law_1005 : decode cL_law 1005 = .ok (.iaload, 1) := by decide +kernel
theorem dL_law_1006 : decode cL_law 1006 = .ok (.aload_n 0, 1) := by decide +kernel
theorem dL_law_1007 : decode cL_law 1007 = .ok (.iload_n 3, 1) := by decide +kernel
theorem dL_law_1008 : decode cL_law 1008 = .ok (.iconst 2, 1) := by decide +kernel
theorem dL_law_1009 : decode cL_law 1009 = .ok (.iadd, 1) := by decide +kernel
theorem dL_law_1010 : decode cL_law 1010 = .ok (.iaload, 1) := by decide +kernel
theorem dL_law_1011 : decode cL_law 1011 = .ok (.aload_n 0, 1) := by decide +kernel
theorem dL_law_1012 : decode cL_law 1012 = .ok (.iload_n 3, 1) := by decide +kernel
theorem dL_law_1013 : decode cL_law 1013 = .ok (.iconst 3, 1) := by decide +kernel
theorem dL_law_1014 : decode cL_law 1014 = .ok (.iadd, 1) := by decide +kernel
theorem dL_law_1015 : decode cL_law 1015 = .ok (.iaload, 1) := by decide +kernel
theorem dL_law_1016 : decode cL_law 1016 = .ok (.invokevirtual 107, 3) := by decide +kernel
theorem dL_law_1019 : decode cL_law 1019 = .ok (.if_icmp .eq 71, 3) := by decide +kernel
theorem dL_law_1022 : decode cL_law 1022 = .ok (.iconst 0, 1) := by decide +kernel
theorem dL_law_1023 : decode cL_law 1023 = .ok (.ireturn, 1) := by decide +kernel
theorem dL_law_1024 : decode cL_law 1024 = .ok (.aload_n 1, 1) := by decide +kernel
theorem dL_law_1025 : decode cL_law 1025 = .ok (.aload_n 0, 1) := by decide +kernel
theorem dL_law_1026 : decode cL_law 1026 = .ok (.iload_n 3, 1) := by decide +kernel
theorem dL_law_1027 : decode cL_law 1027 = .ok (.iconst 1, 1) := by decide +kernel
theorem dL_law_1028 : decode cL_law 1028 = .ok (.iadd, 1) := by decide +kernel
theorem dL_law_1029 : decode cL_law 1029 = .ok (.iaload, 1) := by decide +kernel
theorem dL_law_1030 : decode cL_law 1030 = .ok (.aload_n 0, 1) := by decide +kernel
theorem dL_law_1031 : decode cL_law 1031 = .ok (.iload_n 3, 1) := by decide +kernel
theorem dL_law_1032 : decode cL_law 1032 = .ok (.iconst 2, 1) := by decide +kernel
theorem dL_law_1033 : decode cL_law 1033 = .ok (.iadd, 1) := by decide +kernel
theorem dL_law_1034 : decode cL_law 1034 = .ok (.iaload, 1) := by decide +kernel
theorem dL_law_1035 : decode cL_law 1035 = .ok (.aload_n 0, 1) := by decide +kernel
theorem dL_law_1036 : decode cL_law 1036 = .ok (.iload_n 3, 1) := by decide +kernel
theorem dL_law_1037 : decode cL_law 1037 = .ok (.iconst 3, 1) := by decide +kernel
theorem dL_law_1038 : decode cL_law 1038 = .ok (.iadd, 1) := by decide +kernel
theorem dL_law_1039 : decode cL_law 1039 = .ok (.iaload, 1) := by decide +kernel
theorem dL_law_1040 : decode cL_law 1040 = .ok (.invokevirtual 108, 3) := by decide +kernel
theorem dL_law_1043 : decode cL_law 1043 = .ok (.aload_n 2, 1) := by decide +kernel
theorem dL_law_1044 : decode cL_law 1044 = .ok (.aload_n 0, 1) := by decide +kernel
theorem dL_law_1045 : decode cL_law 1045 = .ok (.iload_n 3, 1) := by decide +kernel
theorem dL_law_1046 : decode cL_law 1046 = .ok (.iconst 1, 1) := by decide +kernel
theorem dL_law_1047 : decode cL_law 1047 = .ok (.iadd, 1) := by decide +kernel
theorem dL_law_1048 : decode cL_law 1048 = .ok (.iaload, 1) := by decide +kernel
theorem dL_law_1049 : decode cL_law 1049 = .ok (.aload_n 0, 1) := by decide +kernel
theorem dL_law_1050 : decode cL_law 1050 = .ok (.iload_n 3, 1) := by decide +kernel
theorem dL_law_1051 : decode cL_law 1051 = .ok (.iconst 2, 1) := by decide +kernel
theorem dL_law_1052 : decode cL_law 1052 = .ok (.iadd, 1) := by decide +kernel
theorem dL_law_1053 : decode cL_law 1053 = .ok (.iaload, 1) := by decide +kernel
theorem dL_law_1054 : decode cL_law 1054 = .ok (.aload_n 0, 1) := by decide +kernel
theorem dL_law_1055 : decode cL_law 1055 = .ok (.iload_n 3, 1) := by decide +kernel
theorem dL_law_1056 : decode cL_law 1056 = .ok (.iconst 3, 1) := by decide +kernel
theorem dL_law_1057 : decode cL_law 1057 = .ok (.iadd, 1) := by decide +kernel
theorem dL_law_1058 : decode cL_law 1058 = .ok (.iaload, 1) := by decide +kernel
theorem dL_law_1059 : decode cL_law 1059 = .ok (.invokevirtual 111, 3) := by decide +kernel
theorem dL_law_1062 : decode cL_law 1062 = .ok (.if_icmp .eq 28, 3) := by decide +kernel
theorem dL_law_1065 : decode cL_law 1065 = .ok (.iconst 0, 1) := by decide +kernel
theorem dL_law_1066 : decode cL_law 1066 = .ok (.ireturn, 1) := by decide +kernel
theorem dL_law_1067 : decode cL_law 1067 = .ok (.aload_n 1, 1) := by decide +kernel
theorem dL_law_1068 : decode cL_law 1068 = .ok (.aload_n 0, 1) := by decide +kernel
theorem dL_law_1069 : decode cL_law 1069 = .ok (.iload_n 3, 1) := by decide +kernel
theorem dL_law_1070 : decode cL_law 1070 = .ok (.iconst 1, 1) := by decide +kernel
theorem dL_law_1071 : decode cL_law 1071 = .ok (.iadd, 1) := by decide +kernel
theorem dL_law_1072 : decode cL_law 1072 = .ok (.iaload, 1) := by decide +kernel
theorem dL_law_1073 : decode cL_law 1073 = .ok (.invokevirtual 112, 3) := by decide +kernel
theorem dL_law_1076 : decode cL_law 1076 = .ok (.aload_n 2, 1) := by decide +kernel
theorem dL_law_1077 : decode cL_law 1077 = .ok (.aload_n 0, 1) := by decide +kernel
theorem dL_law_1078 : decode cL_law 1078 = .ok (.iload_n 3, 1) := by decide +kernel
theorem dL_law_1079 : decode cL_law 1079 = .ok (.iconst 1, 1) := by decide +kernel
theorem dL_law_1080 : decode cL_law 1080 = .ok (.iadd, 1) := by decide +kernel
theorem dL_law_1081 : decode cL_law 1081 = .ok (.iaload, 1) := by decide +kernel
theorem dL_law_1082 : decode cL_law 1082 = .ok (.invokevirtual 115, 3) := by decide +kernel
theorem dL_law_1085 : decode cL_law 1085 = .ok (.if_icmp .eq 5, 3) := by decide +kernel
theorem dL_law_1088 : decode cL_law 1088 = .ok (.iconst 0, 1) := by decide +kernel
theorem dL_law_1089 : decode cL_law 1089 = .ok (.ireturn, 1) := by decide +kernel
theorem dL_law_1090 : decode cL_law 1090 = .ok (.iinc 3 7, 3) := by decide +kernel
theorem dL_law_1093 : decode cL_law 1093 = .ok (.goto (-1075), 3) := by decide +kernel
theorem dL_law_1096 : decode cL_law 1096 = .ok (.iconst 1, 1) := by decide +kernel
theorem dL_law_1097 : decode cL_law 1097 = .ok (.ireturn, 1) := by decide +kernel
end
section
/-! one list of words for all contracts; nest mates' words; a method's standing facts; rows over any world -/
def wsA : List Cond := lw_tbl.filter goodWord
theorem wsA_in {w : Cond} (h : w ∈ wsA) : w ∈ lw_tbl := (List.mem_filter.mp h).1
theorem wsA_good {w : Cond} (h : w ∈ wsA) : goodWord w = true := (List.mem_filter.mp h).2
theorem wsA_mem (i : Nat) {w : Cond} (h : lw_tbl[i]? = some w) (hg : goodWord w = true) : w ∈ wsA := List.mem_filter.mpr ⟨List.mem_of_getElem? h, hg⟩
theorem goodIn_A {big ws : List Cond} (hb : ∀ w ∈ wsA, w ∈ big) (h : ∀ w ∈ ws, w ∈ wsA) : GoodIn big ws := fun w hw => ⟨hb w (h w hw), good_of_word (wsA_good (h w hw))⟩
def isNestW (w : Cond) : Bool := match w with
  | .fieldLinkNest _ _ _ _ _ _ => true
  | .methodLinkNest _ _ _ _ => true
  | _ => false
def wsN : List Cond := tables_1.filter isNestW
theorem wsN_mem (i : Nat) {w : Cond} (h : tables_1[i]? = some w) (hg : isNestW w = true) : w ∈ wsN := List.mem_filter.mpr ⟨List.mem_of_getElem? h, hg⟩
def NW (U : State) : Prop := ∀ w ∈ wsN, va_Nw w U
theorem NW.warm {s U : State} (hW : s.WarmedH U.vm) (h : NW s) : NW U := by
  intro w hw
  have h1 := h w hw
  have h2 : isNestW w = true := (List.mem_filter.mp hw).2
  cases w
  case fieldLinkNest => exact va_Nw.warmF hW h1
  case methodLinkNest => exact va_Nw.warmM hW h1
  all_goals exact absurd h2 (by simp [isNestW])
theorem NW.same {u U : State} (hv : u.vm = U.vm) (h : NW u) : NW U := by
  intro w hw
  have h1 := h w hw
  have h2 : isNestW w = true := (List.mem_filter.mp hw).2
  cases w
  case fieldLinkNest => exact va_Nw.same rfl hv h1
  case methodLinkNest => exact va_Nw.same rfl hv h1
  all_goals exact absurd h2 (by simp [isNestW])
def tysA (cy : Nat → ClassId) : List (ClassId × FieldType) := [(cy 0, .byte), (cy 1, .int), (cy 2, .long), (cy 3, .boolean), (cy 4, .object "PromiseCourt$Law")]
/-- what stands through a method's body -/
def xE (cc : ByteArray) (own : String) (nL : Nat) (ret : Option FieldType) (D : va_G) (cy : Nat → ClassId) (p : Program) (s : State) (m : MethodId) (args : Array Value) (meth : Method) (c : Code) : Prop :=
  p.tables.exec = Jvm.exec ∧ c.code = cc ∧ c.maxLocals = nL ∧ s.vm.findClass own = some m.cls ∧ (∀ w ∈ wsA, w.before args s = true) ∧ NW s ∧ va_K D vwCl (tysA cy) s ∧ meth.sig.returnType = ret ∧ meth.locks = false
/-- what the heap is at a point of it -/
def xH (D : va_G) (A : Nat → Prop) (s : State) (ws : va_W) (H : Heap) (locs : List Loc) : Prop :=
  va_P D vwCl ws H ∧ va_D A ws ∧ va_S A s.heap H locs ∧ ∀ q : Nat, s.heap.size ≤ q → A q
/-- a contract's start and end -/
def xPc (D : va_G) (cy : Nat → ClassId) (ws : va_W) (sz : Nat) (av : List Value) : Array Value → State → Prop :=
  va_Pc av (fun U => U.heap.size = sz ∧ NW U ∧ va_P D vwCl ws U.heap ∧ va_K D vwCl (tysA cy) U ∧ va_D (fun _ => True) ws)
def xB (D : va_G) (cy : Nat → ClassId) {S : Type} (WW : S → va_W) (A : Nat → Prop) (u : S) (t : State) : Prop :=
  va_P D vwCl (WW u) t.heap ∧ va_K D vwCl (tysA cy) t ∧ va_D A (WW u)
theorem xPc_blind {D : va_G} {cy : Nat → ClassId} {ws : va_W} {sz : Nat} {av : List Value} : FrameBlind (xPc D cy ws sz av) := by
  intro a U g mk q
  obtain ⟨q0, q1, qN, qP, qK, qD⟩ := q
  exact ⟨q0, q1, NW.same (u := U) (U := U.calling g mk a) rfl qN, qP, va_K.moved (u := U) (U := U.calling g mk a) (Vm.Alike.refl U.vm) qK, qD⟩
/-- a method by its words: an instance method of C that a call of n arguments selects -/
def xY (y : MethodName) (C : String) (bytes : ByteArray) (maxL : Nat) (ret : Option FieldType) (n : Nat) : Prop :=
  (Cond.instanceMethod y ∈ wsA ∧ Cond.selects C y y ∈ wsA ∧ Cond.initialized C ∈ wsA ∧ Cond.code y bytes maxL ret ∈ wsA) ∧ (y.cls = C ∧ y.cls ≠ "java/lang/invoke/MethodHandle" ∧ y.cls ≠ "java/lang/invoke/VarHandle" ∧ (parseMethodDescriptor y.desc).map (fun d => d.parameters.length) = some n)
/-- a static method by its words -/
def xT (y : MethodName) (C : String) (bytes : ByteArray) (maxL : Nat) (ret : Option FieldType) (n : Nat) : Prop :=
  (Cond.static y ∈ wsA ∧ Cond.initialized C ∈ wsA ∧ Cond.code y bytes maxL ret ∈ wsA) ∧ (y.cls = C ∧ y.cls ≠ "java/lang/invoke/MethodHandle" ∧ y.cls ≠ "java/lang/invoke/VarHandle" ∧ (parseMethodDescriptor y.desc).map (fun d => d.parameters.length) = some n)
section XRows
variable {p : Program} {l : Launch} {e : Env} {R : Room} {s : State} {m : MethodId} {args : Array Value} {below : List Frame} {meth : Method} {c : Code} {H : Heap} {locs : List Loc} {cells slots : Nat} {Q : State → Prop}
variable {cc : ByteArray} {own : String} {nL : Nat} {ret : Option FieldType} {D : va_G} {cy : Nat → ClassId} {A : Nat → Prop} {ws : va_W} {pc : Nat} {ls : Array Slot} {rest : List Value}
theorem x_get (E : xE cc own nL ret D cy p s m args meth c) (h : xH D A s ws H locs) {a ci idx N : Nat} {C : String} {T : u_T} {fs : List Value} {v : Value} (k pos : Nat) (hin : ∀ w ∈ u_ws C T N, w ∈ wsA) (hc : vwCl[ci]? = some (C, T, N)) (hk : k < N) (hlink : Cond.fieldLink own idx (T k).1 (T k).2.1 (T k).2.2.1 ∈ wsA) (he : ws[pos]? = some (a, .inr (ci, fs))) (hv : fs[k]? = some v) (hdg : decode cc pc = .ok (.getfield idx, 3))
    (kk : W p l e R s m args below meth c H locs cells slots Q (F0 m (pc + 3) ls (v :: rest))) : W p l e R s m args below meth c H locs cells slots Q (F0 m pc ls (.ref a :: rest)) :=
  va_get E.1 E.2.1 E.2.2.2.2.1 hin E.2.2.2.1 E.2.2.2.2.2.2.1 h.1 pos he hc k hk (E.2.2.2.2.1 _ hlink) (fun _ h9 => h9) hv hdg kk
theorem x_getN (E : xE cc own nL ret D cy p s m args meth c) (h : xH D A s ws H locs) {a ci idx N : Nat} {C host : String} {T : u_T} {fs : List Value} {v : Value} (k pos : Nat) (hin : ∀ w ∈ u_ws C T N, w ∈ wsA) (hc : vwCl[ci]? = some (C, T, N)) (hk : k < N) (hlink : Cond.fieldLinkNest own idx (T k).1 (T k).2.1 (T k).2.2.1 host ∈ wsN) (he : ws[pos]? = some (a, .inr (ci, fs))) (hv : fs[k]? = some v) (hdg : decode cc pc = .ok (.getfield idx, 3))
    (kk : W p l e R s m args below meth c H locs cells slots Q (F0 m (pc + 3) ls (v :: rest))) : W p l e R s m args below meth c H locs cells slots Q (F0 m pc ls (.ref a :: rest)) :=
  va_getN E.1 E.2.1 E.2.2.2.2.1 hin E.2.2.2.1 E.2.2.2.2.2.2.1 h.1 pos he hc k hk (va_Nw.use rfl (E.2.2.2.2.2.1 _ hlink)) (fun _ h9 => h9) hv hdg kk
theorem x_put (E : xE cc own nL ret D cy p s m args meth c) (h : xH D A s ws H locs) {a ci idx N : Nat} {C : String} {T : u_T} {fs : List Value} {x : Int32} {ws' : va_W} (k pos : Nat) (hin : ∀ w ∈ u_ws C T N, w ∈ wsA) (ty0 : Nat → FieldType) (hty : ∀ k, k < N → parseFieldDescriptor (T k).2.2.1 = some (ty0 k)) (hnm : ∀ a, a < N → ∀ b, b < N → a ≠ b → (T a).2.1 ≠ (T b).2.1) (hc : vwCl[ci]? = some (C, T, N)) (hk : k < N) (hlink : Cond.fieldLink own idx (T k).1 (T k).2.1 (T k).2.2.1 ∈ wsA) (hfin : (T k).2.2.2 = false) (hd : parseFieldDescriptor (T k).2.2.1 = some .int) (he : ws[pos]? = some (a, .inr (ci, fs))) (hl : k < fs.length) (hset : ws.set pos (a, .inr (ci, fs.set k (.int x))) = ws') (hdg : decode cc pc = .ok (.putfield idx, 3))
    (kk : ∀ (H : Heap) (locs : List Loc), xH D A s ws' H locs → W p l e R s m args below meth c H locs cells slots Q (F0 m (pc + 3) ls rest)) : W p l e R s m args below meth c H locs cells slots Q (F0 m pc ls (.int x :: .ref a :: rest)) := by
  subst hset
  exact va_put E.1 E.2.1 E.2.2.2.2.1 hin ty0 hty hnm E.2.2.2.1 E.2.2.2.2.2.2.1 h.1 h.2.1 h.2.2.1 pos he hc k hk (E.2.2.2.2.1 _ hlink) (fun _ h9 => h9) hfin hd rfl rfl hl hdg (fun H1 locs1 h1 h2 h3 => kk H1 locs1 ⟨h1, h2, h3, h.2.2.2⟩)
theorem x_putN (E : xE cc own nL ret D cy p s m args meth c) (h : xH D A s ws H locs) {a ci idx N : Nat} {C host : String} {T : u_T} {fs : List Value} {x : Int32} {ws' : va_W} (k pos : Nat) (hin : ∀ w ∈ u_ws C T N, w ∈ wsA) (ty0 : Nat → FieldType) (hty : ∀ k, k < N → parseFieldDescriptor (T k).2.2.1 = some (ty0 k)) (hnm : ∀ a, a < N → ∀ b, b < N → a ≠ b → (T a).2.1 ≠ (T b).2.1) (hc : vwCl[ci]? = some (C, T, N)) (hk : k < N) (hlink : Cond.fieldLinkNest own idx (T k).1 (T k).2.1 (T k).2.2.1 host ∈ wsN) (hfin : (T k).2.2.2 = false) (hd : parseFieldDescriptor (T k).2.2.1 = some .int) (he : ws[pos]? = some (a, .inr (ci, fs))) (hl : k < fs.length) (hset : ws.set pos (a, .inr (ci, fs.set k (.int x))) = ws') (hdg : decode cc pc = .ok (.putfield idx, 3))
    (kk : ∀ (H : Heap) (locs : List Loc), xH D A s ws' H locs → W p l e R s m args below meth c H locs cells slots Q (F0 m (pc + 3) ls rest)) : W p l e R s m args below meth c H locs cells slots Q (F0 m pc ls (.int x :: .ref a :: rest)) := by
  subst hset
  exact va_putN E.1 E.2.1 E.2.2.2.2.1 hin ty0 hty hnm E.2.2.2.1 E.2.2.2.2.2.2.1 h.1 h.2.1 h.2.2.1 pos he hc k hk (va_Nw.use rfl (E.2.2.2.2.2.1 _ hlink)) (fun _ h9 => h9) hfin hd rfl rfl hl hdg (fun H1 locs1 h1 h2 h3 => kk H1 locs1 ⟨h1, h2, h3, h.2.2.2⟩)
theorem x_iald (E : xE cc own nL ret D cy p s m args meth c) (h : xH D A s ws H locs) {a n : Nat} {f : Nat → Int32} {i : Int32} (pos : Nat) (he : ws[pos]? = some (a, .inl (cy 1, n, .inl f))) (hi : vp_in i n) (hdg : decode cc pc = .ok (.iaload, 1))
    (kk : W p l e R s m args below meth c H locs cells slots Q (F0 m (pc + 1) ls (.int (f i.toNatClampNeg) :: rest))) : W p l e R s m args below meth c H locs cells slots Q (F0 m pc ls (.int i :: .ref a :: rest)) :=
  va_iald E.1 E.2.1 E.2.2.2.2.2.2.1 h.1 pos 1 he rfl hi hdg kk
theorem x_bald (E : xE cc own nL ret D cy p s m args meth c) (h : xH D A s ws H locs) {a n : Nat} {f : Nat → Int32} {i : Int32} (pos : Nat) (he : ws[pos]? = some (a, .inl (cy 0, n, .inl f))) (hi : vp_in i n) (hdg : decode cc pc = .ok (.baload, 1))
    (kk : W p l e R s m args below meth c H locs cells slots Q (F0 m (pc + 1) ls (.int (f i.toNatClampNeg) :: rest))) : W p l e R s m args below meth c H locs cells slots Q (F0 m pc ls (.int i :: .ref a :: rest)) :=
  va_bald E.1 E.2.1 E.2.2.2.2.2.2.1 h.1 pos 0 he rfl hi hdg kk
theorem x_zald (E : xE cc own nL ret D cy p s m args meth c) (h : xH D A s ws H locs) {a n : Nat} {f : Nat → Int32} {i : Int32} (pos : Nat) (he : ws[pos]? = some (a, .inl (cy 3, n, .inl f))) (hi : vp_in i n) (hdg : decode cc pc = .ok (.baload, 1))
    (kk : W p l e R s m args below meth c H locs cells slots Q (F0 m (pc + 1) ls (.int (f i.toNatClampNeg) :: rest))) : W p l e R s m args below meth c H locs cells slots Q (F0 m pc ls (.int i :: .ref a :: rest)) :=
  va_zald E.1 E.2.1 E.2.2.2.2.2.2.1 h.1 pos 3 he rfl hi hdg kk
theorem x_lald (E : xE cc own nL ret D cy p s m args meth c) (h : xH D A s ws H locs) {a n : Nat} {f : Nat → Int64} {i : Int32} (pos : Nat) (he : ws[pos]? = some (a, .inl (cy 2, n, .inr (.inl f)))) (hi : vp_in i n) (hdg : decode cc pc = .ok (.laload, 1))
    (kk : W p l e R s m args below meth c H locs cells slots Q (F0 m (pc + 1) ls (.long (f i.toNatClampNeg) :: rest))) : W p l e R s m args below meth c H locs cells slots Q (F0 m pc ls (.int i :: .ref a :: rest)) :=
  va_lald E.1 E.2.1 E.2.2.2.2.2.2.1 h.1 pos 2 he rfl hi hdg kk
theorem x_iast (E : xE cc own nL ret D cy p s m args meth c) (h : xH D A s ws H locs) {a n : Nat} {f : Nat → Int32} {i x : Int32} {ws' : va_W} (pos : Nat) (he : ws[pos]? = some (a, .inl (cy 1, n, .inl f))) (hset : ws.set pos (a, .inl (cy 1, n, .inl (upd f i.toNatClampNeg x))) = ws') (hi : vp_in i n) (hdg : decode cc pc = .ok (.iastore, 1))
    (kk : ∀ (H : Heap) (locs : List Loc), xH D A s ws' H locs → W p l e R s m args below meth c H locs cells slots Q (F0 m (pc + 1) ls rest)) : W p l e R s m args below meth c H locs cells slots Q (F0 m pc ls (.int x :: .int i :: .ref a :: rest)) := by
  subst hset
  exact va_iast E.1 E.2.1 E.2.2.2.2.2.2.1 h.1 h.2.1 h.2.2.1 pos 1 he rfl hi hdg (fun H1 locs1 h1 h2 h3 => kk H1 locs1 ⟨h1, h2, h3, h.2.2.2⟩)
theorem x_bast (E : xE cc own nL ret D cy p s m args meth c) (h : xH D A s ws H locs) {a n : Nat} {f : Nat → Int32} {i x : Int32} {ws' : va_W} (pos : Nat) (he : ws[pos]? = some (a, .inl (cy 0, n, .inl f))) (hset : ws.set pos (a, .inl (cy 0, n, .inl (upd f i.toNatClampNeg (vp_nar .byte x)))) = ws') (hi : vp_in i n) (hdg : decode cc pc = .ok (.bastore, 1))
    (kk : ∀ (H : Heap) (locs : List Loc), xH D A s ws' H locs → W p l e R s m args below meth c H locs cells slots Q (F0 m (pc + 1) ls rest)) : W p l e R s m args below meth c H locs cells slots Q (F0 m pc ls (.int x :: .int i :: .ref a :: rest)) := by
  subst hset
  exact va_bast E.1 E.2.1 E.2.2.2.2.2.2.1 h.1 h.2.1 h.2.2.1 pos 0 he rfl hi hdg (fun H1 locs1 h1 h2 h3 => kk H1 locs1 ⟨h1, h2, h3, h.2.2.2⟩)
theorem x_zast (E : xE cc own nL ret D cy p s m args meth c) (h : xH D A s ws H locs) {a n : Nat} {f : Nat → Int32} {i x : Int32} {ws' : va_W} (pos : Nat) (he : ws[pos]? = some (a, .inl (cy 3, n, .inl f))) (hset : ws.set pos (a, .inl (cy 3, n, .inl (upd f i.toNatClampNeg (vp_nar .boolean x)))) = ws') (hi : vp_in i n) (hdg : decode cc pc = .ok (.bastore, 1))
    (kk : ∀ (H : Heap) (locs : List Loc), xH D A s ws' H locs → W p l e R s m args below meth c H locs cells slots Q (F0 m (pc + 1) ls rest)) : W p l e R s m args below meth c H locs cells slots Q (F0 m pc ls (.int x :: .int i :: .ref a :: rest)) := by
  subst hset
  exact va_zast E.1 E.2.1 E.2.2.2.2.2.2.1 h.1 h.2.1 h.2.2.1 pos 3 he rfl hi hdg (fun H1 locs1 h1 h2 h3 => kk H1 locs1 ⟨h1, h2, h3, h.2.2.2⟩)
theorem x_last (E : xE cc own nL ret D cy p s m args meth c) (h : xH D A s ws H locs) {a n : Nat} {f : Nat → Int64} {i : Int32} {x : Int64} {ws' : va_W} (pos : Nat) (he : ws[pos]? = some (a, .inl (cy 2, n, .inr (.inl f)))) (hset : ws.set pos (a, .inl (cy 2, n, .inr (.inl (vp_updL f i.toNatClampNeg x)))) = ws') (hi : vp_in i n) (hdg : decode cc pc = .ok (.lastore, 1))
    (kk : ∀ (H : Heap) (locs : List Loc), xH D A s ws' H locs → W p l e R s m args below meth c H locs cells slots Q (F0 m (pc + 1) ls rest)) : W p l e R s m args below meth c H locs cells slots Q (F0 m pc ls (.long x :: .int i :: .ref a :: rest)) := by
  subst hset
  exact va_last E.1 E.2.1 E.2.2.2.2.2.2.1 h.1 h.2.1 h.2.2.1 pos 2 he rfl hi hdg (fun H1 locs1 h1 h2 h3 => kk H1 locs1 ⟨h1, h2, h3, h.2.2.2⟩)
theorem x_alen (E : xE cc own nL ret D cy p s m args meth c) (h : xH D A s ws H locs) {a n : Nat} {f : Nat → Int32} {v : Int32} (pos : Nat) (he : ws[pos]? = some (a, .inl (cy 1, n, .inl f))) (hv : Int32.ofNat n = v) (hdg : decode cc pc = .ok (.arraylength, 1))
    (kk : W p l e R s m args below meth c H locs cells slots Q (F0 m (pc + 1) ls (.int v :: rest))) : W p l e R s m args below meth c H locs cells slots Q (F0 m pc ls (.ref a :: rest)) :=
  va_alen E.1 E.2.1 E.2.2.2.2.2.2.1 h.1 pos 1 he (ty := .int) rfl hv hdg kk
theorem x_alenB (E : xE cc own nL ret D cy p s m args meth c) (h : xH D A s ws H locs) {a n : Nat} {f : Nat → Int32} {v : Int32} (pos : Nat) (he : ws[pos]? = some (a, .inl (cy 0, n, .inl f))) (hv : Int32.ofNat n = v) (hdg : decode cc pc = .ok (.arraylength, 1))
    (kk : W p l e R s m args below meth c H locs cells slots Q (F0 m (pc + 1) ls (.int v :: rest))) : W p l e R s m args below meth c H locs cells slots Q (F0 m pc ls (.ref a :: rest)) :=
  va_alen E.1 E.2.1 E.2.2.2.2.2.2.1 h.1 pos 0 he (ty := .byte) rfl hv hdg kk
theorem x_min (E : xE cc own ls.size ret D cy p s m args meth c) {idx : Nat} (hlink : Cond.methodLink own idx Lib.Math.min.name ∈ wsA) (h1 : Cond.static Lib.Math.min.name ∈ wsA) (h2 : Cond.initialized "java/lang/Math" ∈ wsA) (h3 : Cond.code Lib.Math.min.name Lib.Math.min.code 2 (some .int) ∈ wsA) (hfr : 1 ≤ R.frames) (hlo : (rest.map fun v => v.category).sum + 13 ≤ R.locals) (hc : cells ≤ R.cells) (hs : slots ≤ R.slots) {x y : Int32} (hdg : decode cc pc = .ok (.invokestatic idx, 3))
    (kk : W p l e R s m args below meth c H locs cells slots Q (F0 m (pc + 3) ls (.int (if y < x then y else x) :: rest))) : W p l e R s m args below meth c H locs cells slots Q (F0 m pc ls (.int y :: .int x :: rest)) :=
  va_mmin E.1 E.2.1 E.2.2.1 E.2.2.2.1 (E.2.2.2.2.1 _ hlink) (E.2.2.2.2.1 _ h1) (E.2.2.2.2.1 _ h2) (E.2.2.2.2.1 _ h3) hfr hlo hc hs hdg kk
theorem x_max (E : xE cc own ls.size ret D cy p s m args meth c) {idx : Nat} (hlink : Cond.methodLink own idx Lib.Math.max.name ∈ wsA) (h1 : Cond.static Lib.Math.max.name ∈ wsA) (h2 : Cond.initialized "java/lang/Math" ∈ wsA) (h3 : Cond.code Lib.Math.max.name Lib.Math.max.code 2 (some .int) ∈ wsA) (hfr : 1 ≤ R.frames) (hlo : (rest.map fun v => v.category).sum + 13 ≤ R.locals) (hc : cells ≤ R.cells) (hs : slots ≤ R.slots) {x y : Int32} (hdg : decode cc pc = .ok (.invokestatic idx, 3))
    (kk : W p l e R s m args below meth c H locs cells slots Q (F0 m (pc + 3) ls (.int (if x < y then y else x) :: rest))) : W p l e R s m args below meth c H locs cells slots Q (F0 m pc ls (.int y :: .int x :: rest)) :=
  va_mmax E.1 E.2.1 E.2.2.1 E.2.2.2.1 (E.2.2.2.2.1 _ hlink) (E.2.2.2.2.1 _ h1) (E.2.2.2.2.1 _ h2) (E.2.2.2.2.1 _ h3) hfr hlo hc hs hdg kk
end XRows
section XCalls
variable {p : Program} {l : Launch} {e : Env} {R : Room} {s : State} {m : MethodId} {args : Array Value} {below : List Frame} {meth : Method} {c : Code} {H : Heap} {locs : List Loc} {cells slots : Nat} {Q : State → Prop}
variable {cc : ByteArray} {own : String} {nL : Nat} {ret0 : Option FieldType} {D : va_G} {cy : Nat → ClassId} {A : Nat → Prop} {pc : Nat} {ls : Array Slot} {rest st : List Value}
variable {S : Type} {WW : S → va_W} {σ : S} {C : String} {y : MethodName} {bytes : ByteArray} {maxL idx b ci : Nat} {ret : Option FieldType} {rm : Room} {Qc : Array Value → State → Outcome → State → Prop} {As : List Value} {free : Nat → Prop} {T : u_T} {N : Nat} {fs : List Value} {host : String}
theorem xH.sub (h : xH D A s (WW σ) H locs) : ∀ q, va_A (WW σ) H.size q → A q := by
  intro q hq
  rcases hq with ⟨k, e0, hk⟩ | hq
  · exact h.2.1.2 k _ hk
  · exact h.2.2.2 q (Nat.le_trans h.2.2.1.1 hq)
theorem xH.after {t : State} {σ' : S} {H1 : Heap} {locs1 : List Loc} (h : xH D A s (WW σ) H locs) (ht : t.heap = H1) (hB : xB D cy WW (va_A (WW σ) H.size) σ' t) (hS : va_S A s.heap H1 locs1) : xH D A s (WW σ') H1 locs1 :=
  ⟨by rw [← ht]; exact hB.1, hB.2.2.weaken (fun _ _ _ hq => h.sub _ hq), hS, h.2.2.2⟩
theorem x_pre (E : xE cc own nL ret0 D cy p s m args meth c) (h : xH D A s (WW σ) H locs) {av : List Value} : ∀ U : State, U.heap = H → s.WarmedH U.vm → xPc D cy (WW σ) H.size av av.toArray U :=
  fun U hU hW => ⟨rfl, by rw [hU], NW.warm hW E.2.2.2.2.2.1, by rw [hU]; exact h.1, va_K.moved hW.alike E.2.2.2.2.2.2.1, h.2.1.weaken (fun _ _ _ _ => trivial)⟩
theorem x_runV (E : xE cc own nL ret0 D cy p s m args meth c) (h : xH D A s (WW σ) H locs) (hM : Met l y (Cond.code y bytes maxL ret :: wsA) rm (xPc D cy (WW σ) H.size (.ref b :: As)) Qc 0 0 free) (hY : xY y C bytes maxL ret As.length) (hl : Cond.methodLink own idx y ∈ wsA) (pos : Nat) (he : (WW σ)[pos]? = some (b, .inr (ci, fs))) (hc : vwCl[ci]? = some (C, T, N)) (hR : rm.frames + 1 ≤ R.frames ∧ 8 + (maxL + 11) + rm.locals ≤ R.locals) (hrc : rm.cells = 0) (hrs : rm.slots = 0) (hsz : ls.size = nL) (hst : st = As.reverse ++ .ref b :: rest) (hrest : (rest.map fun v => v.category).sum ≤ 8) (hdg : decode cc pc = .ok (.invokevirtual idx, 3)) (hf : cells ≤ R.cells ∧ slots ≤ R.slots) :
    va_Run p l e R s m args below meth c H locs cells slots 0 0 (F0 m pc ls st) rest (Qc (Value.ref b :: As).toArray) free := by
  refine va_runV (Ts := wsA) (C := C) (index := idx) ⟨E.1, E.2.1, E.2.2.1, E.2.2.2.1, E.2.2.2.2.1⟩ hM (cwV As.length E.2.2.2.2.1 (goodIn_A (fun _ h => h) ?_) rfl hrc hrs hY.2 hR) ⟨xPc_blind, va_recv E.2.2.2.2.2.2.1 h.1 hc he, x_pre E h⟩ rfl rfl hsz hst (lv_room hrest) hdg hf
  intro w hw
  rcases List.mem_append.mp hw with hw | hw
  · simp only [List.mem_cons, List.not_mem_nil, or_false] at hw
    rcases hw with rfl | rfl | rfl | rfl
    · exact hl
    · exact hY.1.1
    · exact hY.1.2.1
    · exact hY.1.2.2.1
  · rcases List.mem_cons.mp hw with rfl | hw
    · exact hY.1.2.2.2
    · exact hw
theorem x_runVN (E : xE cc own nL ret0 D cy p s m args meth c) (h : xH D A s (WW σ) H locs) (hM : Met l y (Cond.code y bytes maxL ret :: wsA) rm (xPc D cy (WW σ) H.size (.ref b :: As)) Qc 0 0 free) (hY : xY y C bytes maxL ret As.length) (hl : Cond.methodLinkNest own idx y host ∈ wsN) (pos : Nat) (he : (WW σ)[pos]? = some (b, .inr (ci, fs))) (hc : vwCl[ci]? = some (C, T, N)) (hR : rm.frames + 1 ≤ R.frames ∧ 8 + (maxL + 11) + rm.locals ≤ R.locals) (hrc : rm.cells = 0) (hrs : rm.slots = 0) (hsz : ls.size = nL) (hst : st = As.reverse ++ .ref b :: rest) (hrest : (rest.map fun v => v.category).sum ≤ 8) (hdg : decode cc pc = .ok (.invokevirtual idx, 3)) (hf : cells ≤ R.cells ∧ slots ≤ R.slots) :
    va_Run p l e R s m args below meth c H locs cells slots 0 0 (F0 m pc ls st) rest (Qc (Value.ref b :: As).toArray) free := by
  refine va_runVN (Ts := wsA) (C := C) (host := host) (index := idx) ⟨E.1, E.2.1, E.2.2.1, E.2.2.2.1, E.2.2.2.2.1⟩ hM ⟨va_cnB As.length E.2.2.2.2.1 (goodIn_A (fun _ h => h) ?_) rfl hrc hrs (E.2.2.2.2.2.1 _ hl) (by rw [hY.2.1]; exact E.2.2.2.2.1 _ hY.1.2.2.1) hY.2.2 hR, E.2.2.2.2.1 _ hY.1.1, E.2.2.2.2.1 _ hY.1.2.1⟩ ⟨xPc_blind, va_recv E.2.2.2.2.2.2.1 h.1 hc he, x_pre E h⟩ rfl rfl hsz hst (lv_room hrest) hdg hf
  intro w hw
  rcases List.mem_cons.mp hw with rfl | hw
  · exact hY.1.2.2.2
  · exact hw
theorem x_runS (E : xE cc own nL ret0 D cy p s m args meth c) (h : xH D A s (WW σ) H locs) (hM : Met l y (Cond.code y bytes maxL ret :: wsA) rm (xPc D cy (WW σ) H.size As) Qc 0 0 free) (hY : xT y own bytes maxL ret As.length) (hl : Cond.methodLink own idx y ∈ wsA) (hR : rm.frames + 1 ≤ R.frames ∧ 8 + (maxL + 11) + rm.locals ≤ R.locals) (hrc : rm.cells = 0) (hrs : rm.slots = 0) (hsz : ls.size = nL) (hst : st = As.reverse ++ rest) (hrest : (rest.map fun v => v.category).sum ≤ 8) (hdg : decode cc pc = .ok (.invokestatic idx, 3)) (hf : cells ≤ R.cells ∧ slots ≤ R.slots) :
    va_Run p l e R s m args below meth c H locs cells slots 0 0 (F0 m pc ls st) rest (Qc As.toArray) free := by
  refine va_runS (Ts := wsA) (index := idx) ⟨E.1, E.2.1, E.2.2.1, E.2.2.2.1, E.2.2.2.2.1⟩ hM (cwS As.length E.2.2.2.2.1 (goodIn_A (fun _ h => h) ?_) rfl hrc hrs hY.2 hR) ⟨xPc_blind, x_pre E h⟩ rfl rfl hsz hst (lv_room hrest) hdg hf
  intro w hw
  rcases List.mem_append.mp hw with hw | hw
  · simp only [List.mem_cons, List.not_mem_nil, or_false] at hw
    rcases hw with rfl | rfl | rfl
    · exact hl
    · exact hY.1.1
    · exact hY.1.2.1
  · rcases List.mem_cons.mp hw with rfl | hw
    · exact hY.1.2.2
    · exact hw
theorem x_runSN (E : xE cc own nL ret0 D cy p s m args meth c) (h : xH D A s (WW σ) H locs) (hM : Met l y (Cond.code y bytes maxL ret :: wsA) rm (xPc D cy (WW σ) H.size As) Qc 0 0 free) (hY : xT y C bytes maxL ret As.length) (hl : Cond.methodLinkNest own idx y host ∈ wsN) (hR : rm.frames + 1 ≤ R.frames ∧ 8 + (maxL + 11) + rm.locals ≤ R.locals) (hrc : rm.cells = 0) (hrs : rm.slots = 0) (hsz : ls.size = nL) (hst : st = As.reverse ++ rest) (hrest : (rest.map fun v => v.category).sum ≤ 8) (hdg : decode cc pc = .ok (.invokestatic idx, 3)) (hf : cells ≤ R.cells ∧ slots ≤ R.slots) :
    va_Run p l e R s m args below meth c H locs cells slots 0 0 (F0 m pc ls st) rest (Qc As.toArray) free := by
  refine va_runSN (Ts := wsA) (host := host) (index := idx) ⟨E.1, E.2.1, E.2.2.1, E.2.2.2.1, E.2.2.2.2.1⟩ hM ⟨va_cnB As.length E.2.2.2.2.1 (goodIn_A (fun _ h => h) ?_) rfl hrc hrs (E.2.2.2.2.2.1 _ hl) (by rw [hY.2.1]; exact E.2.2.2.2.1 _ hY.1.2.1) hY.2.2 hR, E.2.2.2.2.1 _ hY.1.1, trivial⟩ ⟨xPc_blind, x_pre E h⟩ rfl rfl hsz hst (lv_room hrest) hdg hf
  intro w hw
  rcases List.mem_cons.mp hw with rfl | hw
  · exact hY.1.2.2
  · exact hw
theorem x_calli {a : Array Value} {Post : Int32 → S → Prop} (h : xH D A s (WW σ) H locs) (hr : va_Run p l e R s m args below meth c H locs cells slots 0 0 (F0 m pc ls st) rest (va_Qi Post (xB D cy WW (va_A (WW σ) H.size)) (va_A (WW σ) H.size) a) (va_A (WW σ) H.size))
    (kk : ∀ (r : Int32) (σ : S) (H : Heap) (locs : List Loc), Post r σ → xH D A s (WW σ) H locs → W p l e R s m args below meth c H locs cells slots Q (F0 m (pc + 3) ls (.int r :: rest))) : W p l e R s m args below meth c H locs cells slots Q (F0 m pc ls st) :=
  va_calli hr h.2.2.1 (fun q _ hq => h.sub q hq) h.sub (fun r u t H1 locs1 ht hvm hw hB hz1 hk1 hS => kk r u H1 locs1 hw (h.after ht hB hS))
theorem x_calll {a : Array Value} {Post : Int64 → S → Prop} (h : xH D A s (WW σ) H locs) (hr : va_Run p l e R s m args below meth c H locs cells slots 0 0 (F0 m pc ls st) rest (va_Ql Post (xB D cy WW (va_A (WW σ) H.size)) (va_A (WW σ) H.size) a) (va_A (WW σ) H.size))
    (kk : ∀ (r : Int64) (σ : S) (H : Heap) (locs : List Loc), Post r σ → xH D A s (WW σ) H locs → W p l e R s m args below meth c H locs cells slots Q (F0 m (pc + 3) ls (.long r :: rest))) : W p l e R s m args below meth c H locs cells slots Q (F0 m pc ls st) :=
  va_calll hr h.2.2.1 (fun q _ hq => h.sub q hq) h.sub (fun r u t H1 locs1 ht hvm hw hB hz1 hk1 hS => kk r u H1 locs1 hw (h.after ht hB hS))
theorem x_callv {a : Array Value} {Post : S → Prop} (h : xH D A s (WW σ) H locs) (hr : va_Run p l e R s m args below meth c H locs cells slots 0 0 (F0 m pc ls st) rest (va_Qv Post (xB D cy WW (va_A (WW σ) H.size)) (va_A (WW σ) H.size) a) (va_A (WW σ) H.size))
    (kk : ∀ (σ : S) (H : Heap) (locs : List Loc), Post σ → xH D A s (WW σ) H locs → W p l e R s m args below meth c H locs cells slots Q (F0 m (pc + 3) ls rest)) : W p l e R s m args below meth c H locs cells slots Q (F0 m pc ls st) :=
  va_callv hr h.2.2.1 (fun q _ hq => h.sub q hq) h.sub (fun u t H1 locs1 ht hvm hw hB hz1 hk1 hS => kk u H1 locs1 hw (h.after ht hB hS))
/-- returns -/
theorem x_iret {Post : Int32 → S → Prop} {v : Int32} (E : xE cc own nL (some .int) D cy p s m args meth c) (h : xH D A s (WW σ) H locs) (hw : Post v σ) (hdg : decode cc pc = .ok (.ireturn, 1)) :
    W p l e R s m args below meth c H locs 0 0 (MQ below (va_Qi Post (xB D cy WW A) A) args s 0 0 A) (F0 m pc ls [.int v]) :=
  W.iret E.1 E.2.1 E.2.2.2.2.2.2.2.1 (fun t ht hW => ⟨⟨v, σ, rfl, hw, by rw [ht]; exact h.1, va_K.moved hW.alike E.2.2.2.2.2.2.1, h.2.1⟩, h.2.2.1.F ht⟩) h.2.2.1.2.2 hdg (hlocks := E.2.2.2.2.2.2.2.2)
theorem x_zret {Post : Int32 → S → Prop} {v : Int32} (E : xE cc own nL (some .boolean) D cy p s m args meth c) (h : xH D A s (WW σ) H locs) (hn : narrow .boolean (.int v) = .int v) (hw : Post v σ) (hdg : decode cc pc = .ok (.ireturn, 1)) :
    W p l e R s m args below meth c H locs 0 0 (MQ below (va_Qi Post (xB D cy WW A) A) args s 0 0 A) (F0 m pc ls [.int v]) :=
  W.zret E.1 E.2.1 E.2.2.2.2.2.2.2.1 hn (fun t ht hW => ⟨⟨v, σ, rfl, hw, by rw [ht]; exact h.1, va_K.moved hW.alike E.2.2.2.2.2.2.1, h.2.1⟩, h.2.2.1.F ht⟩) h.2.2.1.2.2 hdg (hlocks := E.2.2.2.2.2.2.2.2)
theorem x_lret {Post : Int64 → S → Prop} {v : Int64} (E : xE cc own nL (some .long) D cy p s m args meth c) (h : xH D A s (WW σ) H locs) (hw : Post v σ) (hdg : decode cc pc = .ok (.lreturn, 1)) :
    W p l e R s m args below meth c H locs 0 0 (MQ below (va_Ql Post (xB D cy WW A) A) args s 0 0 A) (F0 m pc ls [.long v]) :=
  W.lret E.1 E.2.1 E.2.2.2.2.2.2.2.1 (fun t ht hW => ⟨⟨v, σ, rfl, hw, by rw [ht]; exact h.1, va_K.moved hW.alike E.2.2.2.2.2.2.1, h.2.1⟩, h.2.2.1.F ht⟩) h.2.2.1.2.2 hdg (hlocks := E.2.2.2.2.2.2.2.2)
theorem x_vret {Post : S → Prop} (E : xE cc own nL none D cy p s m args meth c) (h : xH D A s (WW σ) H locs) (hw : Post σ) (hdg : decode cc pc = .ok (.return_, 1)) :
    W p l e R s m args below meth c H locs 0 0 (MQ below (va_Qv Post (xB D cy WW A) A) args s 0 0 A) (F0 m pc ls []) :=
  W.vret E.1 E.2.1 E.2.2.2.2.2.2.2.1 (fun t ht hW => ⟨⟨σ, rfl, hw, by rw [ht]; exact h.1, va_K.moved hW.alike E.2.2.2.2.2.2.1, h.2.1⟩, h.2.2.1.F ht⟩) h.2.2.1.2.2 hdg (hlocks := E.2.2.2.2.2.2.2.2)
/-- entry -/
theorem x_enter {av : List Value} {sz : Nat} (hy : plainName y.cls = true) (ho : y.cls = own) (hn : (lg_sl av).length ≤ maxL)
    (body : ∀ (p : Program) (e : Env) (s : State) (m : MethodId) (below : List Frame) (meth : Method) (c : Code) (ls : Array Slot), xE bytes own maxL ret D cy p s m av.toArray meth c → xH D (va_A (WW σ) sz) s (WW σ) s.heap [] → lv_has ls maxL (lv_args 0 av) → W p l e rm s m av.toArray below meth c s.heap [] 0 0 (MQ below Qc av.toArray s 0 0 (va_A (WW σ) sz)) (F0 m 0 ls [])) :
    Met l y (Cond.code y bytes maxL ret :: wsA) rm (xPc D cy (WW σ) sz av) Qc 0 0 (va_A (WW σ) sz) := by
  refine Met.ofW (cc := bytes) (maxL := maxL) (ret := ret) hy rfl ?_
  intro p e s m args below meth c s₁ B hml hv
  obtain ⟨rfl, hsz, hN, hP, hK, hD0⟩ := hv
  have hts := atoms_spec (ws := Cond.code y bytes maxL ret :: wsA) B.pre
  have hown : s.vm.findClass own = some m.cls := ho ▸ findClass_of_methodNamed B.named
  subst hsz
  rw [lg_entry_eq]
  exact body p e s m below meth c _ ⟨B.exec, B.bytes, hml, hown, fun w h => hts w (List.mem_cons_of_mem _ h), hN, hK, B.returns, B.notSynchronized⟩ ⟨hP, hD0.self, va_S.rf, fun q h => Or.inr h⟩ (lv_entry av hn)
end XCalls
end
