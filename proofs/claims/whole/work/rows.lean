section
-- ===== PART A: goes FIRST, ahead of the names: the tables' words, and 'selects' of the private methods out of them =====
/-- a private method of a class that the tables say can be made, by its rows of tables_1 -/
def lw_okq (q : MethodName × Nat) : Prop := (q.1.cls ≠ "java/lang/invoke/MethodHandle" ∧ q.1.cls ≠ "java/lang/invoke/VarHandle") ∧ Cond.instantiable q.1.cls q.2 ∈ tables_1 ∧ Cond.privateMethod q.1 ∈ tables_1 ∧ Cond.instanceMethod q.1 ∈ tables_1
theorem lw_p0 : lw_okq (⟨"TownBagpipes", "textOf", "(I)LTownBagpipes$Text;"⟩, 16) := ⟨⟨by decide +kernel, by decide +kernel⟩, List.mem_of_getElem? (i := 13) (by decide +kernel), List.mem_of_getElem? (i := 263) (by decide +kernel), List.mem_of_getElem? (i := 264) (by decide +kernel)⟩
theorem lw_p1 : lw_okq (⟨"TownBagpipes$Text", "isFull", "()Z"⟩, 4) := ⟨⟨by decide +kernel, by decide +kernel⟩, List.mem_of_getElem? (i := 21) (by decide +kernel), List.mem_of_getElem? (i := 267) (by decide +kernel), List.mem_of_getElem? (i := 268) (by decide +kernel)⟩
theorem lw_p2 : lw_okq (⟨"TownBagpipes$Text", "add", "(I)V"⟩, 4) := ⟨⟨by decide +kernel, by decide +kernel⟩, List.mem_of_getElem? (i := 21) (by decide +kernel), List.mem_of_getElem? (i := 271) (by decide +kernel), List.mem_of_getElem? (i := 272) (by decide +kernel)⟩
theorem lw_p3 : lw_okq (⟨"TownBagpipes", "readTexts", "()V"⟩, 16) := ⟨⟨by decide +kernel, by decide +kernel⟩, List.mem_of_getElem? (i := 13) (by decide +kernel), List.mem_of_getElem? (i := 276) (by decide +kernel), List.mem_of_getElem? (i := 277) (by decide +kernel)⟩
theorem lw_p4 : lw_okq (⟨"TownBagpipes$Street", "readFrom", "(LTownBagpipes$Text;)I"⟩, 7) := ⟨⟨by decide +kernel, by decide +kernel⟩, List.mem_of_getElem? (i := 56) (by decide +kernel), List.mem_of_getElem? (i := 280) (by decide +kernel), List.mem_of_getElem? (i := 281) (by decide +kernel)⟩
theorem lw_p5 : lw_okq (⟨"TownBagpipes$Street", "takes", "(III)Z"⟩, 7) := ⟨⟨by decide +kernel, by decide +kernel⟩, List.mem_of_getElem? (i := 56) (by decide +kernel), List.mem_of_getElem? (i := 284) (by decide +kernel), List.mem_of_getElem? (i := 285) (by decide +kernel)⟩
theorem lw_p6 : lw_okq (⟨"TownBagpipes$Street", "takesLetter", "(III)Z"⟩, 7) := ⟨⟨by decide +kernel, by decide +kernel⟩, List.mem_of_getElem? (i := 56) (by decide +kernel), List.mem_of_getElem? (i := 289) (by decide +kernel), List.mem_of_getElem? (i := 290) (by decide +kernel)⟩
theorem lw_p7 : lw_okq (⟨"TownBagpipes$Street", "goRound", "()V"⟩, 7) := ⟨⟨by decide +kernel, by decide +kernel⟩, List.mem_of_getElem? (i := 56) (by decide +kernel), List.mem_of_getElem? (i := 294) (by decide +kernel), List.mem_of_getElem? (i := 295) (by decide +kernel)⟩
theorem lw_p8 : lw_okq (⟨"TownBagpipes$Town", "readElbows", "(LTownBagpipes$Text;)I"⟩, 16) := ⟨⟨by decide +kernel, by decide +kernel⟩, List.mem_of_getElem? (i := 50) (by decide +kernel), List.mem_of_getElem? (i := 301) (by decide +kernel), List.mem_of_getElem? (i := 302) (by decide +kernel)⟩
theorem lw_p9 : lw_okq (⟨"TownBagpipes", "changed", "()V"⟩, 16) := ⟨⟨by decide +kernel, by decide +kernel⟩, List.mem_of_getElem? (i := 13) (by decide +kernel), List.mem_of_getElem? (i := 307) (by decide +kernel), List.mem_of_getElem? (i := 308) (by decide +kernel)⟩
theorem lw_p10 : lw_okq (⟨"TownBagpipes", "isHouse", "(I)Z"⟩, 16) := ⟨⟨by decide +kernel, by decide +kernel⟩, List.mem_of_getElem? (i := 13) (by decide +kernel), List.mem_of_getElem? (i := 327) (by decide +kernel), List.mem_of_getElem? (i := 328) (by decide +kernel)⟩
theorem lw_p11 : lw_okq (⟨"TownBagpipes$Street", "letter", "(II)I"⟩, 7) := ⟨⟨by decide +kernel, by decide +kernel⟩, List.mem_of_getElem? (i := 56) (by decide +kernel), List.mem_of_getElem? (i := 331) (by decide +kernel), List.mem_of_getElem? (i := 332) (by decide +kernel)⟩
theorem lw_p12 : lw_okq (⟨"TownBagpipes$Town", "addLeak", "(III)V"⟩, 16) := ⟨⟨by decide +kernel, by decide +kernel⟩, List.mem_of_getElem? (i := 50) (by decide +kernel), List.mem_of_getElem? (i := 350) (by decide +kernel), List.mem_of_getElem? (i := 351) (by decide +kernel)⟩
theorem lw_p13 : lw_okq (⟨"TownBagpipes$Town", "addPinch", "(II)V"⟩, 16) := ⟨⟨by decide +kernel, by decide +kernel⟩, List.mem_of_getElem? (i := 50) (by decide +kernel), List.mem_of_getElem? (i := 361) (by decide +kernel), List.mem_of_getElem? (i := 362) (by decide +kernel)⟩
theorem lw_p14 : lw_okq (⟨"TownBagpipes$Sheets", "isLost", "(I)Z"⟩, 3) := ⟨⟨by decide +kernel, by decide +kernel⟩, List.mem_of_getElem? (i := 189) (by decide +kernel), List.mem_of_getElem? (i := 376) (by decide +kernel), List.mem_of_getElem? (i := 377) (by decide +kernel)⟩
theorem lw_p15 : lw_okq (⟨"TownBagpipes", "found", "(I)I"⟩, 16) := ⟨⟨by decide +kernel, by decide +kernel⟩, List.mem_of_getElem? (i := 13) (by decide +kernel), List.mem_of_getElem? (i := 380) (by decide +kernel), List.mem_of_getElem? (i := 381) (by decide +kernel)⟩
def lw_privs_1 : List (MethodName × Nat) := [(⟨"TownBagpipes", "textOf", "(I)LTownBagpipes$Text;"⟩, 16), (⟨"TownBagpipes$Text", "isFull", "()Z"⟩, 4), (⟨"TownBagpipes$Text", "add", "(I)V"⟩, 4), (⟨"TownBagpipes", "readTexts", "()V"⟩, 16), (⟨"TownBagpipes$Street", "readFrom", "(LTownBagpipes$Text;)I"⟩, 7), (⟨"TownBagpipes$Street", "takes", "(III)Z"⟩, 7), (⟨"TownBagpipes$Street", "takesLetter", "(III)Z"⟩, 7), (⟨"TownBagpipes$Street", "goRound", "()V"⟩, 7), (⟨"TownBagpipes$Town", "readElbows", "(LTownBagpipes$Text;)I"⟩, 16), (⟨"TownBagpipes", "changed", "()V"⟩, 16), (⟨"TownBagpipes", "isHouse", "(I)Z"⟩, 16), (⟨"TownBagpipes$Street", "letter", "(II)I"⟩, 7), (⟨"TownBagpipes$Town", "addLeak", "(III)V"⟩, 16), (⟨"TownBagpipes$Town", "addPinch", "(II)V"⟩, 16), (⟨"TownBagpipes$Sheets", "isLost", "(I)Z"⟩, 3), (⟨"TownBagpipes", "found", "(I)I"⟩, 16)]
theorem lw_r1 : ∀ q ∈ lw_privs_1, lw_okq q := List.forall_mem_cons.mpr ⟨lw_p0, List.forall_mem_cons.mpr ⟨lw_p1, List.forall_mem_cons.mpr ⟨lw_p2, List.forall_mem_cons.mpr ⟨lw_p3, List.forall_mem_cons.mpr ⟨lw_p4, List.forall_mem_cons.mpr ⟨lw_p5, List.forall_mem_cons.mpr ⟨lw_p6, List.forall_mem_cons.mpr ⟨lw_p7, List.forall_mem_cons.mpr ⟨lw_p8, List.forall_mem_cons.mpr ⟨lw_p9, List.forall_mem_cons.mpr ⟨lw_p10, List.forall_mem_cons.mpr ⟨lw_p11, List.forall_mem_cons.mpr ⟨lw_p12, List.forall_mem_cons.mpr ⟨lw_p13, List.forall_mem_cons.mpr ⟨lw_p14, List.forall_mem_cons.mpr ⟨lw_p15, fun _ h => absurd h List.not_mem_nil⟩⟩⟩⟩⟩⟩⟩⟩⟩⟩⟩⟩⟩⟩⟩⟩
theorem lw_p16 : lw_okq (⟨"TownBagpipes$Sheets", "item", "(II)I"⟩, 3) := ⟨⟨by decide +kernel, by decide +kernel⟩, List.mem_of_getElem? (i := 189) (by decide +kernel), List.mem_of_getElem? (i := 384) (by decide +kernel), List.mem_of_getElem? (i := 385) (by decide +kernel)⟩
theorem lw_p17 : lw_okq (⟨"TownBagpipes$Sheets", "has", "(III)Z"⟩, 3) := ⟨⟨by decide +kernel, by decide +kernel⟩, List.mem_of_getElem? (i := 189) (by decide +kernel), List.mem_of_getElem? (i := 388) (by decide +kernel), List.mem_of_getElem? (i := 389) (by decide +kernel)⟩
theorem lw_p18 : lw_okq (⟨"TownBagpipes", "toldCourse", "()LTownBagpipes$Course;"⟩, 16) := ⟨⟨by decide +kernel, by decide +kernel⟩, List.mem_of_getElem? (i := 13) (by decide +kernel), List.mem_of_getElem? (i := 396) (by decide +kernel), List.mem_of_getElem? (i := 397) (by decide +kernel)⟩
theorem lw_p19 : lw_okq (⟨"TownBagpipes$Course", "follow", "(LTownBagpipes$Town;)V"⟩, 6) := ⟨⟨by decide +kernel, by decide +kernel⟩, List.mem_of_getElem? (i := 160) (by decide +kernel), List.mem_of_getElem? (i := 400) (by decide +kernel), List.mem_of_getElem? (i := 401) (by decide +kernel)⟩
theorem lw_p20 : lw_okq (⟨"TownBagpipes$Town", "leaking", "(I)I"⟩, 16) := ⟨⟨by decide +kernel, by decide +kernel⟩, List.mem_of_getElem? (i := 50) (by decide +kernel), List.mem_of_getElem? (i := 405) (by decide +kernel), List.mem_of_getElem? (i := 406) (by decide +kernel)⟩
theorem lw_p21 : lw_okq (⟨"TownBagpipes$Town", "openPipes", "(I[I)V"⟩, 16) := ⟨⟨by decide +kernel, by decide +kernel⟩, List.mem_of_getElem? (i := 50) (by decide +kernel), List.mem_of_getElem? (i := 409) (by decide +kernel), List.mem_of_getElem? (i := 410) (by decide +kernel)⟩
theorem lw_p22 : lw_okq (⟨"TownBagpipes$Course", "draw", "([III)I"⟩, 6) := ⟨⟨by decide +kernel, by decide +kernel⟩, List.mem_of_getElem? (i := 160) (by decide +kernel), List.mem_of_getElem? (i := 416) (by decide +kernel), List.mem_of_getElem? (i := 417) (by decide +kernel)⟩
theorem lw_p23 : lw_okq (⟨"TownBagpipes$Course", "gotBy", "(II)I"⟩, 6) := ⟨⟨by decide +kernel, by decide +kernel⟩, List.mem_of_getElem? (i := 160) (by decide +kernel), List.mem_of_getElem? (i := 424) (by decide +kernel), List.mem_of_getElem? (i := 425) (by decide +kernel)⟩
theorem lw_p24 : lw_okq (⟨"TownBagpipes$Course", "firstShort", "(I)I"⟩, 6) := ⟨⟨by decide +kernel, by decide +kernel⟩, List.mem_of_getElem? (i := 160) (by decide +kernel), List.mem_of_getElem? (i := 434) (by decide +kernel), List.mem_of_getElem? (i := 435) (by decide +kernel)⟩
theorem lw_p25 : lw_okq (⟨"TownBagpipes$Course", "shortHours", "(I)I"⟩, 6) := ⟨⟨by decide +kernel, by decide +kernel⟩, List.mem_of_getElem? (i := 160) (by decide +kernel), List.mem_of_getElem? (i := 438) (by decide +kernel), List.mem_of_getElem? (i := 439) (by decide +kernel)⟩
theorem lw_p26 : lw_okq (⟨"TownBagpipes", "bestElbow", "()I"⟩, 16) := ⟨⟨by decide +kernel, by decide +kernel⟩, List.mem_of_getElem? (i := 13) (by decide +kernel), List.mem_of_getElem? (i := 458) (by decide +kernel), List.mem_of_getElem? (i := 459) (by decide +kernel)⟩
theorem lw_p27 : lw_okq (⟨"TownBagpipes$Course", "shortsInAll", "()I"⟩, 6) := ⟨⟨by decide +kernel, by decide +kernel⟩, List.mem_of_getElem? (i := 160) (by decide +kernel), List.mem_of_getElem? (i := 463) (by decide +kernel), List.mem_of_getElem? (i := 464) (by decide +kernel)⟩
theorem lw_p28 : lw_okq (⟨"TownBagpipes", "bestShut", "(I)I"⟩, 16) := ⟨⟨by decide +kernel, by decide +kernel⟩, List.mem_of_getElem? (i := 13) (by decide +kernel), List.mem_of_getElem? (i := 481) (by decide +kernel), List.mem_of_getElem? (i := 482) (by decide +kernel)⟩
theorem lw_p29 : lw_okq (⟨"TownBagpipes", "bestPatch", "()I"⟩, 16) := ⟨⟨by decide +kernel, by decide +kernel⟩, List.mem_of_getElem? (i := 13) (by decide +kernel), List.mem_of_getElem? (i := 493) (by decide +kernel), List.mem_of_getElem? (i := 494) (by decide +kernel)⟩
theorem lw_p30 : lw_okq (⟨"TownBagpipes", "comesOut", "(LTownBagpipes$Course;)Z"⟩, 16) := ⟨⟨by decide +kernel, by decide +kernel⟩, List.mem_of_getElem? (i := 13) (by decide +kernel), List.mem_of_getElem? (i := 509) (by decide +kernel), List.mem_of_getElem? (i := 510) (by decide +kernel)⟩
theorem lw_p31 : lw_okq (⟨"TownBagpipes", "tryWide", "(II)V"⟩, 16) := ⟨⟨by decide +kernel, by decide +kernel⟩, List.mem_of_getElem? (i := 13) (by decide +kernel), List.mem_of_getElem? (i := 517) (by decide +kernel), List.mem_of_getElem? (i := 518) (by decide +kernel)⟩
def lw_privs_2 : List (MethodName × Nat) := [(⟨"TownBagpipes$Sheets", "item", "(II)I"⟩, 3), (⟨"TownBagpipes$Sheets", "has", "(III)Z"⟩, 3), (⟨"TownBagpipes", "toldCourse", "()LTownBagpipes$Course;"⟩, 16), (⟨"TownBagpipes$Course", "follow", "(LTownBagpipes$Town;)V"⟩, 6), (⟨"TownBagpipes$Town", "leaking", "(I)I"⟩, 16), (⟨"TownBagpipes$Town", "openPipes", "(I[I)V"⟩, 16), (⟨"TownBagpipes$Course", "draw", "([III)I"⟩, 6), (⟨"TownBagpipes$Course", "gotBy", "(II)I"⟩, 6), (⟨"TownBagpipes$Course", "firstShort", "(I)I"⟩, 6), (⟨"TownBagpipes$Course", "shortHours", "(I)I"⟩, 6), (⟨"TownBagpipes", "bestElbow", "()I"⟩, 16), (⟨"TownBagpipes$Course", "shortsInAll", "()I"⟩, 6), (⟨"TownBagpipes", "bestShut", "(I)I"⟩, 16), (⟨"TownBagpipes", "bestPatch", "()I"⟩, 16), (⟨"TownBagpipes", "comesOut", "(LTownBagpipes$Course;)Z"⟩, 16), (⟨"TownBagpipes", "tryWide", "(II)V"⟩, 16)]
theorem lw_r2 : ∀ q ∈ lw_privs_2, lw_okq q := List.forall_mem_cons.mpr ⟨lw_p16, List.forall_mem_cons.mpr ⟨lw_p17, List.forall_mem_cons.mpr ⟨lw_p18, List.forall_mem_cons.mpr ⟨lw_p19, List.forall_mem_cons.mpr ⟨lw_p20, List.forall_mem_cons.mpr ⟨lw_p21, List.forall_mem_cons.mpr ⟨lw_p22, List.forall_mem_cons.mpr ⟨lw_p23, List.forall_mem_cons.mpr ⟨lw_p24, List.forall_mem_cons.mpr ⟨lw_p25, List.forall_mem_cons.mpr ⟨lw_p26, List.forall_mem_cons.mpr ⟨lw_p27, List.forall_mem_cons.mpr ⟨lw_p28, List.forall_mem_cons.mpr ⟨lw_p29, List.forall_mem_cons.mpr ⟨lw_p30, List.forall_mem_cons.mpr ⟨lw_p31, fun _ h => absurd h List.not_mem_nil⟩⟩⟩⟩⟩⟩⟩⟩⟩⟩⟩⟩⟩⟩⟩⟩
theorem lw_p32 : lw_okq (⟨"TownBagpipes", "possibleStarts", "()J"⟩, 16) := ⟨⟨by decide +kernel, by decide +kernel⟩, List.mem_of_getElem? (i := 13) (by decide +kernel), List.mem_of_getElem? (i := 525) (by decide +kernel), List.mem_of_getElem? (i := 526) (by decide +kernel)⟩
theorem lw_p33 : lw_okq (⟨"TownBagpipes", "tallyWidths", "(I)V"⟩, 16) := ⟨⟨by decide +kernel, by decide +kernel⟩, List.mem_of_getElem? (i := 13) (by decide +kernel), List.mem_of_getElem? (i := 555) (by decide +kernel), List.mem_of_getElem? (i := 556) (by decide +kernel)⟩
theorem lw_p34 : lw_okq (⟨"TownBagpipes", "tallyHours", "(I)V"⟩, 16) := ⟨⟨by decide +kernel, by decide +kernel⟩, List.mem_of_getElem? (i := 13) (by decide +kernel), List.mem_of_getElem? (i := 559) (by decide +kernel), List.mem_of_getElem? (i := 560) (by decide +kernel)⟩
theorem lw_p35 : lw_okq (⟨"TownBagpipes", "greatestAlike", "(I)I"⟩, 16) := ⟨⟨by decide +kernel, by decide +kernel⟩, List.mem_of_getElem? (i := 13) (by decide +kernel), List.mem_of_getElem? (i := 563) (by decide +kernel), List.mem_of_getElem? (i := 564) (by decide +kernel)⟩
theorem lw_p36 : lw_okq (⟨"TownBagpipes", "chanceOfNeverShort", "(II)J"⟩, 16) := ⟨⟨by decide +kernel, by decide +kernel⟩, List.mem_of_getElem? (i := 13) (by decide +kernel), List.mem_of_getElem? (i := 573) (by decide +kernel), List.mem_of_getElem? (i := 574) (by decide +kernel)⟩
theorem lw_p37 : lw_okq (⟨"TownBagpipes", "tryEachChoiceOfLeaks", "()V"⟩, 16) := ⟨⟨by decide +kernel, by decide +kernel⟩, List.mem_of_getElem? (i := 13) (by decide +kernel), List.mem_of_getElem? (i := 577) (by decide +kernel), List.mem_of_getElem? (i := 578) (by decide +kernel)⟩
theorem lw_p38 : lw_okq (⟨"TownBagpipes$Course", "everShort", "()I"⟩, 6) := ⟨⟨by decide +kernel, by decide +kernel⟩, List.mem_of_getElem? (i := 160) (by decide +kernel), List.mem_of_getElem? (i := 581) (by decide +kernel), List.mem_of_getElem? (i := 582) (by decide +kernel)⟩
theorem lw_p39 : lw_okq (⟨"TownBagpipes", "weightOf", "(II)J"⟩, 16) := ⟨⟨by decide +kernel, by decide +kernel⟩, List.mem_of_getElem? (i := 13) (by decide +kernel), List.mem_of_getElem? (i := 585) (by decide +kernel), List.mem_of_getElem? (i := 586) (by decide +kernel)⟩
theorem lw_p40 : lw_okq (⟨"TownBagpipes", "drawLots", "(II)V"⟩, 16) := ⟨⟨by decide +kernel, by decide +kernel⟩, List.mem_of_getElem? (i := 13) (by decide +kernel), List.mem_of_getElem? (i := 593) (by decide +kernel), List.mem_of_getElem? (i := 594) (by decide +kernel)⟩
theorem lw_p41 : lw_okq (⟨"TownBagpipes$Sheets", "renew", "(III)V"⟩, 3) := ⟨⟨by decide +kernel, by decide +kernel⟩, List.mem_of_getElem? (i := 189) (by decide +kernel), List.mem_of_getElem? (i := 605) (by decide +kernel), List.mem_of_getElem? (i := 606) (by decide +kernel)⟩
theorem lw_p42 : lw_okq (⟨"TownBagpipes$Sheets", "drop", "(I)V"⟩, 3) := ⟨⟨by decide +kernel, by decide +kernel⟩, List.mem_of_getElem? (i := 189) (by decide +kernel), List.mem_of_getElem? (i := 613) (by decide +kernel), List.mem_of_getElem? (i := 614) (by decide +kernel)⟩
theorem lw_p43 : lw_okq (⟨"TownBagpipes", "refusalOfItem", "(III)I"⟩, 16) := ⟨⟨by decide +kernel, by decide +kernel⟩, List.mem_of_getElem? (i := 13) (by decide +kernel), List.mem_of_getElem? (i := 621) (by decide +kernel), List.mem_of_getElem? (i := 622) (by decide +kernel)⟩
theorem lw_p44 : lw_okq (⟨"TownBagpipes$Sheets", "store", "(III)V"⟩, 3) := ⟨⟨by decide +kernel, by decide +kernel⟩, List.mem_of_getElem? (i := 189) (by decide +kernel), List.mem_of_getElem? (i := 626) (by decide +kernel), List.mem_of_getElem? (i := 627) (by decide +kernel)⟩
theorem lw_p45 : lw_okq (⟨"TownBagpipes$Sheets", "move", "(IIIII)V"⟩, 3) := ⟨⟨by decide +kernel, by decide +kernel⟩, List.mem_of_getElem? (i := 189) (by decide +kernel), List.mem_of_getElem? (i := 639) (by decide +kernel), List.mem_of_getElem? (i := 640) (by decide +kernel)⟩
theorem lw_p46 : lw_okq (⟨"TownBagpipes", "digestHour", "(JI)J"⟩, 16) := ⟨⟨by decide +kernel, by decide +kernel⟩, List.mem_of_getElem? (i := 13) (by decide +kernel), List.mem_of_getElem? (i := 662) (by decide +kernel), List.mem_of_getElem? (i := 663) (by decide +kernel)⟩
theorem lw_p47 : lw_okq (⟨"TownBagpipes", "digestHouse", "(JI)J"⟩, 16) := ⟨⟨by decide +kernel, by decide +kernel⟩, List.mem_of_getElem? (i := 13) (by decide +kernel), List.mem_of_getElem? (i := 668) (by decide +kernel), List.mem_of_getElem? (i := 669) (by decide +kernel)⟩
def lw_privs_3 : List (MethodName × Nat) := [(⟨"TownBagpipes", "possibleStarts", "()J"⟩, 16), (⟨"TownBagpipes", "tallyWidths", "(I)V"⟩, 16), (⟨"TownBagpipes", "tallyHours", "(I)V"⟩, 16), (⟨"TownBagpipes", "greatestAlike", "(I)I"⟩, 16), (⟨"TownBagpipes", "chanceOfNeverShort", "(II)J"⟩, 16), (⟨"TownBagpipes", "tryEachChoiceOfLeaks", "()V"⟩, 16), (⟨"TownBagpipes$Course", "everShort", "()I"⟩, 6), (⟨"TownBagpipes", "weightOf", "(II)J"⟩, 16), (⟨"TownBagpipes", "drawLots", "(II)V"⟩, 16), (⟨"TownBagpipes$Sheets", "renew", "(III)V"⟩, 3), (⟨"TownBagpipes$Sheets", "drop", "(I)V"⟩, 3), (⟨"TownBagpipes", "refusalOfItem", "(III)I"⟩, 16), (⟨"TownBagpipes$Sheets", "store", "(III)V"⟩, 3), (⟨"TownBagpipes$Sheets", "move", "(IIIII)V"⟩, 3), (⟨"TownBagpipes", "digestHour", "(JI)J"⟩, 16), (⟨"TownBagpipes", "digestHouse", "(JI)J"⟩, 16)]
theorem lw_r3 : ∀ q ∈ lw_privs_3, lw_okq q := List.forall_mem_cons.mpr ⟨lw_p32, List.forall_mem_cons.mpr ⟨lw_p33, List.forall_mem_cons.mpr ⟨lw_p34, List.forall_mem_cons.mpr ⟨lw_p35, List.forall_mem_cons.mpr ⟨lw_p36, List.forall_mem_cons.mpr ⟨lw_p37, List.forall_mem_cons.mpr ⟨lw_p38, List.forall_mem_cons.mpr ⟨lw_p39, List.forall_mem_cons.mpr ⟨lw_p40, List.forall_mem_cons.mpr ⟨lw_p41, List.forall_mem_cons.mpr ⟨lw_p42, List.forall_mem_cons.mpr ⟨lw_p43, List.forall_mem_cons.mpr ⟨lw_p44, List.forall_mem_cons.mpr ⟨lw_p45, List.forall_mem_cons.mpr ⟨lw_p46, List.forall_mem_cons.mpr ⟨lw_p47, fun _ h => absurd h List.not_mem_nil⟩⟩⟩⟩⟩⟩⟩⟩⟩⟩⟩⟩⟩⟩⟩⟩
theorem lw_p48 : lw_okq (⟨"TownBagpipes", "digestTown", "(J)J"⟩, 16) := ⟨⟨by decide +kernel, by decide +kernel⟩, List.mem_of_getElem? (i := 13) (by decide +kernel), List.mem_of_getElem? (i := 683) (by decide +kernel), List.mem_of_getElem? (i := 684) (by decide +kernel)⟩
theorem lw_p49 : lw_okq (⟨"TownBagpipesModel", "faultOf", "(I)I"⟩, 41) := ⟨⟨by decide +kernel, by decide +kernel⟩, List.mem_of_getElem? (i := 693) (by decide +kernel), List.mem_of_getElem? (i := 846) (by decide +kernel), List.mem_of_getElem? (i := 847) (by decide +kernel)⟩
theorem lw_p50 : lw_okq (⟨"TownBagpipesModel", "readsHouses", "()I"⟩, 41) := ⟨⟨by decide +kernel, by decide +kernel⟩, List.mem_of_getElem? (i := 693) (by decide +kernel), List.mem_of_getElem? (i := 850) (by decide +kernel), List.mem_of_getElem? (i := 851) (by decide +kernel)⟩
theorem lw_p51 : lw_okq (⟨"TownBagpipesModel", "readsHouse", "(II)I"⟩, 41) := ⟨⟨by decide +kernel, by decide +kernel⟩, List.mem_of_getElem? (i := 693) (by decide +kernel), List.mem_of_getElem? (i := 854) (by decide +kernel), List.mem_of_getElem? (i := 855) (by decide +kernel)⟩
theorem lw_p52 : lw_okq (⟨"TownBagpipesModel", "byteAt", "(I)I"⟩, 41) := ⟨⟨by decide +kernel, by decide +kernel⟩, List.mem_of_getElem? (i := 693) (by decide +kernel), List.mem_of_getElem? (i := 858) (by decide +kernel), List.mem_of_getElem? (i := 859) (by decide +kernel)⟩
theorem lw_p53 : lw_okq (⟨"TownBagpipesModel", "doneAt", "(I)I"⟩, 41) := ⟨⟨by decide +kernel, by decide +kernel⟩, List.mem_of_getElem? (i := 693) (by decide +kernel), List.mem_of_getElem? (i := 862) (by decide +kernel), List.mem_of_getElem? (i := 863) (by decide +kernel)⟩
theorem lw_p54 : lw_okq (⟨"TownBagpipesModel", "readsElbows", "()I"⟩, 41) := ⟨⟨by decide +kernel, by decide +kernel⟩, List.mem_of_getElem? (i := 693) (by decide +kernel), List.mem_of_getElem? (i := 866) (by decide +kernel), List.mem_of_getElem? (i := 867) (by decide +kernel)⟩
theorem lw_p55 : lw_okq (⟨"TownBagpipesModel", "isHouse", "(I)Z"⟩, 41) := ⟨⟨by decide +kernel, by decide +kernel⟩, List.mem_of_getElem? (i := 693) (by decide +kernel), List.mem_of_getElem? (i := 874) (by decide +kernel), List.mem_of_getElem? (i := 875) (by decide +kernel)⟩
theorem lw_p56 : lw_okq (⟨"TownBagpipesModel", "reads", "()V"⟩, 41) := ⟨⟨by decide +kernel, by decide +kernel⟩, List.mem_of_getElem? (i := 693) (by decide +kernel), List.mem_of_getElem? (i := 878) (by decide +kernel), List.mem_of_getElem? (i := 879) (by decide +kernel)⟩
theorem lw_p57 : lw_okq (⟨"TownBagpipesModel", "houseOf", "(II)I"⟩, 41) := ⟨⟨by decide +kernel, by decide +kernel⟩, List.mem_of_getElem? (i := 693) (by decide +kernel), List.mem_of_getElem? (i := 882) (by decide +kernel), List.mem_of_getElem? (i := 883) (by decide +kernel)⟩
theorem lw_p58 : lw_okq (⟨"TownBagpipesModel", "elbowsOf", "(I)I"⟩, 41) := ⟨⟨by decide +kernel, by decide +kernel⟩, List.mem_of_getElem? (i := 693) (by decide +kernel), List.mem_of_getElem? (i := 893) (by decide +kernel), List.mem_of_getElem? (i := 894) (by decide +kernel)⟩
theorem lw_p59 : lw_okq (⟨"TownBagpipesModel", "meets", "(I)I"⟩, 41) := ⟨⟨by decide +kernel, by decide +kernel⟩, List.mem_of_getElem? (i := 693) (by decide +kernel), List.mem_of_getElem? (i := 920) (by decide +kernel), List.mem_of_getElem? (i := 921) (by decide +kernel)⟩
theorem lw_p60 : lw_okq (⟨"TownBagpipesModel", "bagOf", "(II)I"⟩, 41) := ⟨⟨by decide +kernel, by decide +kernel⟩, List.mem_of_getElem? (i := 693) (by decide +kernel), List.mem_of_getElem? (i := 929) (by decide +kernel), List.mem_of_getElem? (i := 930) (by decide +kernel)⟩
theorem lw_p61 : lw_okq (⟨"TownBagpipesModel", "runsTold", "()V"⟩, 41) := ⟨⟨by decide +kernel, by decide +kernel⟩, List.mem_of_getElem? (i := 693) (by decide +kernel), List.mem_of_getElem? (i := 933) (by decide +kernel), List.mem_of_getElem? (i := 934) (by decide +kernel)⟩
theorem lw_p62 : lw_okq (⟨"TownBagpipesModel", "asTold", "()V"⟩, 41) := ⟨⟨by decide +kernel, by decide +kernel⟩, List.mem_of_getElem? (i := 693) (by decide +kernel), List.mem_of_getElem? (i := 937) (by decide +kernel), List.mem_of_getElem? (i := 938) (by decide +kernel)⟩
theorem lw_p63 : lw_okq (⟨"TownBagpipesModel", "runs", "()V"⟩, 41) := ⟨⟨by decide +kernel, by decide +kernel⟩, List.mem_of_getElem? (i := 693) (by decide +kernel), List.mem_of_getElem? (i := 941) (by decide +kernel), List.mem_of_getElem? (i := 942) (by decide +kernel)⟩
def lw_privs_4 : List (MethodName × Nat) := [(⟨"TownBagpipes", "digestTown", "(J)J"⟩, 16), (⟨"TownBagpipesModel", "faultOf", "(I)I"⟩, 41), (⟨"TownBagpipesModel", "readsHouses", "()I"⟩, 41), (⟨"TownBagpipesModel", "readsHouse", "(II)I"⟩, 41), (⟨"TownBagpipesModel", "byteAt", "(I)I"⟩, 41), (⟨"TownBagpipesModel", "doneAt", "(I)I"⟩, 41), (⟨"TownBagpipesModel", "readsElbows", "()I"⟩, 41), (⟨"TownBagpipesModel", "isHouse", "(I)Z"⟩, 41), (⟨"TownBagpipesModel", "reads", "()V"⟩, 41), (⟨"TownBagpipesModel", "houseOf", "(II)I"⟩, 41), (⟨"TownBagpipesModel", "elbowsOf", "(I)I"⟩, 41), (⟨"TownBagpipesModel", "meets", "(I)I"⟩, 41), (⟨"TownBagpipesModel", "bagOf", "(II)I"⟩, 41), (⟨"TownBagpipesModel", "runsTold", "()V"⟩, 41), (⟨"TownBagpipesModel", "asTold", "()V"⟩, 41), (⟨"TownBagpipesModel", "runs", "()V"⟩, 41)]
theorem lw_r4 : ∀ q ∈ lw_privs_4, lw_okq q := List.forall_mem_cons.mpr ⟨lw_p48, List.forall_mem_cons.mpr ⟨lw_p49, List.forall_mem_cons.mpr ⟨lw_p50, List.forall_mem_cons.mpr ⟨lw_p51, List.forall_mem_cons.mpr ⟨lw_p52, List.forall_mem_cons.mpr ⟨lw_p53, List.forall_mem_cons.mpr ⟨lw_p54, List.forall_mem_cons.mpr ⟨lw_p55, List.forall_mem_cons.mpr ⟨lw_p56, List.forall_mem_cons.mpr ⟨lw_p57, List.forall_mem_cons.mpr ⟨lw_p58, List.forall_mem_cons.mpr ⟨lw_p59, List.forall_mem_cons.mpr ⟨lw_p60, List.forall_mem_cons.mpr ⟨lw_p61, List.forall_mem_cons.mpr ⟨lw_p62, List.forall_mem_cons.mpr ⟨lw_p63, fun _ h => absurd h List.not_mem_nil⟩⟩⟩⟩⟩⟩⟩⟩⟩⟩⟩⟩⟩⟩⟩⟩
theorem lw_p64 : lw_okq (⟨"TownBagpipesModel", "goesBy", "(I)V"⟩, 41) := ⟨⟨by decide +kernel, by decide +kernel⟩, List.mem_of_getElem? (i := 693) (by decide +kernel), List.mem_of_getElem? (i := 945) (by decide +kernel), List.mem_of_getElem? (i := 946) (by decide +kernel)⟩
theorem lw_p65 : lw_okq (⟨"TownBagpipesModel", "leaking", "(I)I"⟩, 41) := ⟨⟨by decide +kernel, by decide +kernel⟩, List.mem_of_getElem? (i := 693) (by decide +kernel), List.mem_of_getElem? (i := 949) (by decide +kernel), List.mem_of_getElem? (i := 950) (by decide +kernel)⟩
theorem lw_p66 : lw_okq (⟨"TownBagpipesModel", "opens", "(I)V"⟩, 41) := ⟨⟨by decide +kernel, by decide +kernel⟩, List.mem_of_getElem? (i := 693) (by decide +kernel), List.mem_of_getElem? (i := 956) (by decide +kernel), List.mem_of_getElem? (i := 957) (by decide +kernel)⟩
theorem lw_p67 : lw_okq (⟨"TownBagpipesModel", "gets", "(II)I"⟩, 41) := ⟨⟨by decide +kernel, by decide +kernel⟩, List.mem_of_getElem? (i := 693) (by decide +kernel), List.mem_of_getElem? (i := 960) (by decide +kernel), List.mem_of_getElem? (i := 961) (by decide +kernel)⟩
theorem lw_p68 : lw_okq (⟨"TownBagpipesModel", "needs", "(II)I"⟩, 41) := ⟨⟨by decide +kernel, by decide +kernel⟩, List.mem_of_getElem? (i := 693) (by decide +kernel), List.mem_of_getElem? (i := 964) (by decide +kernel), List.mem_of_getElem? (i := 965) (by decide +kernel)⟩
theorem lw_p69 : lw_okq (⟨"TownBagpipesModel", "doneIn", "(II)I"⟩, 41) := ⟨⟨by decide +kernel, by decide +kernel⟩, List.mem_of_getElem? (i := 693) (by decide +kernel), List.mem_of_getElem? (i := 968) (by decide +kernel), List.mem_of_getElem? (i := 969) (by decide +kernel)⟩
theorem lw_p70 : lw_okq (⟨"TownBagpipesModel", "gotOf", "(III)I"⟩, 41) := ⟨⟨by decide +kernel, by decide +kernel⟩, List.mem_of_getElem? (i := 693) (by decide +kernel), List.mem_of_getElem? (i := 976) (by decide +kernel), List.mem_of_getElem? (i := 977) (by decide +kernel)⟩
theorem lw_p71 : lw_okq (⟨"TownBagpipesModel", "heldOf", "(II)I"⟩, 41) := ⟨⟨by decide +kernel, by decide +kernel⟩, List.mem_of_getElem? (i := 693) (by decide +kernel), List.mem_of_getElem? (i := 984) (by decide +kernel), List.mem_of_getElem? (i := 985) (by decide +kernel)⟩
theorem lw_p72 : lw_okq (⟨"TownBagpipesModel", "shortOf", "(I)I"⟩, 41) := ⟨⟨by decide +kernel, by decide +kernel⟩, List.mem_of_getElem? (i := 693) (by decide +kernel), List.mem_of_getElem? (i := 988) (by decide +kernel), List.mem_of_getElem? (i := 989) (by decide +kernel)⟩
theorem lw_p73 : lw_okq (⟨"TownBagpipesModel", "firstOf", "()I"⟩, 41) := ⟨⟨by decide +kernel, by decide +kernel⟩, List.mem_of_getElem? (i := 693) (by decide +kernel), List.mem_of_getElem? (i := 996) (by decide +kernel), List.mem_of_getElem? (i := 997) (by decide +kernel)⟩
theorem lw_p74 : lw_okq (⟨"TownBagpipesModel", "quietOf", "()I"⟩, 41) := ⟨⟨by decide +kernel, by decide +kernel⟩, List.mem_of_getElem? (i := 693) (by decide +kernel), List.mem_of_getElem? (i := 1004) (by decide +kernel), List.mem_of_getElem? (i := 1005) (by decide +kernel)⟩
theorem lw_p75 : lw_okq (⟨"TownBagpipesModel", "wellOf", "()I"⟩, 41) := ⟨⟨by decide +kernel, by decide +kernel⟩, List.mem_of_getElem? (i := 693) (by decide +kernel), List.mem_of_getElem? (i := 1012) (by decide +kernel), List.mem_of_getElem? (i := 1013) (by decide +kernel)⟩
theorem lw_p76 : lw_okq (⟨"TownBagpipesModel", "elbowOf", "(I)I"⟩, 41) := ⟨⟨by decide +kernel, by decide +kernel⟩, List.mem_of_getElem? (i := 693) (by decide +kernel), List.mem_of_getElem? (i := 1020) (by decide +kernel), List.mem_of_getElem? (i := 1021) (by decide +kernel)⟩
theorem lw_p77 : lw_okq (⟨"TownBagpipesModel", "shortAll", "()I"⟩, 41) := ⟨⟨by decide +kernel, by decide +kernel⟩, List.mem_of_getElem? (i := 693) (by decide +kernel), List.mem_of_getElem? (i := 1024) (by decide +kernel), List.mem_of_getElem? (i := 1025) (by decide +kernel)⟩
theorem lw_p78 : lw_okq (⟨"TownBagpipesModel", "shutOf", "(II)I"⟩, 41) := ⟨⟨by decide +kernel, by decide +kernel⟩, List.mem_of_getElem? (i := 693) (by decide +kernel), List.mem_of_getElem? (i := 1032) (by decide +kernel), List.mem_of_getElem? (i := 1033) (by decide +kernel)⟩
theorem lw_p79 : lw_okq (⟨"TownBagpipesModel", "leastNow", "()I"⟩, 41) := ⟨⟨by decide +kernel, by decide +kernel⟩, List.mem_of_getElem? (i := 693) (by decide +kernel), List.mem_of_getElem? (i := 1040) (by decide +kernel), List.mem_of_getElem? (i := 1041) (by decide +kernel)⟩
def lw_privs_5 : List (MethodName × Nat) := [(⟨"TownBagpipesModel", "goesBy", "(I)V"⟩, 41), (⟨"TownBagpipesModel", "leaking", "(I)I"⟩, 41), (⟨"TownBagpipesModel", "opens", "(I)V"⟩, 41), (⟨"TownBagpipesModel", "gets", "(II)I"⟩, 41), (⟨"TownBagpipesModel", "needs", "(II)I"⟩, 41), (⟨"TownBagpipesModel", "doneIn", "(II)I"⟩, 41), (⟨"TownBagpipesModel", "gotOf", "(III)I"⟩, 41), (⟨"TownBagpipesModel", "heldOf", "(II)I"⟩, 41), (⟨"TownBagpipesModel", "shortOf", "(I)I"⟩, 41), (⟨"TownBagpipesModel", "firstOf", "()I"⟩, 41), (⟨"TownBagpipesModel", "quietOf", "()I"⟩, 41), (⟨"TownBagpipesModel", "wellOf", "()I"⟩, 41), (⟨"TownBagpipesModel", "elbowOf", "(I)I"⟩, 41), (⟨"TownBagpipesModel", "shortAll", "()I"⟩, 41), (⟨"TownBagpipesModel", "shutOf", "(II)I"⟩, 41), (⟨"TownBagpipesModel", "leastNow", "()I"⟩, 41)]
theorem lw_r5 : ∀ q ∈ lw_privs_5, lw_okq q := List.forall_mem_cons.mpr ⟨lw_p64, List.forall_mem_cons.mpr ⟨lw_p65, List.forall_mem_cons.mpr ⟨lw_p66, List.forall_mem_cons.mpr ⟨lw_p67, List.forall_mem_cons.mpr ⟨lw_p68, List.forall_mem_cons.mpr ⟨lw_p69, List.forall_mem_cons.mpr ⟨lw_p70, List.forall_mem_cons.mpr ⟨lw_p71, List.forall_mem_cons.mpr ⟨lw_p72, List.forall_mem_cons.mpr ⟨lw_p73, List.forall_mem_cons.mpr ⟨lw_p74, List.forall_mem_cons.mpr ⟨lw_p75, List.forall_mem_cons.mpr ⟨lw_p76, List.forall_mem_cons.mpr ⟨lw_p77, List.forall_mem_cons.mpr ⟨lw_p78, List.forall_mem_cons.mpr ⟨lw_p79, fun _ h => absurd h List.not_mem_nil⟩⟩⟩⟩⟩⟩⟩⟩⟩⟩⟩⟩⟩⟩⟩⟩
theorem lw_p80 : lw_okq (⟨"TownBagpipesModel", "patchOf", "(I)I"⟩, 41) := ⟨⟨by decide +kernel, by decide +kernel⟩, List.mem_of_getElem? (i := 693) (by decide +kernel), List.mem_of_getElem? (i := 1048) (by decide +kernel), List.mem_of_getElem? (i := 1049) (by decide +kernel)⟩
theorem lw_p81 : lw_okq (⟨"TownBagpipesModel", "neverNow", "()I"⟩, 41) := ⟨⟨by decide +kernel, by decide +kernel⟩, List.mem_of_getElem? (i := 693) (by decide +kernel), List.mem_of_getElem? (i := 1064) (by decide +kernel), List.mem_of_getElem? (i := 1065) (by decide +kernel)⟩
theorem lw_p82 : lw_okq (⟨"TownBagpipesModel", "isSeen", "()Z"⟩, 41) := ⟨⟨by decide +kernel, by decide +kernel⟩, List.mem_of_getElem? (i := 693) (by decide +kernel), List.mem_of_getElem? (i := 1068) (by decide +kernel), List.mem_of_getElem? (i := 1069) (by decide +kernel)⟩
theorem lw_p83 : lw_okq (⟨"TownBagpipesModel", "wasOf", "(I)I"⟩, 41) := ⟨⟨by decide +kernel, by decide +kernel⟩, List.mem_of_getElem? (i := 693) (by decide +kernel), List.mem_of_getElem? (i := 1076) (by decide +kernel), List.mem_of_getElem? (i := 1077) (by decide +kernel)⟩
theorem lw_p84 : lw_okq (⟨"TownBagpipesModel", "startsOf", "(I)I"⟩, 41) := ⟨⟨by decide +kernel, by decide +kernel⟩, List.mem_of_getElem? (i := 693) (by decide +kernel), List.mem_of_getElem? (i := 1084) (by decide +kernel), List.mem_of_getElem? (i := 1085) (by decide +kernel)⟩
theorem lw_p85 : lw_okq (⟨"TownBagpipesModel", "askOf", "(I)I"⟩, 41) := ⟨⟨by decide +kernel, by decide +kernel⟩, List.mem_of_getElem? (i := 693) (by decide +kernel), List.mem_of_getElem? (i := 1092) (by decide +kernel), List.mem_of_getElem? (i := 1093) (by decide +kernel)⟩
theorem lw_p86 : lw_okq (⟨"TownBagpipesModel", "mothOf", "(III)J"⟩, 41) := ⟨⟨by decide +kernel, by decide +kernel⟩, List.mem_of_getElem? (i := 693) (by decide +kernel), List.mem_of_getElem? (i := 1100) (by decide +kernel), List.mem_of_getElem? (i := 1101) (by decide +kernel)⟩
theorem lw_p87 : lw_okq (⟨"TownBagpipesModel", "yearOf", "(III)I"⟩, 41) := ⟨⟨by decide +kernel, by decide +kernel⟩, List.mem_of_getElem? (i := 693) (by decide +kernel), List.mem_of_getElem? (i := 1115) (by decide +kernel), List.mem_of_getElem? (i := 1116) (by decide +kernel)⟩
theorem lw_p88 : lw_okq (⟨"TownBagpipesModel", "lacks", "(III)I"⟩, 41) := ⟨⟨by decide +kernel, by decide +kernel⟩, List.mem_of_getElem? (i := 693) (by decide +kernel), List.mem_of_getElem? (i := 1132) (by decide +kernel), List.mem_of_getElem? (i := 1133) (by decide +kernel)⟩
theorem lw_p89 : lw_okq (⟨"TownBagpipesModel", "keep", "(III)V"⟩, 41) := ⟨⟨by decide +kernel, by decide +kernel⟩, List.mem_of_getElem? (i := 693) (by decide +kernel), List.mem_of_getElem? (i := 1136) (by decide +kernel), List.mem_of_getElem? (i := 1137) (by decide +kernel)⟩
theorem lw_p90 : lw_okq (⟨"TownBagpipesModel", "sumOf", "(I)I"⟩, 41) := ⟨⟨by decide +kernel, by decide +kernel⟩, List.mem_of_getElem? (i := 693) (by decide +kernel), List.mem_of_getElem? (i := 1157) (by decide +kernel), List.mem_of_getElem? (i := 1158) (by decide +kernel)⟩
theorem lw_p91 : lw_okq (⟨"TownBagpipesModel", "houseDigest", "(JI)J"⟩, 41) := ⟨⟨by decide +kernel, by decide +kernel⟩, List.mem_of_getElem? (i := 693) (by decide +kernel), List.mem_of_getElem? (i := 1168) (by decide +kernel), List.mem_of_getElem? (i := 1169) (by decide +kernel)⟩
theorem lw_p92 : lw_okq (⟨"TownBagpipesModel", "hourDigest", "(JII)J"⟩, 41) := ⟨⟨by decide +kernel, by decide +kernel⟩, List.mem_of_getElem? (i := 693) (by decide +kernel), List.mem_of_getElem? (i := 1172) (by decide +kernel), List.mem_of_getElem? (i := 1173) (by decide +kernel)⟩
def lw_privs_6 : List (MethodName × Nat) := [(⟨"TownBagpipesModel", "patchOf", "(I)I"⟩, 41), (⟨"TownBagpipesModel", "neverNow", "()I"⟩, 41), (⟨"TownBagpipesModel", "isSeen", "()Z"⟩, 41), (⟨"TownBagpipesModel", "wasOf", "(I)I"⟩, 41), (⟨"TownBagpipesModel", "startsOf", "(I)I"⟩, 41), (⟨"TownBagpipesModel", "askOf", "(I)I"⟩, 41), (⟨"TownBagpipesModel", "mothOf", "(III)J"⟩, 41), (⟨"TownBagpipesModel", "yearOf", "(III)I"⟩, 41), (⟨"TownBagpipesModel", "lacks", "(III)I"⟩, 41), (⟨"TownBagpipesModel", "keep", "(III)V"⟩, 41), (⟨"TownBagpipesModel", "sumOf", "(I)I"⟩, 41), (⟨"TownBagpipesModel", "houseDigest", "(JI)J"⟩, 41), (⟨"TownBagpipesModel", "hourDigest", "(JII)J"⟩, 41)]
theorem lw_r6 : ∀ q ∈ lw_privs_6, lw_okq q := List.forall_mem_cons.mpr ⟨lw_p80, List.forall_mem_cons.mpr ⟨lw_p81, List.forall_mem_cons.mpr ⟨lw_p82, List.forall_mem_cons.mpr ⟨lw_p83, List.forall_mem_cons.mpr ⟨lw_p84, List.forall_mem_cons.mpr ⟨lw_p85, List.forall_mem_cons.mpr ⟨lw_p86, List.forall_mem_cons.mpr ⟨lw_p87, List.forall_mem_cons.mpr ⟨lw_p88, List.forall_mem_cons.mpr ⟨lw_p89, List.forall_mem_cons.mpr ⟨lw_p90, List.forall_mem_cons.mpr ⟨lw_p91, List.forall_mem_cons.mpr ⟨lw_p92, fun _ h => absurd h List.not_mem_nil⟩⟩⟩⟩⟩⟩⟩⟩⟩⟩⟩⟩⟩
def lw_privs : List (MethodName × Nat) := lw_privs_1 ++ (lw_privs_2 ++ (lw_privs_3 ++ (lw_privs_4 ++ (lw_privs_5 ++ (lw_privs_6)))))
def lw_tbl : List Cond := k2_sels lw_privs ++ tables_1
theorem lw_privs_ok : ∀ q ∈ lw_privs, lw_okq q := by
  show ∀ q ∈ lw_privs_1 ++ (lw_privs_2 ++ (lw_privs_3 ++ (lw_privs_4 ++ (lw_privs_5 ++ (lw_privs_6))))), lw_okq q
  exact List.forall_mem_append.mpr ⟨lw_r1, List.forall_mem_append.mpr ⟨lw_r2, List.forall_mem_append.mpr ⟨lw_r3, List.forall_mem_append.mpr ⟨lw_r4, List.forall_mem_append.mpr ⟨lw_r5, lw_r6⟩⟩⟩⟩⟩
end
section
def RX0 : String := "TownBagpipes$Course"
def TX0 : u_T := fun k => match k with
  | 0 => ("TownBagpipes$Course", "air", "[I", true)
  | 1 => ("TownBagpipes$Course", "lost", "[I", true)
  | 2 => ("TownBagpipes$Course", "chord", "[I", true)
  | 3 => ("TownBagpipes$Course", "shorts", "[I", true)
  | 4 => ("TownBagpipes$Course", "gotten", "[I", true)
  | _ => ("TownBagpipes$Course", "left", "[I", true)
def tyX0 : Nat → FieldType := fun k => match k with
  | 0 => .array .int
  | 1 => .array .int
  | 2 => .array .int
  | 3 => .array .int
  | 4 => .array .int
  | _ => .array .int
abbrev wsX00 : List Cond := u_ws RX0 TX0 6
theorem nmX0 : ∀ a, a < 6 → ∀ b, b < 6 → a ≠ b → (TX0 a).2.1 ≠ (TX0 b).2.1 := by decide +kernel
theorem tyX0_ok : ∀ k, k < 6 → parseFieldDescriptor (TX0 k).2.2.1 = some (tyX0 k) := by decide +kernel
abbrev cX0_init : ByteArray := prog_2_method_1_code
def yX0_init : MethodName := ⟨RX0, "<init>", "()V"⟩
abbrev cX0_follow : ByteArray := prog_2_method_2_code
def yX0_follow : MethodName := ⟨RX0, "follow", "(LTownBagpipes$Town;)V"⟩
abbrev cX0_draw : ByteArray := prog_2_method_3_code
def yX0_draw : MethodName := ⟨RX0, "draw", "([III)I"⟩
abbrev cX0_gotBy : ByteArray := prog_2_method_4_code
def yX0_gotBy : MethodName := ⟨RX0, "gotBy", "(II)I"⟩
abbrev cX0_firstShort : ByteArray := prog_2_method_5_code
def yX0_firstShort : MethodName := ⟨RX0, "firstShort", "(I)I"⟩
abbrev cX0_shortHours : ByteArray := prog_2_method_6_code
def yX0_shortHours : MethodName := ⟨RX0, "shortHours", "(I)I"⟩
abbrev cX0_shortsInAll : ByteArray := prog_2_method_7_code
def yX0_shortsInAll : MethodName := ⟨RX0, "shortsInAll", "()I"⟩
abbrev cX0_everShort : ByteArray := prog_2_method_8_code
def yX0_everShort : MethodName := ⟨RX0, "everShort", "()I"⟩
def RX1 : String := "TownBagpipes$Sheets"
def TX1 : u_T := fun k => match k with
  | 0 => ("TownBagpipes$Sheets", "form", "[I", true)
  | 1 => ("TownBagpipes$Sheets", "size", "[I", true)
  | _ => ("TownBagpipes$Sheets", "items", "[I", true)
def tyX1 : Nat → FieldType := fun k => match k with
  | 0 => .array .int
  | 1 => .array .int
  | _ => .array .int
abbrev wsX10 : List Cond := u_ws RX1 TX1 3
theorem nmX1 : ∀ a, a < 3 → ∀ b, b < 3 → a ≠ b → (TX1 a).2.1 ≠ (TX1 b).2.1 := by decide +kernel
theorem tyX1_ok : ∀ k, k < 3 → parseFieldDescriptor (TX1 k).2.2.1 = some (tyX1 k) := by decide +kernel
abbrev cX1_init : ByteArray := prog_3_method_1_code
def yX1_init : MethodName := ⟨RX1, "<init>", "()V"⟩
abbrev cX1_isLost : ByteArray := prog_3_method_2_code
def yX1_isLost : MethodName := ⟨RX1, "isLost", "(I)Z"⟩
abbrev cX1_renew : ByteArray := prog_3_method_3_code
def yX1_renew : MethodName := ⟨RX1, "renew", "(III)V"⟩
abbrev cX1_drop : ByteArray := prog_3_method_4_code
def yX1_drop : MethodName := ⟨RX1, "drop", "(I)V"⟩
abbrev cX1_has : ByteArray := prog_3_method_5_code
def yX1_has : MethodName := ⟨RX1, "has", "(III)Z"⟩
abbrev cX1_item : ByteArray := prog_3_method_6_code
def yX1_item : MethodName := ⟨RX1, "item", "(II)I"⟩
abbrev cX1_store : ByteArray := prog_3_method_7_code
def yX1_store : MethodName := ⟨RX1, "store", "(III)V"⟩
abbrev cX1_move : ByteArray := prog_3_method_8_code
def yX1_move : MethodName := ⟨RX1, "move", "(IIIII)V"⟩
def RX2 : String := "TownBagpipes$Street"
def TX2 : u_T := fun k => match k with
  | 0 => ("TownBagpipes$Street", "on", "[I", true)
  | 1 => ("TownBagpipes$Street", "note", "[I", true)
  | 2 => ("TownBagpipes$Street", "wide", "[I", true)
  | 3 => ("TownBagpipes$Street", "letters", "[I", true)
  | 4 => ("TownBagpipes$Street", "done", "[I", true)
  | 5 => ("TownBagpipes$Street", "doneIn", "[I", true)
  | _ => ("TownBagpipes$Street", "houses", "I", false)
def tyX2 : Nat → FieldType := fun k => match k with
  | 0 => .array .int
  | 1 => .array .int
  | 2 => .array .int
  | 3 => .array .int
  | 4 => .array .int
  | 5 => .array .int
  | _ => .int
abbrev wsX20 : List Cond := u_ws RX2 TX2 7
theorem nmX2 : ∀ a, a < 7 → ∀ b, b < 7 → a ≠ b → (TX2 a).2.1 ≠ (TX2 b).2.1 := by decide +kernel
theorem tyX2_ok : ∀ k, k < 7 → parseFieldDescriptor (TX2 k).2.2.1 = some (tyX2 k) := by decide +kernel
abbrev cX2_init : ByteArray := prog_4_method_1_code
def yX2_init : MethodName := ⟨RX2, "<init>", "()V"⟩
abbrev cX2_readFrom : ByteArray := prog_4_method_2_code
def yX2_readFrom : MethodName := ⟨RX2, "readFrom", "(LTownBagpipes$Text;)I"⟩
abbrev cX2_takes : ByteArray := prog_4_method_3_code
def yX2_takes : MethodName := ⟨RX2, "takes", "(III)Z"⟩
abbrev cX2_takesLetter : ByteArray := prog_4_method_4_code
def yX2_takesLetter : MethodName := ⟨RX2, "takesLetter", "(III)Z"⟩
abbrev cX2_goRound : ByteArray := prog_4_method_5_code
def yX2_goRound : MethodName := ⟨RX2, "goRound", "()V"⟩
abbrev cX2_letter : ByteArray := prog_4_method_6_code
def yX2_letter : MethodName := ⟨RX2, "letter", "(II)I"⟩
def RX3 : String := "TownBagpipes$Text"
def TX3 : u_T := fun k => match k with
  | 0 => ("TownBagpipes$Text", "bytes", "[I", true)
  | 1 => ("TownBagpipes$Text", "most", "I", true)
  | 2 => ("TownBagpipes$Text", "size", "I", false)
  | _ => ("TownBagpipes$Text", "fault", "I", false)
def tyX3 : Nat → FieldType := fun k => match k with
  | 0 => .array .int
  | 1 => .int
  | 2 => .int
  | _ => .int
abbrev wsX30 : List Cond := u_ws RX3 TX3 4
theorem nmX3 : ∀ a, a < 4 → ∀ b, b < 4 → a ≠ b → (TX3 a).2.1 ≠ (TX3 b).2.1 := by decide +kernel
theorem tyX3_ok : ∀ k, k < 4 → parseFieldDescriptor (TX3 k).2.2.1 = some (tyX3 k) := by decide +kernel
abbrev cX3_init : ByteArray := prog_5_method_1_code
def yX3_init : MethodName := ⟨RX3, "<init>", "(I)V"⟩
abbrev cX3_isFull : ByteArray := prog_5_method_2_code
def yX3_isFull : MethodName := ⟨RX3, "isFull", "()Z"⟩
abbrev cX3_add : ByteArray := prog_5_method_3_code
def yX3_add : MethodName := ⟨RX3, "add", "(I)V"⟩
def RX4 : String := "TownBagpipes$Town"
def TX4 : u_T := fun k => match k with
  | 0 => ("TownBagpipes$Town", "street", "LTownBagpipes$Street;", true)
  | 1 => ("TownBagpipes$Town", "elbows", "[I", false)
  | 2 => ("TownBagpipes$Town", "elbowsTold", "I", false)
  | 3 => ("TownBagpipes$Town", "start", "I", false)
  | 4 => ("TownBagpipes$Town", "room", "I", false)
  | 5 => ("TownBagpipes$Town", "lift", "I", false)
  | 6 => ("TownBagpipes$Town", "leakFrom", "[I", true)
  | 7 => ("TownBagpipes$Town", "leakMuch", "[I", true)
  | 8 => ("TownBagpipes$Town", "leakPatched", "[I", true)
  | 9 => ("TownBagpipes$Town", "leaks", "I", false)
  | 10 => ("TownBagpipes$Town", "leaksThere", "I", false)
  | 11 => ("TownBagpipes$Town", "pinchHour", "[I", true)
  | 12 => ("TownBagpipes$Town", "pinchHouse", "[I", true)
  | 13 => ("TownBagpipes$Town", "pinches", "I", false)
  | 14 => ("TownBagpipes$Town", "pinchesThere", "I", false)
  | _ => ("TownBagpipes$Town", "shutHouse", "I", false)
def tyX4 : Nat → FieldType := fun k => match k with
  | 0 => .object "TownBagpipes$Street"
  | 1 => .array .int
  | 2 => .int
  | 3 => .int
  | 4 => .int
  | 5 => .int
  | 6 => .array .int
  | 7 => .array .int
  | 8 => .array .int
  | 9 => .int
  | 10 => .int
  | 11 => .array .int
  | 12 => .array .int
  | 13 => .int
  | 14 => .int
  | _ => .int
abbrev wsX40 : List Cond := u_ws RX4 TX4 16
theorem nmX4 : ∀ a, a < 16 → ∀ b, b < 16 → a ≠ b → (TX4 a).2.1 ≠ (TX4 b).2.1 := by decide +kernel
theorem tyX4_ok : ∀ k, k < 16 → parseFieldDescriptor (TX4 k).2.2.1 = some (tyX4 k) := by decide +kernel
abbrev cX4_init : ByteArray := prog_6_method_1_code
def yX4_init : MethodName := ⟨RX4, "<init>", "()V"⟩
abbrev cX4_readElbows : ByteArray := prog_6_method_2_code
def yX4_readElbows : MethodName := ⟨RX4, "readElbows", "(LTownBagpipes$Text;)I"⟩
abbrev cX4_addLeak : ByteArray := prog_6_method_3_code
def yX4_addLeak : MethodName := ⟨RX4, "addLeak", "(III)V"⟩
abbrev cX4_addPinch : ByteArray := prog_6_method_4_code
def yX4_addPinch : MethodName := ⟨RX4, "addPinch", "(II)V"⟩
abbrev cX4_leaking : ByteArray := prog_6_method_5_code
def yX4_leaking : MethodName := ⟨RX4, "leaking", "(I)I"⟩
abbrev cX4_openPipes : ByteArray := prog_6_method_6_code
def yX4_openPipes : MethodName := ⟨RX4, "openPipes", "(I[I)V"⟩
def RX5 : String := "TownBagpipes"
def TX5 : u_T := fun k => match k with
  | 0 => ("TownBagpipes", "housesText", "LTownBagpipes$Text;", true)
  | 1 => ("TownBagpipes", "elbowsText", "LTownBagpipes$Text;", true)
  | 2 => ("TownBagpipes", "town", "LTownBagpipes$Town;", true)
  | 3 => ("TownBagpipes", "told", "LTownBagpipes$Course;", true)
  | 4 => ("TownBagpipes", "tried", "LTownBagpipes$Course;", true)
  | 5 => ("TownBagpipes", "toldStands", "Z", false)
  | 6 => ("TownBagpipes", "shortByLeaks", "[I", true)
  | 7 => ("TownBagpipes", "shortByLeaksStands", "Z", false)
  | 8 => ("TownBagpipes", "lots", "[I", true)
  | 9 => ("TownBagpipes", "alike", "[I", true)
  | 10 => ("TownBagpipes", "seenHour", "[I", true)
  | 11 => ("TownBagpipes", "seenHouse", "[I", true)
  | 12 => ("TownBagpipes", "seenMuch", "[I", true)
  | 13 => ("TownBagpipes", "sights", "I", false)
  | 14 => ("TownBagpipes", "sheets", "LTownBagpipes$Sheets;", true)
  | _ => ("TownBagpipes", "finding", "I", false)
def tyX5 : Nat → FieldType := fun k => match k with
  | 0 => .object "TownBagpipes$Text"
  | 1 => .object "TownBagpipes$Text"
  | 2 => .object "TownBagpipes$Town"
  | 3 => .object "TownBagpipes$Course"
  | 4 => .object "TownBagpipes$Course"
  | 5 => .boolean
  | 6 => .array .int
  | 7 => .boolean
  | 8 => .array .int
  | 9 => .array .int
  | 10 => .array .int
  | 11 => .array .int
  | 12 => .array .int
  | 13 => .int
  | 14 => .object "TownBagpipes$Sheets"
  | _ => .int
abbrev wsX50 : List Cond := u_ws RX5 TX5 16
theorem nmX5 : ∀ a, a < 16 → ∀ b, b < 16 → a ≠ b → (TX5 a).2.1 ≠ (TX5 b).2.1 := by decide +kernel
theorem tyX5_ok : ∀ k, k < 16 → parseFieldDescriptor (TX5 k).2.2.1 = some (tyX5 k) := by decide +kernel
abbrev cX5_init : ByteArray := prog_1_method_1_code
def yX5_init : MethodName := ⟨RX5, "<init>", "()V"⟩
abbrev cX5_type : ByteArray := prog_1_method_2_code
def yX5_type : MethodName := ⟨RX5, "type", "(II)I"⟩
abbrev cX5_wipe : ByteArray := prog_1_method_3_code
def yX5_wipe : MethodName := ⟨RX5, "wipe", "(I)I"⟩
abbrev cX5_undo : ByteArray := prog_1_method_4_code
def yX5_undo : MethodName := ⟨RX5, "undo", "(I)I"⟩
abbrev cX5_fault : ByteArray := prog_1_method_5_code
def yX5_fault : MethodName := ⟨RX5, "fault", "(I)I"⟩
abbrev cX5_house : ByteArray := prog_1_method_6_code
def yX5_house : MethodName := ⟨RX5, "house", "(II)I"⟩
abbrev cX5_elbows : ByteArray := prog_1_method_7_code
def yX5_elbows : MethodName := ⟨RX5, "elbows", "(I)I"⟩
abbrev cX5_set : ByteArray := prog_1_method_8_code
def yX5_set : MethodName := ⟨RX5, "set", "(II)I"⟩
abbrev cX5_leak : ByteArray := prog_1_method_9_code
def yX5_leak : MethodName := ⟨RX5, "leak", "(III)I"⟩
abbrev cX5_pinch : ByteArray := prog_1_method_10_code
def yX5_pinch : MethodName := ⟨RX5, "pinch", "(II)I"⟩
abbrev cX5_back : ByteArray := prog_1_method_11_code
def yX5_back : MethodName := ⟨RX5, "back", "(I)I"⟩
abbrev cX5_read : ByteArray := prog_1_method_12_code
def yX5_read : MethodName := ⟨RX5, "read", "(I)I"⟩
abbrev cX5_bag : ByteArray := prog_1_method_13_code
def yX5_bag : MethodName := ⟨RX5, "bag", "(II)I"⟩
abbrev cX5_got : ByteArray := prog_1_method_14_code
def yX5_got : MethodName := ⟨RX5, "got", "(III)I"⟩
abbrev cX5_held : ByteArray := prog_1_method_15_code
def yX5_held : MethodName := ⟨RX5, "held", "(II)I"⟩
abbrev cX5_first : ByteArray := prog_1_method_16_code
def yX5_first : MethodName := ⟨RX5, "first", "()I"⟩
abbrev cX5_quiet : ByteArray := prog_1_method_17_code
def yX5_quiet : MethodName := ⟨RX5, "quiet", "()I"⟩
abbrev cX5_well : ByteArray := prog_1_method_18_code
def yX5_well : MethodName := ⟨RX5, "well", "()I"⟩
abbrev cX5_elbow : ByteArray := prog_1_method_19_code
def yX5_elbow : MethodName := ⟨RX5, "elbow", "(I)I"⟩
abbrev cX5_shut : ByteArray := prog_1_method_20_code
def yX5_shut : MethodName := ⟨RX5, "shut", "(II)I"⟩
abbrev cX5_least : ByteArray := prog_1_method_21_code
def yX5_least : MethodName := ⟨RX5, "least", "()I"⟩
abbrev cX5_patch : ByteArray := prog_1_method_22_code
def yX5_patch : MethodName := ⟨RX5, "patch", "(I)I"⟩
abbrev cX5_seen : ByteArray := prog_1_method_23_code
def yX5_seen : MethodName := ⟨RX5, "seen", "(III)I"⟩
abbrev cX5_forget : ByteArray := prog_1_method_24_code
def yX5_forget : MethodName := ⟨RX5, "forget", "()I"⟩
abbrev cX5_never : ByteArray := prog_1_method_25_code
def yX5_never : MethodName := ⟨RX5, "never", "()I"⟩
abbrev cX5_was : ByteArray := prog_1_method_26_code
def yX5_was : MethodName := ⟨RX5, "was", "(I)I"⟩
abbrev cX5_starts : ByteArray := prog_1_method_27_code
def yX5_starts : MethodName := ⟨RX5, "starts", "(I)I"⟩
abbrev cX5_ask : ByteArray := prog_1_method_28_code
def yX5_ask : MethodName := ⟨RX5, "ask", "(I)I"⟩
abbrev cX5_moth : ByteArray := prog_1_method_29_code
def yX5_moth : MethodName := ⟨RX5, "moth", "(III)J"⟩
abbrev cX5_year : ByteArray := prog_1_method_30_code
def yX5_year : MethodName := ⟨RX5, "year", "(III)I"⟩
abbrev cX5_sheet : ByteArray := prog_1_method_31_code
def yX5_sheet : MethodName := ⟨RX5, "sheet", "(III)I"⟩
abbrev cX5_lose : ByteArray := prog_1_method_32_code
def yX5_lose : MethodName := ⟨RX5, "lose", "(I)I"⟩
abbrev cX5_put : ByteArray := prog_1_method_33_code
def yX5_put : MethodName := ⟨RX5, "put", "(IIII)I"⟩
abbrev cX5_get : ByteArray := prog_1_method_34_code
def yX5_get : MethodName := ⟨RX5, "get", "(III)I"⟩
abbrev cX5_copy : ByteArray := prog_1_method_35_code
def yX5_copy : MethodName := ⟨RX5, "copy", "(IIIII)I"⟩
abbrev cX5_write : ByteArray := prog_1_method_36_code
def yX5_write : MethodName := ⟨RX5, "write", "(II)I"⟩
abbrev cX5_count : ByteArray := prog_1_method_37_code
def yX5_count : MethodName := ⟨RX5, "count", "(I)I"⟩
abbrev cX5_digest : ByteArray := prog_1_method_38_code
def yX5_digest : MethodName := ⟨RX5, "digest", "()J"⟩
abbrev cX5_digestHour : ByteArray := prog_1_method_39_code
def yX5_digestHour : MethodName := ⟨RX5, "digestHour", "(JI)J"⟩
abbrev cX5_digestHouse : ByteArray := prog_1_method_40_code
def yX5_digestHouse : MethodName := ⟨RX5, "digestHouse", "(JI)J"⟩
abbrev cX5_digestTown : ByteArray := prog_1_method_41_code
def yX5_digestTown : MethodName := ⟨RX5, "digestTown", "(J)J"⟩
abbrev cX5_digestPlan : ByteArray := prog_1_method_42_code
def yX5_digestPlan : MethodName := ⟨RX5, "digestPlan", "(JI)J"⟩
abbrev cX5_within : ByteArray := prog_1_method_43_code
def yX5_within : MethodName := ⟨RX5, "within", "(III)Z"⟩
abbrev cX5_isHour : ByteArray := prog_1_method_44_code
def yX5_isHour : MethodName := ⟨RX5, "isHour", "(I)Z"⟩
abbrev cX5_isSheet : ByteArray := prog_1_method_45_code
def yX5_isSheet : MethodName := ⟨RX5, "isSheet", "(I)Z"⟩
abbrev cX5_isForm : ByteArray := prog_1_method_46_code
def yX5_isForm : MethodName := ⟨RX5, "isForm", "(I)Z"⟩
abbrev cX5_mayPinch : ByteArray := prog_1_method_47_code
def yX5_mayPinch : MethodName := ⟨RX5, "mayPinch", "(II)Z"⟩
abbrev cX5_isHouse : ByteArray := prog_1_method_48_code
def yX5_isHouse : MethodName := ⟨RX5, "isHouse", "(I)Z"⟩
abbrev cX5_needOf : ByteArray := prog_1_method_49_code
def yX5_needOf : MethodName := ⟨RX5, "needOf", "(I)I"⟩
abbrev cX5_found : ByteArray := prog_1_method_50_code
def yX5_found : MethodName := ⟨RX5, "found", "(I)I"⟩
abbrev cX5_refusalOfItem : ByteArray := prog_1_method_51_code
def yX5_refusalOfItem : MethodName := ⟨RX5, "refusalOfItem", "(III)I"⟩
abbrev cX5_textOf : ByteArray := prog_1_method_52_code
def yX5_textOf : MethodName := ⟨RX5, "textOf", "(I)LTownBagpipes$Text;"⟩
abbrev cX5_readTexts : ByteArray := prog_1_method_53_code
def yX5_readTexts : MethodName := ⟨RX5, "readTexts", "()V"⟩
abbrev cX5_changed : ByteArray := prog_1_method_54_code
def yX5_changed : MethodName := ⟨RX5, "changed", "()V"⟩
abbrev cX5_toldCourse : ByteArray := prog_1_method_55_code
def yX5_toldCourse : MethodName := ⟨RX5, "toldCourse", "()LTownBagpipes$Course;"⟩
abbrev cX5_partOf : ByteArray := prog_1_method_56_code
def yX5_partOf : MethodName := ⟨RX5, "partOf", "(II)I"⟩
abbrev cX5_bestElbow : ByteArray := prog_1_method_57_code
def yX5_bestElbow : MethodName := ⟨RX5, "bestElbow", "()I"⟩
abbrev cX5_bestShut : ByteArray := prog_1_method_58_code
def yX5_bestShut : MethodName := ⟨RX5, "bestShut", "(I)I"⟩
abbrev cX5_bestPatch : ByteArray := prog_1_method_59_code
def yX5_bestPatch : MethodName := ⟨RX5, "bestPatch", "()I"⟩
abbrev cX5_tryWide : ByteArray := prog_1_method_60_code
def yX5_tryWide : MethodName := ⟨RX5, "tryWide", "(II)V"⟩
abbrev cX5_comesOut : ByteArray := prog_1_method_61_code
def yX5_comesOut : MethodName := ⟨RX5, "comesOut", "(LTownBagpipes$Course;)Z"⟩
abbrev cX5_possibleStarts : ByteArray := prog_1_method_62_code
def yX5_possibleStarts : MethodName := ⟨RX5, "possibleStarts", "()J"⟩
abbrev cX5_startsPart : ByteArray := prog_1_method_63_code
def yX5_startsPart : MethodName := ⟨RX5, "startsPart", "(JI)I"⟩
abbrev cX5_tallyWidths : ByteArray := prog_1_method_64_code
def yX5_tallyWidths : MethodName := ⟨RX5, "tallyWidths", "(I)V"⟩
abbrev cX5_tallyHours : ByteArray := prog_1_method_65_code
def yX5_tallyHours : MethodName := ⟨RX5, "tallyHours", "(I)V"⟩
abbrev cX5_greatestAlike : ByteArray := prog_1_method_66_code
def yX5_greatestAlike : MethodName := ⟨RX5, "greatestAlike", "(I)I"⟩
abbrev cX5_tryEachChoiceOfLeaks : ByteArray := prog_1_method_67_code
def yX5_tryEachChoiceOfLeaks : MethodName := ⟨RX5, "tryEachChoiceOfLeaks", "()V"⟩
abbrev cX5_chanceOfNeverShort : ByteArray := prog_1_method_68_code
def yX5_chanceOfNeverShort : MethodName := ⟨RX5, "chanceOfNeverShort", "(II)J"⟩
abbrev cX5_weightOf : ByteArray := prog_1_method_69_code
def yX5_weightOf : MethodName := ⟨RX5, "weightOf", "(II)J"⟩
abbrev cX5_drawLots : ByteArray := prog_1_method_70_code
def yX5_drawLots : MethodName := ⟨RX5, "drawLots", "(II)V"⟩
def RX6 : String := "TownBagpipesModel"
def TX6 : u_T := fun k => match k with
  | 0 => ("TownBagpipesModel", "typed", "[I", true)
  | 1 => ("TownBagpipesModel", "texts", "[I", true)
  | 2 => ("TownBagpipesModel", "houses", "I", false)
  | 3 => ("TownBagpipesModel", "onPipe", "[I", true)
  | 4 => ("TownBagpipesModel", "notes", "[I", true)
  | 5 => ("TownBagpipesModel", "wides", "[I", true)
  | 6 => ("TownBagpipesModel", "sizesOf", "[I", true)
  | 7 => ("TownBagpipesModel", "letters", "[I", true)
  | 8 => ("TownBagpipesModel", "elbowMany", "I", false)
  | 9 => ("TownBagpipesModel", "elbowTold", "[I", true)
  | 10 => ("TownBagpipesModel", "settings", "[I", true)
  | 11 => ("TownBagpipesModel", "leaks", "I", false)
  | 12 => ("TownBagpipesModel", "leakHour", "[I", true)
  | 13 => ("TownBagpipesModel", "leakMuch", "[I", true)
  | 14 => ("TownBagpipesModel", "leakPatch", "[I", true)
  | 15 => ("TownBagpipesModel", "pinches", "I", false)
  | 16 => ("TownBagpipesModel", "pinchHour", "[I", true)
  | 17 => ("TownBagpipesModel", "pinchHouse", "[I", true)
  | 18 => ("TownBagpipesModel", "elbowNow", "[I", true)
  | 19 => ("TownBagpipesModel", "notLeaks", "I", false)
  | 20 => ("TownBagpipesModel", "notPinches", "I", false)
  | 21 => ("TownBagpipesModel", "shutNow", "I", false)
  | 22 => ("TownBagpipesModel", "startNow", "I", false)
  | 23 => ("TownBagpipesModel", "air", "I", false)
  | 24 => ("TownBagpipesModel", "may", "[I", true)
  | 25 => ("TownBagpipesModel", "airAt", "[I", true)
  | 26 => ("TownBagpipesModel", "lostAt", "[I", true)
  | 27 => ("TownBagpipesModel", "chordAt", "[I", true)
  | 28 => ("TownBagpipesModel", "shortAt", "[I", true)
  | 29 => ("TownBagpipesModel", "gotAt", "[I", true)
  | 30 => ("TownBagpipesModel", "seens", "I", false)
  | 31 => ("TownBagpipesModel", "seenHour", "[I", true)
  | 32 => ("TownBagpipesModel", "seenHouse", "[I", true)
  | 33 => ("TownBagpipesModel", "seenMuch", "[I", true)
  | 34 => ("TownBagpipesModel", "gotBy", "[I", true)
  | 35 => ("TownBagpipesModel", "isThere", "[Z", true)
  | 36 => ("TownBagpipesModel", "forms", "[I", true)
  | 37 => ("TownBagpipesModel", "sizes", "[I", true)
  | 38 => ("TownBagpipesModel", "items", "[I", true)
  | 39 => ("TownBagpipesModel", "moved", "[I", true)
  | _ => ("TownBagpipesModel", "finding", "I", false)
def tyX6 : Nat → FieldType := fun k => match k with
  | 0 => .array .int
  | 1 => .array .int
  | 2 => .int
  | 3 => .array .int
  | 4 => .array .int
  | 5 => .array .int
  | 6 => .array .int
  | 7 => .array .int
  | 8 => .int
  | 9 => .array .int
  | 10 => .array .int
  | 11 => .int
  | 12 => .array .int
  | 13 => .array .int
  | 14 => .array .int
  | 15 => .int
  | 16 => .array .int
  | 17 => .array .int
  | 18 => .array .int
  | 19 => .int
  | 20 => .int
  | 21 => .int
  | 22 => .int
  | 23 => .int
  | 24 => .array .int
  | 25 => .array .int
  | 26 => .array .int
  | 27 => .array .int
  | 28 => .array .int
  | 29 => .array .int
  | 30 => .int
  | 31 => .array .int
  | 32 => .array .int
  | 33 => .array .int
  | 34 => .array .int
  | 35 => .array .boolean
  | 36 => .array .int
  | 37 => .array .int
  | 38 => .array .int
  | 39 => .array .int
  | _ => .int
abbrev wsX60 : List Cond := u_ws RX6 TX6 41
theorem nmX6 : ∀ a, a < 41 → ∀ b, b < 41 → a ≠ b → (TX6 a).2.1 ≠ (TX6 b).2.1 := by decide +kernel
theorem tyX6_ok : ∀ k, k < 41 → parseFieldDescriptor (TX6 k).2.2.1 = some (tyX6 k) := by decide +kernel
abbrev cX6_init : ByteArray := prog_8_method_1_code
def yX6_init : MethodName := ⟨RX6, "<init>", "()V"⟩
abbrev cX6_in : ByteArray := prog_8_method_3_code
def yX6_in : MethodName := ⟨RX6, "in", "(III)Z"⟩
abbrev cX6_isIn : ByteArray := prog_8_method_4_code
def yX6_isIn : MethodName := ⟨RX6, "isIn", "(II)Z"⟩
abbrev cX6_no : ByteArray := prog_8_method_5_code
def yX6_no : MethodName := ⟨RX6, "no", "(I)J"⟩
abbrev cX6_lowest : ByteArray := prog_8_method_6_code
def yX6_lowest : MethodName := ⟨RX6, "lowest", "(JJI)J"⟩
abbrev cX6_isText : ByteArray := prog_8_method_7_code
def yX6_isText : MethodName := ⟨RX6, "isText", "(I)Z"⟩
abbrev cX6_isHour : ByteArray := prog_8_method_8_code
def yX6_isHour : MethodName := ⟨RX6, "isHour", "(I)Z"⟩
abbrev cX6_type : ByteArray := prog_8_method_9_code
def yX6_type : MethodName := ⟨RX6, "type", "(II)I"⟩
abbrev cX6_wipe : ByteArray := prog_8_method_10_code
def yX6_wipe : MethodName := ⟨RX6, "wipe", "(I)I"⟩
abbrev cX6_undo : ByteArray := prog_8_method_11_code
def yX6_undo : MethodName := ⟨RX6, "undo", "(I)I"⟩
abbrev cX6_byteAt : ByteArray := prog_8_method_12_code
def yX6_byteAt : MethodName := ⟨RX6, "byteAt", "(I)I"⟩
abbrev cX6_doneAt : ByteArray := prog_8_method_13_code
def yX6_doneAt : MethodName := ⟨RX6, "doneAt", "(I)I"⟩
abbrev cX6_readsHouse : ByteArray := prog_8_method_14_code
def yX6_readsHouse : MethodName := ⟨RX6, "readsHouse", "(II)I"⟩
abbrev cX6_readsHouses : ByteArray := prog_8_method_15_code
def yX6_readsHouses : MethodName := ⟨RX6, "readsHouses", "()I"⟩
abbrev cX6_readsElbows : ByteArray := prog_8_method_16_code
def yX6_readsElbows : MethodName := ⟨RX6, "readsElbows", "()I"⟩
abbrev cX6_faultOf : ByteArray := prog_8_method_17_code
def yX6_faultOf : MethodName := ⟨RX6, "faultOf", "(I)I"⟩
abbrev cX6_reads : ByteArray := prog_8_method_18_code
def yX6_reads : MethodName := ⟨RX6, "reads", "()V"⟩
abbrev cX6_fault : ByteArray := prog_8_method_19_code
def yX6_fault : MethodName := ⟨RX6, "fault", "(I)I"⟩
abbrev cX6_isHouse : ByteArray := prog_8_method_20_code
def yX6_isHouse : MethodName := ⟨RX6, "isHouse", "(I)Z"⟩
abbrev cX6_houseOf : ByteArray := prog_8_method_21_code
def yX6_houseOf : MethodName := ⟨RX6, "houseOf", "(II)I"⟩
abbrev cX6_house : ByteArray := prog_8_method_22_code
def yX6_house : MethodName := ⟨RX6, "house", "(II)I"⟩
abbrev cX6_elbowsOf : ByteArray := prog_8_method_23_code
def yX6_elbowsOf : MethodName := ⟨RX6, "elbowsOf", "(I)I"⟩
abbrev cX6_elbows : ByteArray := prog_8_method_24_code
def yX6_elbows : MethodName := ⟨RX6, "elbows", "(I)I"⟩
abbrev cX6_set : ByteArray := prog_8_method_25_code
def yX6_set : MethodName := ⟨RX6, "set", "(II)I"⟩
abbrev cX6_leak : ByteArray := prog_8_method_26_code
def yX6_leak : MethodName := ⟨RX6, "leak", "(III)I"⟩
abbrev cX6_pinch : ByteArray := prog_8_method_27_code
def yX6_pinch : MethodName := ⟨RX6, "pinch", "(II)I"⟩
abbrev cX6_back : ByteArray := prog_8_method_28_code
def yX6_back : MethodName := ⟨RX6, "back", "(I)I"⟩
abbrev cX6_read : ByteArray := prog_8_method_29_code
def yX6_read : MethodName := ⟨RX6, "read", "(I)I"⟩
abbrev cX6_asTold : ByteArray := prog_8_method_30_code
def yX6_asTold : MethodName := ⟨RX6, "asTold", "()V"⟩
abbrev cX6_doneIn : ByteArray := prog_8_method_31_code
def yX6_doneIn : MethodName := ⟨RX6, "doneIn", "(II)I"⟩
abbrev cX6_needs : ByteArray := prog_8_method_32_code
def yX6_needs : MethodName := ⟨RX6, "needs", "(II)I"⟩
abbrev cX6_leaking : ByteArray := prog_8_method_33_code
def yX6_leaking : MethodName := ⟨RX6, "leaking", "(I)I"⟩
abbrev cX6_opens : ByteArray := prog_8_method_34_code
def yX6_opens : MethodName := ⟨RX6, "opens", "(I)V"⟩
abbrev cX6_gets : ByteArray := prog_8_method_35_code
def yX6_gets : MethodName := ⟨RX6, "gets", "(II)I"⟩
abbrev cX6_goesBy : ByteArray := prog_8_method_36_code
def yX6_goesBy : MethodName := ⟨RX6, "goesBy", "(I)V"⟩
abbrev cX6_runs : ByteArray := prog_8_method_37_code
def yX6_runs : MethodName := ⟨RX6, "runs", "()V"⟩
abbrev cX6_runsTold : ByteArray := prog_8_method_38_code
def yX6_runsTold : MethodName := ⟨RX6, "runsTold", "()V"⟩
abbrev cX6_bagOf : ByteArray := prog_8_method_39_code
def yX6_bagOf : MethodName := ⟨RX6, "bagOf", "(II)I"⟩
abbrev cX6_bag : ByteArray := prog_8_method_40_code
def yX6_bag : MethodName := ⟨RX6, "bag", "(II)I"⟩
abbrev cX6_gotOf : ByteArray := prog_8_method_41_code
def yX6_gotOf : MethodName := ⟨RX6, "gotOf", "(III)I"⟩
abbrev cX6_got : ByteArray := prog_8_method_42_code
def yX6_got : MethodName := ⟨RX6, "got", "(III)I"⟩
abbrev cX6_shortOf : ByteArray := prog_8_method_43_code
def yX6_shortOf : MethodName := ⟨RX6, "shortOf", "(I)I"⟩
abbrev cX6_shortAll : ByteArray := prog_8_method_44_code
def yX6_shortAll : MethodName := ⟨RX6, "shortAll", "()I"⟩
abbrev cX6_heldOf : ByteArray := prog_8_method_45_code
def yX6_heldOf : MethodName := ⟨RX6, "heldOf", "(II)I"⟩
abbrev cX6_held : ByteArray := prog_8_method_46_code
def yX6_held : MethodName := ⟨RX6, "held", "(II)I"⟩
abbrev cX6_firstOf : ByteArray := prog_8_method_47_code
def yX6_firstOf : MethodName := ⟨RX6, "firstOf", "()I"⟩
abbrev cX6_first : ByteArray := prog_8_method_48_code
def yX6_first : MethodName := ⟨RX6, "first", "()I"⟩
abbrev cX6_quietOf : ByteArray := prog_8_method_49_code
def yX6_quietOf : MethodName := ⟨RX6, "quietOf", "()I"⟩
abbrev cX6_quiet : ByteArray := prog_8_method_50_code
def yX6_quiet : MethodName := ⟨RX6, "quiet", "()I"⟩
abbrev cX6_wellOf : ByteArray := prog_8_method_51_code
def yX6_wellOf : MethodName := ⟨RX6, "wellOf", "()I"⟩
abbrev cX6_well : ByteArray := prog_8_method_52_code
def yX6_well : MethodName := ⟨RX6, "well", "()I"⟩
abbrev cX6_elbowOf : ByteArray := prog_8_method_53_code
def yX6_elbowOf : MethodName := ⟨RX6, "elbowOf", "(I)I"⟩
abbrev cX6_elbow : ByteArray := prog_8_method_54_code
def yX6_elbow : MethodName := ⟨RX6, "elbow", "(I)I"⟩
abbrev cX6_shutOf : ByteArray := prog_8_method_55_code
def yX6_shutOf : MethodName := ⟨RX6, "shutOf", "(II)I"⟩
abbrev cX6_shut : ByteArray := prog_8_method_56_code
def yX6_shut : MethodName := ⟨RX6, "shut", "(II)I"⟩
abbrev cX6_leastNow : ByteArray := prog_8_method_57_code
def yX6_leastNow : MethodName := ⟨RX6, "leastNow", "()I"⟩
abbrev cX6_least : ByteArray := prog_8_method_58_code
def yX6_least : MethodName := ⟨RX6, "least", "()I"⟩
abbrev cX6_patchOf : ByteArray := prog_8_method_59_code
def yX6_patchOf : MethodName := ⟨RX6, "patchOf", "(I)I"⟩
abbrev cX6_patch : ByteArray := prog_8_method_60_code
def yX6_patch : MethodName := ⟨RX6, "patch", "(I)I"⟩
abbrev cX6_seen : ByteArray := prog_8_method_61_code
def yX6_seen : MethodName := ⟨RX6, "seen", "(III)I"⟩
abbrev cX6_forget : ByteArray := prog_8_method_62_code
def yX6_forget : MethodName := ⟨RX6, "forget", "()I"⟩
abbrev cX6_isSeen : ByteArray := prog_8_method_63_code
def yX6_isSeen : MethodName := ⟨RX6, "isSeen", "()Z"⟩
abbrev cX6_neverNow : ByteArray := prog_8_method_64_code
def yX6_neverNow : MethodName := ⟨RX6, "neverNow", "()I"⟩
abbrev cX6_never : ByteArray := prog_8_method_65_code
def yX6_never : MethodName := ⟨RX6, "never", "()I"⟩
abbrev cX6_wasOf : ByteArray := prog_8_method_66_code
def yX6_wasOf : MethodName := ⟨RX6, "wasOf", "(I)I"⟩
abbrev cX6_was : ByteArray := prog_8_method_67_code
def yX6_was : MethodName := ⟨RX6, "was", "(I)I"⟩
abbrev cX6_startsOf : ByteArray := prog_8_method_68_code
def yX6_startsOf : MethodName := ⟨RX6, "startsOf", "(I)I"⟩
abbrev cX6_starts : ByteArray := prog_8_method_69_code
def yX6_starts : MethodName := ⟨RX6, "starts", "(I)I"⟩
abbrev cX6_askOf : ByteArray := prog_8_method_70_code
def yX6_askOf : MethodName := ⟨RX6, "askOf", "(I)I"⟩
abbrev cX6_ask : ByteArray := prog_8_method_71_code
def yX6_ask : MethodName := ⟨RX6, "ask", "(I)I"⟩
abbrev cX6_mothOf : ByteArray := prog_8_method_72_code
def yX6_mothOf : MethodName := ⟨RX6, "mothOf", "(III)J"⟩
abbrev cX6_moth : ByteArray := prog_8_method_73_code
def yX6_moth : MethodName := ⟨RX6, "moth", "(III)J"⟩
abbrev cX6_yearOf : ByteArray := prog_8_method_74_code
def yX6_yearOf : MethodName := ⟨RX6, "yearOf", "(III)I"⟩
abbrev cX6_year : ByteArray := prog_8_method_75_code
def yX6_year : MethodName := ⟨RX6, "year", "(III)I"⟩
abbrev cX6_meets : ByteArray := prog_8_method_76_code
def yX6_meets : MethodName := ⟨RX6, "meets", "(I)I"⟩
abbrev cX6_isSheet : ByteArray := prog_8_method_77_code
def yX6_isSheet : MethodName := ⟨RX6, "isSheet", "(I)Z"⟩
abbrev cX6_sheet : ByteArray := prog_8_method_78_code
def yX6_sheet : MethodName := ⟨RX6, "sheet", "(III)I"⟩
abbrev cX6_lose : ByteArray := prog_8_method_79_code
def yX6_lose : MethodName := ⟨RX6, "lose", "(I)I"⟩
abbrev cX6_lacks : ByteArray := prog_8_method_80_code
def yX6_lacks : MethodName := ⟨RX6, "lacks", "(III)I"⟩
abbrev cX6_keep : ByteArray := prog_8_method_81_code
def yX6_keep : MethodName := ⟨RX6, "keep", "(III)V"⟩
abbrev cX6_put : ByteArray := prog_8_method_82_code
def yX6_put : MethodName := ⟨RX6, "put", "(IIII)I"⟩
abbrev cX6_get : ByteArray := prog_8_method_83_code
def yX6_get : MethodName := ⟨RX6, "get", "(III)I"⟩
abbrev cX6_copy : ByteArray := prog_8_method_84_code
def yX6_copy : MethodName := ⟨RX6, "copy", "(IIIII)I"⟩
abbrev cX6_write : ByteArray := prog_8_method_85_code
def yX6_write : MethodName := ⟨RX6, "write", "(II)I"⟩
abbrev cX6_sumOf : ByteArray := prog_8_method_86_code
def yX6_sumOf : MethodName := ⟨RX6, "sumOf", "(I)I"⟩
abbrev cX6_count : ByteArray := prog_8_method_87_code
def yX6_count : MethodName := ⟨RX6, "count", "(I)I"⟩
abbrev cX6_hourDigest : ByteArray := prog_8_method_88_code
def yX6_hourDigest : MethodName := ⟨RX6, "hourDigest", "(JII)J"⟩
abbrev cX6_houseDigest : ByteArray := prog_8_method_89_code
def yX6_houseDigest : MethodName := ⟨RX6, "houseDigest", "(JI)J"⟩
abbrev cX6_digest : ByteArray := prog_8_method_90_code
def yX6_digest : MethodName := ⟨RX6, "digest", "()J"⟩
def RJ6 : String := "java/lang/Integer"
def TJ6 : u_T := fun k => match k with
  | _ => ("", "", "", false)
def tyJ6 : Nat → FieldType := fun k => match k with
  | _ => .int
theorem nmJ6 : ∀ a, a < 0 → ∀ b, b < 0 → a ≠ b → (TJ6 a).2.1 ≠ (TJ6 b).2.1 := by decide +kernel
theorem tyJ6_ok : ∀ k, k < 0 → parseFieldDescriptor (TJ6 k).2.2.1 = some (tyJ6 k) := by decide +kernel
abbrev cJ6_numberOfLeadingZeros_0f7a4 : ByteArray := prog_9_method_47_code
def yJ6_numberOfLeadingZeros_0f7a4 : MethodName := ⟨RJ6, "numberOfLeadingZeros", "(I)I"⟩
abbrev cJ6_numberOfTrailingZeros_0f7a4 : ByteArray := prog_9_method_48_code
def yJ6_numberOfTrailingZeros_0f7a4 : MethodName := ⟨RJ6, "numberOfTrailingZeros", "(I)I"⟩
abbrev cJ6_bitCount_0f7a4 : ByteArray := prog_9_method_49_code
def yJ6_bitCount_0f7a4 : MethodName := ⟨RJ6, "bitCount", "(I)I"⟩
def RJ13 : String := "java/lang/Long"
def TJ13 : u_T := fun k => match k with
  | _ => ("", "", "", false)
def tyJ13 : Nat → FieldType := fun k => match k with
  | _ => .int
theorem nmJ13 : ∀ a, a < 0 → ∀ b, b < 0 → a ≠ b → (TJ13 a).2.1 ≠ (TJ13 b).2.1 := by decide +kernel
theorem tyJ13_ok : ∀ k, k < 0 → parseFieldDescriptor (TJ13 k).2.2.1 = some (tyJ13 k) := by decide +kernel
abbrev cJ13_numberOfLeadingZeros_95d88 : ByteArray := prog_10_method_48_code
def yJ13_numberOfLeadingZeros_95d88 : MethodName := ⟨RJ13, "numberOfLeadingZeros", "(J)I"⟩
abbrev cJ13_numberOfTrailingZeros_95d88 : ByteArray := prog_10_method_49_code
def yJ13_numberOfTrailingZeros_95d88 : MethodName := ⟨RJ13, "numberOfTrailingZeros", "(J)I"⟩
abbrev cJ13_bitCount_95d88 : ByteArray := prog_10_method_50_code
def yJ13_bitCount_95d88 : MethodName := ⟨RJ13, "bitCount", "(J)I"⟩
def RJ9 : String := "java/lang/Math"
def TJ9 : u_T := fun k => match k with
  | _ => ("", "", "", false)
def tyJ9 : Nat → FieldType := fun k => match k with
  | _ => .int
theorem nmJ9 : ∀ a, a < 0 → ∀ b, b < 0 → a ≠ b → (TJ9 a).2.1 ≠ (TJ9 b).2.1 := by decide +kernel
theorem tyJ9_ok : ∀ k, k < 0 → parseFieldDescriptor (TJ9 k).2.2.1 = some (tyJ9 k) := by decide +kernel
abbrev cJ9_max_7cf53 : ByteArray := prog_11_method_65_code
def yJ9_max_7cf53 : MethodName := ⟨RJ9, "max", "(II)I"⟩
abbrev cJ9_min_7cf53 : ByteArray := prog_11_method_69_code
def yJ9_min_7cf53 : MethodName := ⟨RJ9, "min", "(II)I"⟩
def RJ10 : String := "java/lang/System"
def TJ10 : u_T := fun k => match k with
  | _ => ("", "", "", false)
def tyJ10 : Nat → FieldType := fun k => match k with
  | _ => .int
theorem nmJ10 : ∀ a, a < 0 → ∀ b, b < 0 → a ≠ b → (TJ10 a).2.1 ≠ (TJ10 b).2.1 := by decide +kernel
theorem tyJ10_ok : ∀ k, k < 0 → parseFieldDescriptor (TJ10 k).2.2.1 = some (tyJ10 k) := by decide +kernel
def RL : String := "TownBagpipesLaw"
abbrev cL_law : ByteArray := code
def yL_law : MethodName := ⟨RL, "law", "([I)Z"⟩
abbrev vwCl : List vw_C := [(RX0, TX0, 6), (RX1, TX1, 3), (RX2, TX2, 7), (RX3, TX3, 4), (RX4, TX4, 16), (RX5, TX5, 16), (RX6, TX6, 41)]
end
section
theorem dX0_init_0 : decode cX0_init 0 = .ok (.aload_n 0, 1) := by decide +kernel
theorem dX0_init_1 : decode cX0_init 1 = .ok (.invokespecial 3, 3) := by decide +kernel
theorem dX0_init_4 : decode cX0_init 4 = .ok (.aload_n 0, 1) := by decide +kernel
theorem dX0_init_5 : decode cX0_init 5 = .ok (.bipush 40, 2) := by decide +kernel
theorem dX0_init_7 : decode cX0_init 7 = .ok (.newarray .int, 2) := by decide +kernel
theorem dX0_init_9 : decode cX0_init 9 = .ok (.putfield 9, 3) := by decide +kernel
theorem dX0_init_12 : decode cX0_init 12 = .ok (.aload_n 0, 1) := by decide +kernel
theorem dX0_init_13 : decode cX0_init 13 = .ok (.bipush 40, 2) := by decide +kernel
theorem dX0_init_15 : decode cX0_init 15 = .ok (.newarray .int, 2) := by decide +kernel
theorem dX0_init_17 : decode cX0_init 17 = .ok (.putfield 15, 3) := by decide +kernel
theorem dX0_init_20 : decode cX0_init 20 = .ok (.aload_n 0, 1) := by decide +kernel
theorem dX0_init_21 : decode cX0_init 21 = .ok (.bipush 40, 2) := by decide +kernel
theorem dX0_init_23 : decode cX0_init 23 = .ok (.newarray .int, 2) := by decide +kernel
theorem dX0_init_25 : decode cX0_init 25 = .ok (.putfield 18, 3) := by decide +kernel
theorem dX0_init_28 : decode cX0_init 28 = .ok (.aload_n 0, 1) := by decide +kernel
theorem dX0_init_29 : decode cX0_init 29 = .ok (.bipush 40, 2) := by decide +kernel
theorem dX0_init_31 : decode cX0_init 31 = .ok (.newarray .int, 2) := by decide +kernel
theorem dX0_init_33 : decode cX0_init 33 = .ok (.putfield 21, 3) := by decide +kernel
theorem dX0_init_36 : decode cX0_init 36 = .ok (.aload_n 0, 1) := by decide +kernel
theorem dX0_init_37 : decode cX0_init 37 = .ok (.sipush 320, 3) := by decide +kernel
theorem dX0_init_40 : decode cX0_init 40 = .ok (.newarray .int, 2) := by decide +kernel
theorem dX0_init_42 : decode cX0_init 42 = .ok (.putfield 24, 3) := by decide +kernel
theorem dX0_init_45 : decode cX0_init 45 = .ok (.aload_n 0, 1) := by decide +kernel
theorem dX0_init_46 : decode cX0_init 46 = .ok (.bipush 8, 2) := by decide +kernel
theorem dX0_init_48 : decode cX0_init 48 = .ok (.newarray .int, 2) := by decide +kernel
theorem dX0_init_50 : decode cX0_init 50 = .ok (.putfield 27, 3) := by decide +kernel
theorem dX0_init_53 : decode cX0_init 53 = .ok (.return_, 1) := by decide +kernel
theorem dX0_follow_0 : decode cX0_follow 0 = .ok (.aload_n 1, 1) := by decide +kernel
theorem dX0_follow_1 : decode cX0_follow 1 = .ok (.getfield 30, 3) := by decide +kernel
theorem dX0_follow_4 : decode cX0_follow 4 = .ok (.astore_n 2, 1) := by decide +kernel
theorem dX0_follow_5 : decode cX0_follow 5 = .ok (.aload_n 1, 1) := by decide +kernel
theorem dX0_follow_6 : decode cX0_follow 6 = .ok (.getfield 36, 3) := by decide +kernel
theorem dX0_follow_9 : decode cX0_follow 9 = .ok (.istore_n 3, 1) := by decide +kernel
theorem dX0_follow_10 : decode cX0_follow 10 = .ok (.iconst 0, 1) := by decide +kernel
theorem dX0_follow_11 : decode cX0_follow 11 = .ok (.istore 4, 2) := by decide +kernel
theorem dX0_follow_13 : decode cX0_follow 13 = .ok (.iload 4, 2) := by decide +kernel
theorem dX0_follow_15 : decode cX0_follow 15 = .ok (.bipush 40, 2) := by decide +kernel
theorem dX0_follow_17 : decode cX0_follow 17 = .ok (.if_icmp .ge 220, 3) := by decide +kernel
theorem dX0_follow_20 : decode cX0_follow 20 = .ok (.aload_n 1, 1) := by decide +kernel
theorem dX0_follow_21 : decode cX0_follow 21 = .ok (.getfield 40, 3) := by decide +kernel
theorem dX0_follow_24 : decode cX0_follow 24 = .ok (.iload_n 3, 1) := by decide +kernel
theorem dX0_follow_25 : decode cX0_follow 25 = .ok (.aload_n 1, 1) := by decide +kernel
theorem dX0_follow_26 : decode cX0_follow 26 = .ok (.getfield 43, 3) := by decide +kernel
theorem dX0_follow_29 : decode cX0_follow 29 = .ok (.aload_n 1, 1) := by decide +kernel
theorem dX0_follow_30 : decode cX0_follow 30 = .ok (.getfield 46, 3) := by decide +kernel
theorem dX0_follow_33 : decode cX0_follow 33 = .ok (.iload 4, 2) := by decide +kernel
theorem dX0_follow_35 : decode cX0_follow 35 = .ok (.iaload, 1) := by decide +kernel
theorem dX0_follow_36 : decode cX0_follow 36 = .ok (.imul, 1) := by decide +kernel
theorem dX0_follow_37 : decode cX0_follow 37 = .ok (.iadd, 1) := by decide +kernel
theorem dX0_follow_38 : decode cX0_follow 38 = .ok (.invokestatic 49, 3) := by decide +kernel
theorem dX0_follow_41 : decode cX0_follow 41 = .ok (.istore 5, 2) := by decide +kernel
theorem dX0_follow_43 : decode cX0_follow 43 = .ok (.aload_n 0, 1) := by decide +kernel
theorem dX0_follow_44 : decode cX0_follow 44 = .ok (.getfield 15, 3) := by decide +kernel
theorem dX0_follow_47 : decode cX0_follow 47 = .ok (.iload 4, 2) := by decide +kernel
theorem dX0_follow_49 : decode cX0_follow 49 = .ok (.iload 5, 2) := by decide +kernel
theorem dX0_follow_51 : decode cX0_follow 51 = .ok (.aload_n 1, 1) := by decide +kernel
theorem dX0_follow_52 : decode cX0_follow 52 = .ok (.iload 4, 2) := by decide +kernel
theorem dX0_follow_54 : decode cX0_follow 54 = .ok (.invokevirtual 55, 3) := by decide +kernel
theorem dX0_follow_57 : decode cX0_follow 57 = .ok (.invokestatic 49, 3) := by decide +kernel
theorem dX0_follow_60 : decode cX0_follow 60 = .ok (.iastore, 1) := by decide +kernel
theorem dX0_follow_61 : decode cX0_follow 61 = .ok (.iload 5, 2) := by decide +kernel
theorem dX0_follow_63 : decode cX0_follow 63 = .ok (.aload_n 0, 1) := by decide +kernel
theorem dX0_follow_64 : decode cX0_follow 64 = .ok (.getfield 15, 3) := by decide +kernel
theorem dX0_follow_67 : decode cX0_follow 67 = .ok (.iload 4, 2) := by decide +kernel
theorem dX0_follow_69 : decode cX0_follow 69 = .ok (.iaload, 1) := by decide +kernel
theorem dX0_follow_70 : decode cX0_follow 70 = .ok (.isub, 1) := by decide +kernel
theorem dX0_follow_71 : decode cX0_follow 71 = .ok (.istore_n 3, 1) := by decide +kernel
theorem dX0_follow_72 : decode cX0_follow 72 = .ok (.aload_n 0, 1) := by decide +kernel
theorem dX0_follow_73 : decode cX0_follow 73 = .ok (.getfield 18, 3) := by decide +kernel
theorem dX0_follow_76 : decode cX0_follow 76 = .ok (.iload 4, 2) := by decide +kernel
theorem dX0_follow_78 : decode cX0_follow 78 = .ok (.iconst 0, 1) := by decide +kernel
theorem dX0_follow_79 : decode cX0_follow 79 = .ok (.iastore, 1) := by decide +kernel
theorem dX0_follow_80 : decode cX0_follow 80 = .ok (.aload_n 0, 1) := by decide +kernel
theorem dX0_follow_81 : decode cX0_follow 81 = .ok (.getfield 21, 3) := by decide +kernel
theorem dX0_follow_84 : decode cX0_follow 84 = .ok (.iload 4, 2) := by decide +kernel
theorem dX0_follow_86 : decode cX0_follow 86 = .ok (.iconst 0, 1) := by decide +kernel
theorem dX0_follow_87 : decode cX0_follow 87 = .ok (.iastore, 1) := by decide +kernel
theorem dX0_follow_88 : decode cX0_follow 88 = .ok (.aload_n 1, 1) := by decide +kernel
theorem dX0_follow_89 : decode cX0_follow 89 = .ok (.iload 4, 2) := by decide +kernel
theorem dX0_follow_91 : decode cX0_follow 91 = .ok (.aload_n 0, 1) := by decide +kernel
theorem dX0_follow_92 : decode cX0_follow 92 = .ok (.getfield 27, 3) := by decide +kernel
theorem dX0_follow_95 : decode cX0_follow 95 = .ok (.invokevirtual 59, 3) := by decide +kernel
theorem dX0_follow_98 : decode cX0_follow 98 = .ok (.iconst 0, 1) := by decide +kernel
theorem dX0_follow_99 : decode cX0_follow 99 = .ok (.istore 6, 2) := by decide +kernel
theorem dX0_follow_101 : decode cX0_follow 101 = .ok (.iload 6, 2) := by decide +kernel
theorem dX0_follow_103 : decode cX0_follow 103 = .ok (.aload_n 2, 1) := by decide +kernel
theorem dX0_follow_104 : decode cX0_follow 104 = .ok (.getfield 63, 3) := by decide +kernel
theorem dX0_follow_107 : decode cX0_follow 107 = .ok (.if_icmp .ge 116, 3) := by decide +kernel
theorem dX0_follow_110 : decode cX0_follow 110 = .ok (.iload 4, 2) := by decide +kernel
theorem dX0_follow_112 : decode cX0_follow 112 = .ok (.bipush 8, 2) := by decide +kernel
theorem dX0_follow_114 : decode cX0_follow 114 = .ok (.imul, 1) := by decide +kernel
theorem dX0_follow_115 : decode cX0_follow 115 = .ok (.iload 6, 2) := by decide +kernel
theorem dX0_follow_117 : decode cX0_follow 117 = .ok (.iadd, 1) := by decide +kernel
theorem dX0_follow_118 : decode cX0_follow 118 = .ok (.istore 7, 2) := by decide +kernel
theorem dX0_follow_120 : decode cX0_follow 120 = .ok (.aload_n 2, 1) := by decide +kernel
theorem dX0_follow_121 : decode cX0_follow 121 = .ok (.getfield 68, 3) := by decide +kernel
theorem dX0_follow_124 : decode cX0_follow 124 = .ok (.iload 7, 2) := by decide +kernel
theorem dX0_follow_126 : decode cX0_follow 126 = .ok (.iaload, 1) := by decide +kernel
theorem dX0_follow_127 : decode cX0_follow 127 = .ok (.invokestatic 71, 3) := by decide +kernel
theorem dX0_follow_130 : decode cX0_follow 130 = .ok (.istore 8, 2) := by decide +kernel
theorem dX0_follow_132 : decode cX0_follow 132 = .ok (.aload_n 0, 1) := by decide +kernel
theorem dX0_follow_133 : decode cX0_follow 133 = .ok (.aload_n 2, 1) := by decide +kernel
theorem dX0_follow_134 : decode cX0_follow 134 = .ok (.getfield 74, 3) := by decide +kernel
theorem dX0_follow_137 : decode cX0_follow 137 = .ok (.iload 6, 2) := by decide +kernel
theorem dX0_follow_139 : decode cX0_follow 139 = .ok (.iload 8, 2) := by decide +kernel
theorem dX0_follow_141 : decode cX0_follow 141 = .ok (.iload_n 3, 1) := by decide +kernel
theorem dX0_follow_142 : decode cX0_follow 142 = .ok (.invokestatic 49, 3) := by decide +kernel
theorem dX0_follow_145 : decode cX0_follow 145 = .ok (.invokevirtual 77, 3) := by decide +kernel
theorem dX0_follow_148 : decode cX0_follow 148 = .ok (.istore 9, 2) := by decide +kernel
theorem dX0_follow_150 : decode cX0_follow 150 = .ok (.aload_n 0, 1) := by decide +kernel
theorem dX0_follow_151 : decode cX0_follow 151 = .ok (.getfield 24, 3) := by decide +kernel
theorem dX0_follow_154 : decode cX0_follow 154 = .ok (.iload 7, 2) := by decide +kernel
theorem dX0_follow_156 : decode cX0_follow 156 = .ok (.iload 9, 2) := by decide +kernel
theorem dX0_follow_158 : decode cX0_follow 158 = .ok (.iastore, 1) := by decide +kernel
theorem dX0_follow_159 : decode cX0_follow 159 = .ok (.iload_n 3, 1) := by decide +kernel
theorem dX0_follow_160 : decode cX0_follow 160 = .ok (.iload 9, 2) := by decide +kernel
theorem dX0_follow_162 : decode cX0_follow 162 = .ok (.isub, 1) := by decide +kernel
theorem dX0_follow_163 : decode cX0_follow 163 = .ok (.istore_n 3, 1) := by decide +kernel
theorem dX0_follow_164 : decode cX0_follow 164 = .ok (.aload_n 0, 1) := by decide +kernel
theorem dX0_follow_165 : decode cX0_follow 165 = .ok (.getfield 18, 3) := by decide +kernel
theorem dX0_follow_168 : decode cX0_follow 168 = .ok (.iload 4, 2) := by decide +kernel
theorem dX0_follow_170 : decode cX0_follow 170 = .ok (.dup2, 1) := by decide +kernel
theorem dX0_follow_171 : decode cX0_follow 171 = .ok (.iaload, 1) := by decide +kernel
theorem dX0_follow_172 : decode cX0_follow 172 = .ok (.iload 9, 2) := by decide +kernel
theorem dX0_follow_174 : decode cX0_follow 174 = .ok (.ifCond .le 15, 3) := by decide +kernel
theorem dX0_follow_177 : decode cX0_follow 177 = .ok (.iconst 1, 1) := by decide +kernel
theorem dX0_follow_178 : decode cX0_follow 178 = .ok (.aload_n 2, 1) := by decide +kernel
theorem dX0_follow_179 : decode cX0_follow 179 = .ok (.getfield 81, 3) := by decide +kernel
theorem dX0_follow_182 : decode cX0_follow 182 = .ok (.iload 6, 2) := by decide +kernel
theorem dX0_follow_184 : decode cX0_follow 184 = .ok (.iaload, 1) := by decide +kernel
theorem dX0_follow_185 : decode cX0_follow 185 = .ok (.ishl, 1) := by decide +kernel
theorem dX0_follow_186 : decode cX0_follow 186 = .ok (.goto 4, 3) := by decide +kernel
theorem dX0_follow_189 : decode cX0_follow 189 = .ok (.iconst 0, 1) := by decide +kernel
theorem dX0_follow_190 : decode cX0_follow 190 = .ok (.ior, 1) := by decide +kernel
theorem dX0_follow_191 : decode cX0_follow 191 = .ok (.iastore, 1) := by decide +kernel
theorem dX0_follow_192 : decode cX0_follow 192 = .ok (.aload_n 0, 1) := by decide +kernel
theorem dX0_follow_193 : decode cX0_follow 193 = .ok (.getfield 21, 3) := by decide +kernel
theorem dX0_follow_196 : decode cX0_follow 196 = .ok (.iload 4, 2) := by decide +kernel
theorem dX0_follow_198 : decode cX0_follow 198 = .ok (.dup2, 1) := by decide +kernel
theorem dX0_follow_199 : decode cX0_follow 199 = .ok (.iaload, 1) := by decide +kernel
theorem dX0_follow_200 : decode cX0_follow 200 = .ok (.iload 9, 2) := by decide +kernel
theorem dX0_follow_202 : decode cX0_follow 202 = .ok (.iload 8, 2) := by decide +kernel
theorem dX0_follow_204 : decode cX0_follow 204 = .ok (.if_icmp .ge 10, 3) := by decide +kernel
theorem dX0_follow_207 : decode cX0_follow 207 = .ok (.iconst 1, 1) := by decide +kernel
theorem dX0_follow_208 : decode cX0_follow 208 = .ok (.iload 6, 2) := by decide +kernel
theorem dX0_follow_210 : decode cX0_follow 210 = .ok (.ishl, 1) := by decide +kernel
theorem dX0_follow_211 : decode cX0_follow 211 = .ok (.goto 4, 3) := by decide +kernel
theorem dX0_follow_214 : decode cX0_follow 214 = .ok (.iconst 0, 1) := by decide +kernel
theorem dX0_follow_215 : decode cX0_follow 215 = .ok (.ior, 1) := by decide +kernel
theorem dX0_follow_216 : decode cX0_follow 216 = .ok (.iastore, 1) := by decide +kernel
theorem dX0_follow_217 : decode cX0_follow 217 = .ok (.iinc 6 1, 3) := by decide +kernel
theorem dX0_follow_220 : decode cX0_follow 220 = .ok (.goto (-119), 3) := by decide +kernel
theorem dX0_follow_223 : decode cX0_follow 223 = .ok (.aload_n 0, 1) := by decide +kernel
theorem dX0_follow_224 : decode cX0_follow 224 = .ok (.getfield 9, 3) := by decide +kernel
theorem dX0_follow_227 : decode cX0_follow 227 = .ok (.iload 4, 2) := by decide +kernel
theorem dX0_follow_229 : decode cX0_follow 229 = .ok (.iload_n 3, 1) := by decide +kernel
theorem dX0_follow_230 : decode cX0_follow 230 = .ok (.iastore, 1) := by decide +kernel
theorem dX0_follow_231 : decode cX0_follow 231 = .ok (.iinc 4 1, 3) := by decide +kernel
theorem dX0_follow_234 : decode cX0_follow 234 = .ok (.goto (-221), 3) := by decide +kernel
theorem dX0_follow_237 : decode cX0_follow 237 = .ok (.return_, 1) := by decide +kernel
theorem dX0_draw_0 : decode cX0_draw 0 = .ok (.iload_n 3, 1) := by decide +kernel
theorem dX0_draw_1 : decode cX0_draw 1 = .ok (.istore 4, 2) := by decide +kernel
theorem dX0_draw_3 : decode cX0_draw 3 = .ok (.iload_n 2, 1) := by decide +kernel
theorem dX0_draw_4 : decode cX0_draw 4 = .ok (.istore 5, 2) := by decide +kernel
theorem dX0_draw_6 : decode cX0_draw 6 = .ok (.iconst 0, 1) := by decide +kernel
theorem dX0_draw_7 : decode cX0_draw 7 = .ok (.istore 6, 2) := by decide +kernel
theorem dX0_draw_9 : decode cX0_draw 9 = .ok (.iload 6, 2) := by decide +kernel
theorem dX0_draw_11 : decode cX0_draw 11 = .ok (.bipush 8, 2) := by decide +kernel
theorem dX0_draw_13 : decode cX0_draw 13 = .ok (.if_icmp .ge 53, 3) := by decide +kernel
theorem dX0_draw_16 : decode cX0_draw 16 = .ok (.iload 5, 2) := by decide +kernel
theorem dX0_draw_18 : decode cX0_draw 18 = .ok (.ifCond .lt 48, 3) := by decide +kernel
theorem dX0_draw_21 : decode cX0_draw 21 = .ok (.iload 5, 2) := by decide +kernel
theorem dX0_draw_23 : decode cX0_draw 23 = .ok (.bipush 8, 2) := by decide +kernel
theorem dX0_draw_25 : decode cX0_draw 25 = .ok (.if_icmp .ge 41, 3) := by decide +kernel
theorem dX0_draw_28 : decode cX0_draw 28 = .ok (.aload_n 0, 1) := by decide +kernel
theorem dX0_draw_29 : decode cX0_draw 29 = .ok (.getfield 27, 3) := by decide +kernel
theorem dX0_draw_32 : decode cX0_draw 32 = .ok (.iload 5, 2) := by decide +kernel
theorem dX0_draw_34 : decode cX0_draw 34 = .ok (.iaload, 1) := by decide +kernel
theorem dX0_draw_35 : decode cX0_draw 35 = .ok (.iload 4, 2) := by decide +kernel
theorem dX0_draw_37 : decode cX0_draw 37 = .ok (.if_icmp .ge 13, 3) := by decide +kernel
theorem dX0_draw_40 : decode cX0_draw 40 = .ok (.aload_n 0, 1) := by decide +kernel
theorem dX0_draw_41 : decode cX0_draw 41 = .ok (.getfield 27, 3) := by decide +kernel
theorem dX0_draw_44 : decode cX0_draw 44 = .ok (.iload 5, 2) := by decide +kernel
theorem dX0_draw_46 : decode cX0_draw 46 = .ok (.iaload, 1) := by decide +kernel
theorem dX0_draw_47 : decode cX0_draw 47 = .ok (.goto 5, 3) := by decide +kernel
theorem dX0_draw_50 : decode cX0_draw 50 = .ok (.iload 4, 2) := by decide +kernel
theorem dX0_draw_52 : decode cX0_draw 52 = .ok (.istore 4, 2) := by decide +kernel
theorem dX0_draw_54 : decode cX0_draw 54 = .ok (.aload_n 1, 1) := by decide +kernel
theorem dX0_draw_55 : decode cX0_draw 55 = .ok (.iload 5, 2) := by decide +kernel
theorem dX0_draw_57 : decode cX0_draw 57 = .ok (.iaload, 1) := by decide +kernel
theorem dX0_draw_58 : decode cX0_draw 58 = .ok (.istore 5, 2) := by decide +kernel
theorem dX0_draw_60 : decode cX0_draw 60 = .ok (.iinc 6 1, 3) := by decide +kernel
theorem dX0_draw_63 : decode cX0_draw 63 = .ok (.goto (-54), 3) := by decide +kernel
theorem dX0_draw_66 : decode cX0_draw 66 = .ok (.iload_n 2, 1) := by decide +kernel
theorem dX0_draw_67 : decode cX0_draw 67 = .ok (.istore 5, 2) := by decide +kernel
theorem dX0_draw_69 : decode cX0_draw 69 = .ok (.iconst 0, 1) := by decide +kernel
theorem dX0_draw_70 : decode cX0_draw 70 = .ok (.istore 6, 2) := by decide +kernel
theorem dX0_draw_72 : decode cX0_draw 72 = .ok (.iload 6, 2) := by decide +kernel
theorem dX0_draw_74 : decode cX0_draw 74 = .ok (.bipush 8, 2) := by decide +kernel
theorem dX0_draw_76 : decode cX0_draw 76 = .ok (.if_icmp .ge 39, 3) := by decide +kernel
theorem dX0_draw_79 : decode cX0_draw 79 = .ok (.iload 5, 2) := by decide +kernel
theorem dX0_draw_81 : decode cX0_draw 81 = .ok (.ifCond .lt 34, 3) := by decide +kernel
theorem dX0_draw_84 : decode cX0_draw 84 = .ok (.iload 5, 2) := by decide +kernel
theorem dX0_draw_86 : decode cX0_draw 86 = .ok (.bipush 8, 2) := by decide +kernel
theorem dX0_draw_88 : decode cX0_draw 88 = .ok (.if_icmp .ge 27, 3) := by decide +kernel
theorem dX0_draw_91 : decode cX0_draw 91 = .ok (.aload_n 0, 1) := by decide +kernel
theorem dX0_draw_92 : decode cX0_draw 92 = .ok (.getfield 27, 3) := by decide +kernel
theorem dX0_draw_95 : decode cX0_draw 95 = .ok (.iload 5, 2) := by decide +kernel
theorem dX0_draw_97 : decode cX0_draw 97 = .ok (.dup2, 1) := by decide +kernel
theorem dX0_draw_98 : decode cX0_draw 98 = .ok (.iaload, 1) := by decide +kernel
theorem dX0_draw_99 : decode cX0_draw 99 = .ok (.iload 4, 2) := by decide +kernel
theorem dX0_draw_101 : decode cX0_draw 101 = .ok (.isub, 1) := by decide +kernel
theorem dX0_draw_102 : decode cX0_draw 102 = .ok (.iastore, 1) := by decide +kernel
theorem dX0_draw_103 : decode cX0_draw 103 = .ok (.aload_n 1, 1) := by decide +kernel
theorem dX0_draw_104 : decode cX0_draw 104 = .ok (.iload 5, 2) := by decide +kernel
theorem dX0_draw_106 : decode cX0_draw 106 = .ok (.iaload, 1) := by decide +kernel
theorem dX0_draw_107 : decode cX0_draw 107 = .ok (.istore 5, 2) := by decide +kernel
theorem dX0_draw_109 : decode cX0_draw 109 = .ok (.iinc 6 1, 3) := by decide +kernel
theorem dX0_draw_112 : decode cX0_draw 112 = .ok (.goto (-40), 3) := by decide +kernel
theorem dX0_draw_115 : decode cX0_draw 115 = .ok (.iload 4, 2) := by decide +kernel
theorem dX0_draw_117 : decode cX0_draw 117 = .ok (.ireturn, 1) := by decide +kernel
theorem dX0_gotBy_0 : decode cX0_gotBy 0 = .ok (.iload_n 1, 1) := by decide +kernel
theorem dX0_gotBy_1 : decode cX0_gotBy 1 = .ok (.iconst 0, 1) := by decide +kernel
theorem dX0_gotBy_2 : decode cX0_gotBy 2 = .ok (.bipush 39, 2) := by decide +kernel
theorem dX0_gotBy_4 : decode cX0_gotBy 4 = .ok (.invokestatic 84, 3) := by decide +kernel
theorem dX0_gotBy_7 : decode cX0_gotBy 7 = .ok (.ifCond .eq 27, 3) := by decide +kernel
theorem dX0_gotBy_10 : decode cX0_gotBy 10 = .ok (.iload_n 2, 1) := by decide +kernel
theorem dX0_gotBy_11 : decode cX0_gotBy 11 = .ok (.iconst 0, 1) := by decide +kernel
theorem dX0_gotBy_12 : decode cX0_gotBy 12 = .ok (.bipush 7, 2) := by decide +kernel
theorem dX0_gotBy_14 : decode cX0_gotBy 14 = .ok (.invokestatic 84, 3) := by decide +kernel
theorem dX0_gotBy_17 : decode cX0_gotBy 17 = .ok (.ifCond .eq 17, 3) := by decide +kernel
theorem dX0_gotBy_20 : decode cX0_gotBy 20 = .ok (.aload_n 0, 1) := by decide +kernel
theorem dX0_gotBy_21 : decode cX0_gotBy 21 = .ok (.getfield 24, 3) := by decide +kernel
theorem dX0_gotBy_24 : decode cX0_gotBy 24 = .ok (.iload_n 1, 1) := by decide +kernel
theorem dX0_gotBy_25 : decode cX0_gotBy 25 = .ok (.bipush 8, 2) := by decide +kernel
theorem dX0_gotBy_27 : decode cX0_gotBy 27 = .ok (.imul, 1) := by decide +kernel
theorem dX0_gotBy_28 : decode cX0_gotBy 28 = .ok (.iload_n 2, 1) := by decide +kernel
theorem dX0_gotBy_29 : decode cX0_gotBy 29 = .ok (.iadd, 1) := by decide +kernel
theorem dX0_gotBy_30 : decode cX0_gotBy 30 = .ok (.iaload, 1) := by decide +kernel
theorem dX0_gotBy_31 : decode cX0_gotBy 31 = .ok (.goto 4, 3) := by decide +kernel
theorem dX0_gotBy_34 : decode cX0_gotBy 34 = .ok (.iconst (-1), 1) := by decide +kernel
theorem dX0_gotBy_35 : decode cX0_gotBy 35 = .ok (.ireturn, 1) := by decide +kernel
theorem dX0_firstShort_0 : decode cX0_firstShort 0 = .ok (.iconst 0, 1) := by decide +kernel
theorem dX0_firstShort_1 : decode cX0_firstShort 1 = .ok (.istore_n 2, 1) := by decide +kernel
theorem dX0_firstShort_2 : decode cX0_firstShort 2 = .ok (.iload_n 2, 1) := by decide +kernel
theorem dX0_firstShort_3 : decode cX0_firstShort 3 = .ok (.bipush 40, 2) := by decide +kernel
theorem dX0_firstShort_5 : decode cX0_firstShort 5 = .ok (.if_icmp .ge 22, 3) := by decide +kernel
theorem dX0_firstShort_8 : decode cX0_firstShort 8 = .ok (.aload_n 0, 1) := by decide +kernel
theorem dX0_firstShort_9 : decode cX0_firstShort 9 = .ok (.getfield 21, 3) := by decide +kernel
theorem dX0_firstShort_12 : decode cX0_firstShort 12 = .ok (.iload_n 2, 1) := by decide +kernel
theorem dX0_firstShort_13 : decode cX0_firstShort 13 = .ok (.iaload, 1) := by decide +kernel
theorem dX0_firstShort_14 : decode cX0_firstShort 14 = .ok (.iload_n 1, 1) := by decide +kernel
theorem dX0_firstShort_15 : decode cX0_firstShort 15 = .ok (.iand, 1) := by decide +kernel
theorem dX0_firstShort_16 : decode cX0_firstShort 16 = .ok (.ifCond .eq 5, 3) := by decide +kernel
theorem dX0_firstShort_19 : decode cX0_firstShort 19 = .ok (.iload_n 2, 1) := by decide +kernel
theorem dX0_firstShort_20 : decode cX0_firstShort 20 = .ok (.ireturn, 1) := by decide +kernel
theorem dX0_firstShort_21 : decode cX0_firstShort 21 = .ok (.iinc 2 1, 3) := by decide +kernel
theorem dX0_firstShort_24 : decode cX0_firstShort 24 = .ok (.goto (-22), 3) := by decide +kernel
theorem dX0_firstShort_27 : decode cX0_firstShort 27 = .ok (.iconst (-1), 1) := by decide +kernel
theorem dX0_firstShort_28 : decode cX0_firstShort 28 = .ok (.ireturn, 1) := by decide +kernel
theorem dX0_shortHours_0 : decode cX0_shortHours 0 = .ok (.iconst 0, 1) := by decide +kernel
theorem dX0_shortHours_1 : decode cX0_shortHours 1 = .ok (.istore_n 2, 1) := by decide +kernel
theorem dX0_shortHours_2 : decode cX0_shortHours 2 = .ok (.iconst 0, 1) := by decide +kernel
theorem dX0_shortHours_3 : decode cX0_shortHours 3 = .ok (.istore_n 3, 1) := by decide +kernel
theorem dX0_shortHours_4 : decode cX0_shortHours 4 = .ok (.iload_n 3, 1) := by decide +kernel
theorem dX0_shortHours_5 : decode cX0_shortHours 5 = .ok (.bipush 40, 2) := by decide +kernel
theorem dX0_shortHours_7 : decode cX0_shortHours 7 = .ok (.if_icmp .ge 22, 3) := by decide +kernel
theorem dX0_shortHours_10 : decode cX0_shortHours 10 = .ok (.iload_n 2, 1) := by decide +kernel
theorem dX0_shortHours_11 : decode cX0_shortHours 11 = .ok (.aload_n 0, 1) := by decide +kernel
theorem dX0_shortHours_12 : decode cX0_shortHours 12 = .ok (.getfield 21, 3) := by decide +kernel
theorem dX0_shortHours_15 : decode cX0_shortHours 15 = .ok (.iload_n 3, 1) := by decide +kernel
theorem dX0_shortHours_16 : decode cX0_shortHours 16 = .ok (.iaload, 1) := by decide +kernel
theorem dX0_shortHours_17 : decode cX0_shortHours 17 = .ok (.iload_n 1, 1) := by decide +kernel
theorem dX0_shortHours_18 : decode cX0_shortHours 18 = .ok (.ishr, 1) := by decide +kernel
theorem dX0_shortHours_19 : decode cX0_shortHours 19 = .ok (.iconst 1, 1) := by decide +kernel
theorem dX0_shortHours_20 : decode cX0_shortHours 20 = .ok (.iand, 1) := by decide +kernel
theorem dX0_shortHours_21 : decode cX0_shortHours 21 = .ok (.iadd, 1) := by decide +kernel
theorem dX0_shortHours_22 : decode cX0_shortHours 22 = .ok (.istore_n 2, 1) := by decide +kernel
theorem dX0_shortHours_23 : decode cX0_shortHours 23 = .ok (.iinc 3 1, 3) := by decide +kernel
theorem dX0_shortHours_26 : decode cX0_shortHours 26 = .ok (.goto (-22), 3) := by decide +kernel
theorem dX0_shortHours_29 : decode cX0_shortHours 29 = .ok (.iload_n 2, 1) := by decide +kernel
theorem dX0_shortHours_30 : decode cX0_shortHours 30 = .ok (.ireturn, 1) := by decide +kernel
theorem dX0_shortsInAll_0 : decode cX0_shortsInAll 0 = .ok (.iconst 0, 1) := by decide +kernel
theorem dX0_shortsInAll_1 : decode cX0_shortsInAll 1 = .ok (.istore_n 1, 1) := by decide +kernel
theorem dX0_shortsInAll_2 : decode cX0_shortsInAll 2 = .ok (.iconst 0, 1) := by decide +kernel
theorem dX0_shortsInAll_3 : decode cX0_shortsInAll 3 = .ok (.istore_n 2, 1) := by decide +kernel
theorem dX0_shortsInAll_4 : decode cX0_shortsInAll 4 = .ok (.iload_n 2, 1) := by decide +kernel
theorem dX0_shortsInAll_5 : decode cX0_shortsInAll 5 = .ok (.bipush 40, 2) := by decide +kernel
theorem dX0_shortsInAll_7 : decode cX0_shortsInAll 7 = .ok (.if_icmp .ge 21, 3) := by decide +kernel
theorem dX0_shortsInAll_10 : decode cX0_shortsInAll 10 = .ok (.iload_n 1, 1) := by decide +kernel
theorem dX0_shortsInAll_11 : decode cX0_shortsInAll 11 = .ok (.aload_n 0, 1) := by decide +kernel
theorem dX0_shortsInAll_12 : decode cX0_shortsInAll 12 = .ok (.getfield 21, 3) := by decide +kernel
theorem dX0_shortsInAll_15 : decode cX0_shortsInAll 15 = .ok (.iload_n 2, 1) := by decide +kernel
theorem dX0_shortsInAll_16 : decode cX0_shortsInAll 16 = .ok (.iaload, 1) := by decide +kernel
theorem dX0_shortsInAll_17 : decode cX0_shortsInAll 17 = .ok (.invokestatic 88, 3) := by decide +kernel
theorem dX0_shortsInAll_20 : decode cX0_shortsInAll 20 = .ok (.iadd, 1) := by decide +kernel
theorem dX0_shortsInAll_21 : decode cX0_shortsInAll 21 = .ok (.istore_n 1, 1) := by decide +kernel
theorem dX0_shortsInAll_22 : decode cX0_shortsInAll 22 = .ok (.iinc 2 1, 3) := by decide +kernel
theorem dX0_shortsInAll_25 : decode cX0_shortsInAll 25 = .ok (.goto (-21), 3) := by decide +kernel
theorem dX0_shortsInAll_28 : decode cX0_shortsInAll 28 = .ok (.iload_n 1, 1) := by decide +kernel
theorem dX0_shortsInAll_29 : decode cX0_shortsInAll 29 = .ok (.ireturn, 1) := by decide +kernel
theorem dX0_everShort_0 : decode cX0_everShort 0 = .ok (.iconst 0, 1) := by decide +kernel
theorem dX0_everShort_1 : decode cX0_everShort 1 = .ok (.istore_n 1, 1) := by decide +kernel
theorem dX0_everShort_2 : decode cX0_everShort 2 = .ok (.iconst 0, 1) := by decide +kernel
theorem dX0_everShort_3 : decode cX0_everShort 3 = .ok (.istore_n 2, 1) := by decide +kernel
theorem dX0_everShort_4 : decode cX0_everShort 4 = .ok (.iload_n 2, 1) := by decide +kernel
theorem dX0_everShort_5 : decode cX0_everShort 5 = .ok (.bipush 40, 2) := by decide +kernel
theorem dX0_everShort_7 : decode cX0_everShort 7 = .ok (.if_icmp .ge 18, 3) := by decide +kernel
theorem dX0_everShort_10 : decode cX0_everShort 10 = .ok (.iload_n 1, 1) := by decide +kernel
theorem dX0_everShort_11 : decode cX0_everShort 11 = .ok (.aload_n 0, 1) := by decide +kernel
theorem dX0_everShort_12 : decode cX0_everShort 12 = .ok (.getfield 21, 3) := by decide +kernel
theorem dX0_everShort_15 : decode cX0_everShort 15 = .ok (.iload_n 2, 1) := by decide +kernel
theorem dX0_everShort_16 : decode cX0_everShort 16 = .ok (.iaload, 1) := by decide +kernel
theorem dX0_everShort_17 : decode cX0_everShort 17 = .ok (.ior, 1) := by decide +kernel
theorem dX0_everShort_18 : decode cX0_everShort 18 = .ok (.istore_n 1, 1) := by decide +kernel
theorem dX0_everShort_19 : decode cX0_everShort 19 = .ok (.iinc 2 1, 3) := by decide +kernel
theorem dX0_everShort_22 : decode cX0_everShort 22 = .ok (.goto (-18), 3) := by decide +kernel
theorem dX0_everShort_25 : decode cX0_everShort 25 = .ok (.iload_n 1, 1) := by decide +kernel
theorem dX0_everShort_26 : decode cX0_everShort 26 = .ok (.ireturn, 1) := by decide +kernel
theorem dX1_init_0 : decode cX1_init 0 = .ok (.aload_n 0, 1) := by decide +kernel
theorem dX1_init_1 : decode cX1_init 1 = .ok (.invokespecial 3, 3) := by decide +kernel
theorem dX1_init_4 : decode cX1_init 4 = .ok (.aload_n 0, 1) := by decide +kernel
theorem dX1_init_5 : decode cX1_init 5 = .ok (.iconst 4, 1) := by decide +kernel
theorem dX1_init_6 : decode cX1_init 6 = .ok (.newarray .int, 2) := by decide +kernel
theorem dX1_init_8 : decode cX1_init 8 = .ok (.putfield 9, 3) := by decide +kernel
theorem dX1_init_11 : decode cX1_init 11 = .ok (.aload_n 0, 1) := by decide +kernel
theorem dX1_init_12 : decode cX1_init 12 = .ok (.iconst 4, 1) := by decide +kernel
theorem dX1_init_13 : decode cX1_init 13 = .ok (.newarray .int, 2) := by decide +kernel
theorem dX1_init_15 : decode cX1_init 15 = .ok (.putfield 15, 3) := by decide +kernel
theorem dX1_init_18 : decode cX1_init 18 = .ok (.aload_n 0, 1) := by decide +kernel
theorem dX1_init_19 : decode cX1_init 19 = .ok (.sipush 240, 3) := by decide +kernel
theorem dX1_init_22 : decode cX1_init 22 = .ok (.newarray .int, 2) := by decide +kernel
theorem dX1_init_24 : decode cX1_init 24 = .ok (.putfield 18, 3) := by decide +kernel
theorem dX1_init_27 : decode cX1_init 27 = .ok (.iconst 0, 1) := by decide +kernel
theorem dX1_init_28 : decode cX1_init 28 = .ok (.istore_n 1, 1) := by decide +kernel
theorem dX1_init_29 : decode cX1_init 29 = .ok (.iload_n 1, 1) := by decide +kernel
theorem dX1_init_30 : decode cX1_init 30 = .ok (.iconst 4, 1) := by decide +kernel
theorem dX1_init_31 : decode cX1_init 31 = .ok (.if_icmp .ge 16, 3) := by decide +kernel
theorem dX1_init_34 : decode cX1_init 34 = .ok (.aload_n 0, 1) := by decide +kernel
theorem dX1_init_35 : decode cX1_init 35 = .ok (.getfield 9, 3) := by decide +kernel
theorem dX1_init_38 : decode cX1_init 38 = .ok (.iload_n 1, 1) := by decide +kernel
theorem dX1_init_39 : decode cX1_init 39 = .ok (.iconst (-1), 1) := by decide +kernel
theorem dX1_init_40 : decode cX1_init 40 = .ok (.iastore, 1) := by decide +kernel
theorem dX1_init_41 : decode cX1_init 41 = .ok (.iinc 1 1, 3) := by decide +kernel
theorem dX1_init_44 : decode cX1_init 44 = .ok (.goto (-15), 3) := by decide +kernel
theorem dX1_init_47 : decode cX1_init 47 = .ok (.return_, 1) := by decide +kernel
theorem dX1_isLost_0 : decode cX1_isLost 0 = .ok (.aload_n 0, 1) := by decide +kernel
theorem dX1_isLost_1 : decode cX1_isLost 1 = .ok (.getfield 9, 3) := by decide +kernel
theorem dX1_isLost_4 : decode cX1_isLost 4 = .ok (.iload_n 1, 1) := by decide +kernel
theorem dX1_isLost_5 : decode cX1_isLost 5 = .ok (.iaload, 1) := by decide +kernel
theorem dX1_isLost_6 : decode cX1_isLost 6 = .ok (.iconst (-1), 1) := by decide +kernel
theorem dX1_isLost_7 : decode cX1_isLost 7 = .ok (.if_icmp .ne 7, 3) := by decide +kernel
theorem dX1_isLost_10 : decode cX1_isLost 10 = .ok (.iconst 1, 1) := by decide +kernel
theorem dX1_isLost_11 : decode cX1_isLost 11 = .ok (.goto 4, 3) := by decide +kernel
theorem dX1_isLost_14 : decode cX1_isLost 14 = .ok (.iconst 0, 1) := by decide +kernel
theorem dX1_isLost_15 : decode cX1_isLost 15 = .ok (.ireturn, 1) := by decide +kernel
theorem dX1_renew_0 : decode cX1_renew 0 = .ok (.aload_n 0, 1) := by decide +kernel
theorem dX1_renew_1 : decode cX1_renew 1 = .ok (.getfield 9, 3) := by decide +kernel
theorem dX1_renew_4 : decode cX1_renew 4 = .ok (.iload_n 1, 1) := by decide +kernel
theorem dX1_renew_5 : decode cX1_renew 5 = .ok (.iload_n 2, 1) := by decide +kernel
theorem dX1_renew_6 : decode cX1_renew 6 = .ok (.iastore, 1) := by decide +kernel
theorem dX1_renew_7 : decode cX1_renew 7 = .ok (.aload_n 0, 1) := by decide +kernel
theorem dX1_renew_8 : decode cX1_renew 8 = .ok (.getfield 15, 3) := by decide +kernel
theorem dX1_renew_11 : decode cX1_renew 11 = .ok (.iload_n 1, 1) := by decide +kernel
theorem dX1_renew_12 : decode cX1_renew 12 = .ok (.iload_n 3, 1) := by decide +kernel
theorem dX1_renew_13 : decode cX1_renew 13 = .ok (.iastore, 1) := by decide +kernel
theorem dX1_renew_14 : decode cX1_renew 14 = .ok (.iconst 0, 1) := by decide +kernel
theorem dX1_renew_15 : decode cX1_renew 15 = .ok (.istore 4, 2) := by decide +kernel
theorem dX1_renew_17 : decode cX1_renew 17 = .ok (.iload 4, 2) := by decide +kernel
theorem dX1_renew_19 : decode cX1_renew 19 = .ok (.bipush 60, 2) := by decide +kernel
theorem dX1_renew_21 : decode cX1_renew 21 = .ok (.if_icmp .ge 22, 3) := by decide +kernel
theorem dX1_renew_24 : decode cX1_renew 24 = .ok (.aload_n 0, 1) := by decide +kernel
theorem dX1_renew_25 : decode cX1_renew 25 = .ok (.getfield 18, 3) := by decide +kernel
theorem dX1_renew_28 : decode cX1_renew 28 = .ok (.iload_n 1, 1) := by decide +kernel
theorem dX1_renew_29 : decode cX1_renew 29 = .ok (.bipush 60, 2) := by decide +kernel
theorem dX1_renew_31 : decode cX1_renew 31 = .ok (.imul, 1) := by decide +kernel
theorem dX1_renew_32 : decode cX1_renew 32 = .ok (.iload 4, 2) := by decide +kernel
theorem dX1_renew_34 : decode cX1_renew 34 = .ok (.iadd, 1) := by decide +kernel
theorem dX1_renew_35 : decode cX1_renew 35 = .ok (.iconst 0, 1) := by decide +kernel
theorem dX1_renew_36 : decode cX1_renew 36 = .ok (.iastore, 1) := by decide +kernel
theorem dX1_renew_37 : decode cX1_renew 37 = .ok (.iinc 4 1, 3) := by decide +kernel
theorem dX1_renew_40 : decode cX1_renew 40 = .ok (.goto (-23), 3) := by decide +kernel
theorem dX1_renew_43 : decode cX1_renew 43 = .ok (.return_, 1) := by decide +kernel
theorem dX1_drop_0 : decode cX1_drop 0 = .ok (.aload_n 0, 1) := by decide +kernel
theorem dX1_drop_1 : decode cX1_drop 1 = .ok (.getfield 9, 3) := by decide +kernel
theorem dX1_drop_4 : decode cX1_drop 4 = .ok (.iload_n 1, 1) := by decide +kernel
theorem dX1_drop_5 : decode cX1_drop 5 = .ok (.iconst (-1), 1) := by decide +kernel
theorem dX1_drop_6 : decode cX1_drop 6 = .ok (.iastore, 1) := by decide +kernel
theorem dX1_drop_7 : decode cX1_drop 7 = .ok (.aload_n 0, 1) := by decide +kernel
theorem dX1_drop_8 : decode cX1_drop 8 = .ok (.getfield 15, 3) := by decide +kernel
theorem dX1_drop_11 : decode cX1_drop 11 = .ok (.iload_n 1, 1) := by decide +kernel
theorem dX1_drop_12 : decode cX1_drop 12 = .ok (.iconst 0, 1) := by decide +kernel
theorem dX1_drop_13 : decode cX1_drop 13 = .ok (.iastore, 1) := by decide +kernel
theorem dX1_drop_14 : decode cX1_drop 14 = .ok (.return_, 1) := by decide +kernel
theorem dX1_has_0 : decode cX1_has 0 = .ok (.iload_n 2, 1) := by decide +kernel
theorem dX1_has_1 : decode cX1_has 1 = .ok (.ifCond .lt 23, 3) := by decide +kernel
theorem dX1_has_4 : decode cX1_has 4 = .ok (.iload_n 3, 1) := by decide +kernel
theorem dX1_has_5 : decode cX1_has 5 = .ok (.ifCond .lt 19, 3) := by decide +kernel
theorem dX1_has_8 : decode cX1_has 8 = .ok (.iload_n 2, 1) := by decide +kernel
theorem dX1_has_9 : decode cX1_has 9 = .ok (.aload_n 0, 1) := by decide +kernel
theorem dX1_has_10 : decode cX1_has 10 = .ok (.getfield 15, 3) := by decide +kernel
theorem dX1_has_13 : decode cX1_has 13 = .ok (.iload_n 1, 1) := by decide +kernel
theorem dX1_has_14 : decode cX1_has 14 = .ok (.iaload, 1) := by decide +kernel
theorem dX1_has_15 : decode cX1_has 15 = .ok (.iload_n 3, 1) := by decide +kernel
theorem dX1_has_16 : decode cX1_has 16 = .ok (.isub, 1) := by decide +kernel
theorem dX1_has_17 : decode cX1_has 17 = .ok (.if_icmp .gt 7, 3) := by decide +kernel
theorem dX1_has_20 : decode cX1_has 20 = .ok (.iconst 1, 1) := by decide +kernel
theorem dX1_has_21 : decode cX1_has 21 = .ok (.goto 4, 3) := by decide +kernel
theorem dX1_has_24 : decode cX1_has 24 = .ok (.iconst 0, 1) := by decide +kernel
theorem dX1_has_25 : decode cX1_has 25 = .ok (.ireturn, 1) := by decide +kernel
theorem dX1_item_0 : decode cX1_item 0 = .ok (.aload_n 0, 1) := by decide +kernel
theorem dX1_item_1 : decode cX1_item 1 = .ok (.iload_n 1, 1) := by decide +kernel
theorem dX1_item_2 : decode cX1_item 2 = .ok (.iload_n 2, 1) := by decide +kernel
theorem dX1_item_3 : decode cX1_item 3 = .ok (.iconst 1, 1) := by decide +kernel
theorem dX1_item_4 : decode cX1_item 4 = .ok (.invokevirtual 21, 3) := by decide +kernel
theorem dX1_item_7 : decode cX1_item 7 = .ok (.ifCond .eq 17, 3) := by decide +kernel
theorem dX1_item_10 : decode cX1_item 10 = .ok (.aload_n 0, 1) := by decide +kernel
theorem dX1_item_11 : decode cX1_item 11 = .ok (.getfield 18, 3) := by decide +kernel
theorem dX1_item_14 : decode cX1_item 14 = .ok (.iload_n 1, 1) := by decide +kernel
theorem dX1_item_15 : decode cX1_item 15 = .ok (.bipush 60, 2) := by decide +kernel
theorem dX1_item_17 : decode cX1_item 17 = .ok (.imul, 1) := by decide +kernel
theorem dX1_item_18 : decode cX1_item 18 = .ok (.iload_n 2, 1) := by decide +kernel
theorem dX1_item_19 : decode cX1_item 19 = .ok (.iadd, 1) := by decide +kernel
theorem dX1_item_20 : decode cX1_item 20 = .ok (.iaload, 1) := by decide +kernel
theorem dX1_item_21 : decode cX1_item 21 = .ok (.goto 4, 3) := by decide +kernel
theorem dX1_item_24 : decode cX1_item 24 = .ok (.iconst (-1), 1) := by decide +kernel
theorem dX1_item_25 : decode cX1_item 25 = .ok (.ireturn, 1) := by decide +kernel
theorem dX1_store_0 : decode cX1_store 0 = .ok (.aload_n 0, 1) := by decide +kernel
theorem dX1_store_1 : decode cX1_store 1 = .ok (.iload_n 1, 1) := by decide +kernel
theorem dX1_store_2 : decode cX1_store 2 = .ok (.iload_n 2, 1) := by decide +kernel
theorem dX1_store_3 : decode cX1_store 3 = .ok (.iconst 1, 1) := by decide +kernel
theorem dX1_store_4 : decode cX1_store 4 = .ok (.invokevirtual 21, 3) := by decide +kernel
theorem dX1_store_7 : decode cX1_store 7 = .ok (.ifCond .eq 44, 3) := by decide +kernel
theorem dX1_store_10 : decode cX1_store 10 = .ok (.aload_n 0, 1) := by decide +kernel
theorem dX1_store_11 : decode cX1_store 11 = .ok (.getfield 18, 3) := by decide +kernel
theorem dX1_store_14 : decode cX1_store 14 = .ok (.iload_n 1, 1) := by decide +kernel
theorem dX1_store_15 : decode cX1_store 15 = .ok (.bipush 60, 2) := by decide +kernel
theorem dX1_store_17 : decode cX1_store 17 = .ok (.imul, 1) := by decide +kernel
theorem dX1_store_18 : decode cX1_store 18 = .ok (.iload_n 2, 1) := by decide +kernel
theorem dX1_store_19 : decode cX1_store 19 = .ok (.iadd, 1) := by decide +kernel
theorem dX1_store_20 : decode cX1_store 20 = .ok (.aload_n 0, 1) := by decide +kernel
theorem dX1_store_21 : decode cX1_store 21 = .ok (.getfield 9, 3) := by decide +kernel
theorem dX1_store_24 : decode cX1_store 24 = .ok (.iload_n 1, 1) := by decide +kernel
theorem dX1_store_25 : decode cX1_store 25 = .ok (.iaload, 1) := by decide +kernel
theorem dX1_store_26 : decode cX1_store 26 = .ok (.ifCond .ne 8, 3) := by decide +kernel
theorem dX1_store_29 : decode cX1_store 29 = .ok (.iload_n 3, 1) := by decide +kernel
theorem dX1_store_30 : decode cX1_store 30 = .ok (.i2b, 1) := by decide +kernel
theorem dX1_store_31 : decode cX1_store 31 = .ok (.goto 19, 3) := by decide +kernel
theorem dX1_store_34 : decode cX1_store 34 = .ok (.aload_n 0, 1) := by decide +kernel
theorem dX1_store_35 : decode cX1_store 35 = .ok (.getfield 9, 3) := by decide +kernel
theorem dX1_store_38 : decode cX1_store 38 = .ok (.iload_n 1, 1) := by decide +kernel
theorem dX1_store_39 : decode cX1_store 39 = .ok (.iaload, 1) := by decide +kernel
theorem dX1_store_40 : decode cX1_store 40 = .ok (.iconst 1, 1) := by decide +kernel
theorem dX1_store_41 : decode cX1_store 41 = .ok (.if_icmp .ne 8, 3) := by decide +kernel
theorem dX1_store_44 : decode cX1_store 44 = .ok (.iload_n 3, 1) := by decide +kernel
theorem dX1_store_45 : decode cX1_store 45 = .ok (.i2s, 1) := by decide +kernel
theorem dX1_store_46 : decode cX1_store 46 = .ok (.goto 4, 3) := by decide +kernel
theorem dX1_store_49 : decode cX1_store 49 = .ok (.iload_n 3, 1) := by decide +kernel
theorem dX1_store_50 : decode cX1_store 50 = .ok (.iastore, 1) := by decide +kernel
theorem dX1_store_51 : decode cX1_store 51 = .ok (.return_, 1) := by decide +kernel
theorem dX1_move_0 : decode cX1_move 0 = .ok (.aload_n 0, 1) := by decide +kernel
theorem dX1_move_1 : decode cX1_move 1 = .ok (.getfield 18, 3) := by decide +kernel
theorem dX1_move_4 : decode cX1_move 4 = .ok (.iload_n 1, 1) := by decide +kernel
theorem dX1_move_5 : decode cX1_move 5 = .ok (.bipush 60, 2) := by decide +kernel
theorem dX1_move_7 : decode cX1_move 7 = .ok (.imul, 1) := by decide +kernel
theorem dX1_move_8 : decode cX1_move 8 = .ok (.iload_n 2, 1) := by decide +kernel
theorem dX1_move_9 : decode cX1_move 9 = .ok (.iadd, 1) := by decide +kernel
theorem dX1_move_10 : decode cX1_move 10 = .ok (.aload_n 0, 1) := by decide +kernel
theorem dX1_move_11 : decode cX1_move 11 = .ok (.getfield 18, 3) := by decide +kernel
theorem dX1_move_14 : decode cX1_move 14 = .ok (.iload_n 3, 1) := by decide +kernel
theorem dX1_move_15 : decode cX1_move 15 = .ok (.bipush 60, 2) := by decide +kernel
theorem dX1_move_17 : decode cX1_move 17 = .ok (.imul, 1) := by decide +kernel
theorem dX1_move_18 : decode cX1_move 18 = .ok (.iload 4, 2) := by decide +kernel
theorem dX1_move_20 : decode cX1_move 20 = .ok (.iadd, 1) := by decide +kernel
theorem dX1_move_21 : decode cX1_move 21 = .ok (.iload 5, 2) := by decide +kernel
theorem dX1_move_23 : decode cX1_move 23 = .ok (.invokestatic 25, 3) := by decide +kernel
theorem dX1_move_26 : decode cX1_move 26 = .ok (.return_, 1) := by decide +kernel
theorem dX2_init_0 : decode cX2_init 0 = .ok (.aload_n 0, 1) := by decide +kernel
theorem dX2_init_1 : decode cX2_init 1 = .ok (.invokespecial 3, 3) := by decide +kernel
theorem dX2_init_4 : decode cX2_init 4 = .ok (.aload_n 0, 1) := by decide +kernel
theorem dX2_init_5 : decode cX2_init 5 = .ok (.bipush 8, 2) := by decide +kernel
theorem dX2_init_7 : decode cX2_init 7 = .ok (.newarray .int, 2) := by decide +kernel
theorem dX2_init_9 : decode cX2_init 9 = .ok (.putfield 9, 3) := by decide +kernel
theorem dX2_init_12 : decode cX2_init 12 = .ok (.aload_n 0, 1) := by decide +kernel
theorem dX2_init_13 : decode cX2_init 13 = .ok (.bipush 8, 2) := by decide +kernel
theorem dX2_init_15 : decode cX2_init 15 = .ok (.newarray .int, 2) := by decide +kernel
theorem dX2_init_17 : decode cX2_init 17 = .ok (.putfield 15, 3) := by decide +kernel
theorem dX2_init_20 : decode cX2_init 20 = .ok (.aload_n 0, 1) := by decide +kernel
theorem dX2_init_21 : decode cX2_init 21 = .ok (.bipush 8, 2) := by decide +kernel
theorem dX2_init_23 : decode cX2_init 23 = .ok (.newarray .int, 2) := by decide +kernel
theorem dX2_init_25 : decode cX2_init 25 = .ok (.putfield 18, 3) := by decide +kernel
theorem dX2_init_28 : decode cX2_init 28 = .ok (.aload_n 0, 1) := by decide +kernel
theorem dX2_init_29 : decode cX2_init 29 = .ok (.bipush 8, 2) := by decide +kernel
theorem dX2_init_31 : decode cX2_init 31 = .ok (.newarray .int, 2) := by decide +kernel
theorem dX2_init_33 : decode cX2_init 33 = .ok (.putfield 21, 3) := by decide +kernel
theorem dX2_init_36 : decode cX2_init 36 = .ok (.aload_n 0, 1) := by decide +kernel
theorem dX2_init_37 : decode cX2_init 37 = .ok (.bipush 24, 2) := by decide +kernel
theorem dX2_init_39 : decode cX2_init 39 = .ok (.newarray .int, 2) := by decide +kernel
theorem dX2_init_41 : decode cX2_init 41 = .ok (.putfield 24, 3) := by decide +kernel
theorem dX2_init_44 : decode cX2_init 44 = .ok (.aload_n 0, 1) := by decide +kernel
theorem dX2_init_45 : decode cX2_init 45 = .ok (.sipush 320, 3) := by decide +kernel
theorem dX2_init_48 : decode cX2_init 48 = .ok (.newarray .int, 2) := by decide +kernel
theorem dX2_init_50 : decode cX2_init 50 = .ok (.putfield 27, 3) := by decide +kernel
theorem dX2_init_53 : decode cX2_init 53 = .ok (.return_, 1) := by decide +kernel
theorem dX2_readFrom_0 : decode cX2_readFrom 0 = .ok (.aload_n 0, 1) := by decide +kernel
theorem dX2_readFrom_1 : decode cX2_readFrom 1 = .ok (.iconst 0, 1) := by decide +kernel
theorem dX2_readFrom_2 : decode cX2_readFrom 2 = .ok (.putfield 30, 3) := by decide +kernel
theorem dX2_readFrom_5 : decode cX2_readFrom 5 = .ok (.aload_n 1, 1) := by decide +kernel
theorem dX2_readFrom_6 : decode cX2_readFrom 6 = .ok (.getfield 34, 3) := by decide +kernel
theorem dX2_readFrom_9 : decode cX2_readFrom 9 = .ok (.ifCond .ne 5, 3) := by decide +kernel
theorem dX2_readFrom_12 : decode cX2_readFrom 12 = .ok (.iconst (-1), 1) := by decide +kernel
theorem dX2_readFrom_13 : decode cX2_readFrom 13 = .ok (.ireturn, 1) := by decide +kernel
theorem dX2_readFrom_14 : decode cX2_readFrom 14 = .ok (.iconst 0, 1) := by decide +kernel
theorem dX2_readFrom_15 : decode cX2_readFrom 15 = .ok (.istore_n 2, 1) := by decide +kernel
theorem dX2_readFrom_16 : decode cX2_readFrom 16 = .ok (.iconst 0, 1) := by decide +kernel
theorem dX2_readFrom_17 : decode cX2_readFrom 17 = .ok (.istore_n 3, 1) := by decide +kernel
theorem dX2_readFrom_18 : decode cX2_readFrom 18 = .ok (.iconst 0, 1) := by decide +kernel
theorem dX2_readFrom_19 : decode cX2_readFrom 19 = .ok (.istore 4, 2) := by decide +kernel
theorem dX2_readFrom_21 : decode cX2_readFrom 21 = .ok (.iload 4, 2) := by decide +kernel
theorem dX2_readFrom_23 : decode cX2_readFrom 23 = .ok (.aload_n 1, 1) := by decide +kernel
theorem dX2_readFrom_24 : decode cX2_readFrom 24 = .ok (.getfield 34, 3) := by decide +kernel
theorem dX2_readFrom_27 : decode cX2_readFrom 27 = .ok (.if_icmp .ge 58, 3) := by decide +kernel
theorem dX2_readFrom_30 : decode cX2_readFrom 30 = .ok (.aload_n 1, 1) := by decide +kernel
theorem dX2_readFrom_31 : decode cX2_readFrom 31 = .ok (.getfield 39, 3) := by decide +kernel
theorem dX2_readFrom_34 : decode cX2_readFrom 34 = .ok (.iload 4, 2) := by decide +kernel
theorem dX2_readFrom_36 : decode cX2_readFrom 36 = .ok (.iaload, 1) := by decide +kernel
theorem dX2_readFrom_37 : decode cX2_readFrom 37 = .ok (.istore 5, 2) := by decide +kernel
theorem dX2_readFrom_39 : decode cX2_readFrom 39 = .ok (.iload 5, 2) := by decide +kernel
theorem dX2_readFrom_41 : decode cX2_readFrom 41 = .ok (.bipush 59, 2) := by decide +kernel
theorem dX2_readFrom_43 : decode cX2_readFrom 43 = .ok (.if_icmp .ne 16, 3) := by decide +kernel
theorem dX2_readFrom_46 : decode cX2_readFrom 46 = .ok (.iload_n 3, 1) := by decide +kernel
theorem dX2_readFrom_47 : decode cX2_readFrom 47 = .ok (.iconst 3, 1) := by decide +kernel
theorem dX2_readFrom_48 : decode cX2_readFrom 48 = .ok (.if_icmp .le 11, 3) := by decide +kernel
theorem dX2_readFrom_51 : decode cX2_readFrom 51 = .ok (.iinc 2 1, 3) := by decide +kernel
theorem dX2_readFrom_54 : decode cX2_readFrom 54 = .ok (.iconst 0, 1) := by decide +kernel
theorem dX2_readFrom_55 : decode cX2_readFrom 55 = .ok (.istore_n 3, 1) := by decide +kernel
theorem dX2_readFrom_56 : decode cX2_readFrom 56 = .ok (.goto 23, 3) := by decide +kernel
theorem dX2_readFrom_59 : decode cX2_readFrom 59 = .ok (.aload_n 0, 1) := by decide +kernel
theorem dX2_readFrom_60 : decode cX2_readFrom 60 = .ok (.iload_n 2, 1) := by decide +kernel
theorem dX2_readFrom_61 : decode cX2_readFrom 61 = .ok (.iload_n 3, 1) := by decide +kernel
theorem dX2_readFrom_62 : decode cX2_readFrom 62 = .ok (.iload 5, 2) := by decide +kernel
theorem dX2_readFrom_64 : decode cX2_readFrom 64 = .ok (.invokevirtual 42, 3) := by decide +kernel
theorem dX2_readFrom_67 : decode cX2_readFrom 67 = .ok (.ifCond .eq 9, 3) := by decide +kernel
theorem dX2_readFrom_70 : decode cX2_readFrom 70 = .ok (.iinc 3 1, 3) := by decide +kernel
theorem dX2_readFrom_73 : decode cX2_readFrom 73 = .ok (.goto 6, 3) := by decide +kernel
theorem dX2_readFrom_76 : decode cX2_readFrom 76 = .ok (.iload 4, 2) := by decide +kernel
theorem dX2_readFrom_78 : decode cX2_readFrom 78 = .ok (.ireturn, 1) := by decide +kernel
theorem dX2_readFrom_79 : decode cX2_readFrom 79 = .ok (.iinc 4 1, 3) := by decide +kernel
theorem dX2_readFrom_82 : decode cX2_readFrom 82 = .ok (.goto (-61), 3) := by decide +kernel
theorem dX2_readFrom_85 : decode cX2_readFrom 85 = .ok (.iload_n 3, 1) := by decide +kernel
theorem dX2_readFrom_86 : decode cX2_readFrom 86 = .ok (.iconst 3, 1) := by decide +kernel
theorem dX2_readFrom_87 : decode cX2_readFrom 87 = .ok (.if_icmp .gt 8, 3) := by decide +kernel
theorem dX2_readFrom_90 : decode cX2_readFrom 90 = .ok (.aload_n 1, 1) := by decide +kernel
theorem dX2_readFrom_91 : decode cX2_readFrom 91 = .ok (.getfield 34, 3) := by decide +kernel
theorem dX2_readFrom_94 : decode cX2_readFrom 94 = .ok (.ireturn, 1) := by decide +kernel
theorem dX2_readFrom_95 : decode cX2_readFrom 95 = .ok (.aload_n 0, 1) := by decide +kernel
theorem dX2_readFrom_96 : decode cX2_readFrom 96 = .ok (.iload_n 2, 1) := by decide +kernel
theorem dX2_readFrom_97 : decode cX2_readFrom 97 = .ok (.iconst 1, 1) := by decide +kernel
theorem dX2_readFrom_98 : decode cX2_readFrom 98 = .ok (.iadd, 1) := by decide +kernel
theorem dX2_readFrom_99 : decode cX2_readFrom 99 = .ok (.bipush 8, 2) := by decide +kernel
theorem dX2_readFrom_101 : decode cX2_readFrom 101 = .ok (.invokestatic 46, 3) := by decide +kernel
theorem dX2_readFrom_104 : decode cX2_readFrom 104 = .ok (.putfield 30, 3) := by decide +kernel
theorem dX2_readFrom_107 : decode cX2_readFrom 107 = .ok (.aload_n 0, 1) := by decide +kernel
theorem dX2_readFrom_108 : decode cX2_readFrom 108 = .ok (.invokevirtual 52, 3) := by decide +kernel
theorem dX2_readFrom_111 : decode cX2_readFrom 111 = .ok (.iconst (-1), 1) := by decide +kernel
theorem dX2_readFrom_112 : decode cX2_readFrom 112 = .ok (.ireturn, 1) := by decide +kernel
theorem dX2_takes_0 : decode cX2_takes 0 = .ok (.iload_n 1, 1) := by decide +kernel
theorem dX2_takes_1 : decode cX2_takes 1 = .ok (.iconst 0, 1) := by decide +kernel
theorem dX2_takes_2 : decode cX2_takes 2 = .ok (.bipush 7, 2) := by decide +kernel
theorem dX2_takes_4 : decode cX2_takes 4 = .ok (.invokestatic 55, 3) := by decide +kernel
theorem dX2_takes_7 : decode cX2_takes 7 = .ok (.ifCond .ne 5, 3) := by decide +kernel
theorem dX2_takes_10 : decode cX2_takes 10 = .ok (.iconst 0, 1) := by decide +kernel
theorem dX2_takes_11 : decode cX2_takes 11 = .ok (.ireturn, 1) := by decide +kernel
theorem dX2_takes_12 : decode cX2_takes 12 = .ok (.iload_n 2, 1) := by decide +kernel
theorem dX2_takes_13 : decode cX2_takes 13 = .ok (.tableswitch 115 0 2 #[27, 73, 94], 27) := by decide +kernel
theorem dX2_takes_40 : decode cX2_takes 40 = .ok (.aload_n 0, 1) := by decide +kernel
theorem dX2_takes_41 : decode cX2_takes 41 = .ok (.getfield 9, 3) := by decide +kernel
theorem dX2_takes_44 : decode cX2_takes 44 = .ok (.iload_n 1, 1) := by decide +kernel
theorem dX2_takes_45 : decode cX2_takes 45 = .ok (.iload_n 3, 1) := by decide +kernel
theorem dX2_takes_46 : decode cX2_takes 46 = .ok (.bipush 46, 2) := by decide +kernel
theorem dX2_takes_48 : decode cX2_takes 48 = .ok (.if_icmp .ne 7, 3) := by decide +kernel
theorem dX2_takes_51 : decode cX2_takes 51 = .ok (.iconst (-1), 1) := by decide +kernel
theorem dX2_takes_52 : decode cX2_takes 52 = .ok (.goto 7, 3) := by decide +kernel
theorem dX2_takes_55 : decode cX2_takes 55 = .ok (.iload_n 3, 1) := by decide +kernel
theorem dX2_takes_56 : decode cX2_takes 56 = .ok (.bipush 97, 2) := by decide +kernel
theorem dX2_takes_58 : decode cX2_takes 58 = .ok (.isub, 1) := by decide +kernel
theorem dX2_takes_59 : decode cX2_takes 59 = .ok (.iastore, 1) := by decide +kernel
theorem dX2_takes_60 : decode cX2_takes 60 = .ok (.iload_n 3, 1) := by decide +kernel
theorem dX2_takes_61 : decode cX2_takes 61 = .ok (.bipush 46, 2) := by decide +kernel
theorem dX2_takes_63 : decode cX2_takes 63 = .ok (.if_icmp .eq 17, 3) := by decide +kernel
theorem dX2_takes_66 : decode cX2_takes 66 = .ok (.iload_n 3, 1) := by decide +kernel
theorem dX2_takes_67 : decode cX2_takes 67 = .ok (.bipush 97, 2) := by decide +kernel
theorem dX2_takes_69 : decode cX2_takes 69 = .ok (.isub, 1) := by decide +kernel
theorem dX2_takes_70 : decode cX2_takes 70 = .ok (.iconst 0, 1) := by decide +kernel
theorem dX2_takes_71 : decode cX2_takes 71 = .ok (.iload_n 1, 1) := by decide +kernel
theorem dX2_takes_72 : decode cX2_takes 72 = .ok (.iconst 1, 1) := by decide +kernel
theorem dX2_takes_73 : decode cX2_takes 73 = .ok (.isub, 1) := by decide +kernel
theorem dX2_takes_74 : decode cX2_takes 74 = .ok (.invokestatic 55, 3) := by decide +kernel
theorem dX2_takes_77 : decode cX2_takes 77 = .ok (.ifCond .eq 7, 3) := by decide +kernel
theorem dX2_takes_80 : decode cX2_takes 80 = .ok (.iconst 1, 1) := by decide +kernel
theorem dX2_takes_81 : decode cX2_takes 81 = .ok (.goto 4, 3) := by decide +kernel
theorem dX2_takes_84 : decode cX2_takes 84 = .ok (.iconst 0, 1) := by decide +kernel
theorem dX2_takes_85 : decode cX2_takes 85 = .ok (.ireturn, 1) := by decide +kernel
theorem dX2_takes_86 : decode cX2_takes 86 = .ok (.aload_n 0, 1) := by decide +kernel
theorem dX2_takes_87 : decode cX2_takes 87 = .ok (.getfield 15, 3) := by decide +kernel
theorem dX2_takes_90 : decode cX2_takes 90 = .ok (.iload_n 1, 1) := by decide +kernel
theorem dX2_takes_91 : decode cX2_takes 91 = .ok (.iload_n 3, 1) := by decide +kernel
theorem dX2_takes_92 : decode cX2_takes 92 = .ok (.bipush 97, 2) := by decide +kernel
theorem dX2_takes_94 : decode cX2_takes 94 = .ok (.isub, 1) := by decide +kernel
theorem dX2_takes_95 : decode cX2_takes 95 = .ok (.iastore, 1) := by decide +kernel
theorem dX2_takes_96 : decode cX2_takes 96 = .ok (.iload_n 3, 1) := by decide +kernel
theorem dX2_takes_97 : decode cX2_takes 97 = .ok (.bipush 97, 2) := by decide +kernel
theorem dX2_takes_99 : decode cX2_takes 99 = .ok (.isub, 1) := by decide +kernel
theorem dX2_takes_100 : decode cX2_takes 100 = .ok (.iconst 0, 1) := by decide +kernel
theorem dX2_takes_101 : decode cX2_takes 101 = .ok (.bipush 6, 2) := by decide +kernel
theorem dX2_takes_103 : decode cX2_takes 103 = .ok (.invokestatic 55, 3) := by decide +kernel
theorem dX2_takes_106 : decode cX2_takes 106 = .ok (.ireturn, 1) := by decide +kernel
theorem dX2_takes_107 : decode cX2_takes 107 = .ok (.aload_n 0, 1) := by decide +kernel
theorem dX2_takes_108 : decode cX2_takes 108 = .ok (.getfield 18, 3) := by decide +kernel
theorem dX2_takes_111 : decode cX2_takes 111 = .ok (.iload_n 1, 1) := by decide +kernel
theorem dX2_takes_112 : decode cX2_takes 112 = .ok (.iload_n 3, 1) := by decide +kernel
theorem dX2_takes_113 : decode cX2_takes 113 = .ok (.bipush 48, 2) := by decide +kernel
theorem dX2_takes_115 : decode cX2_takes 115 = .ok (.isub, 1) := by decide +kernel
theorem dX2_takes_116 : decode cX2_takes 116 = .ok (.iastore, 1) := by decide +kernel
theorem dX2_takes_117 : decode cX2_takes 117 = .ok (.iload_n 3, 1) := by decide +kernel
theorem dX2_takes_118 : decode cX2_takes 118 = .ok (.bipush 48, 2) := by decide +kernel
theorem dX2_takes_120 : decode cX2_takes 120 = .ok (.isub, 1) := by decide +kernel
theorem dX2_takes_121 : decode cX2_takes 121 = .ok (.iconst 1, 1) := by decide +kernel
theorem dX2_takes_122 : decode cX2_takes 122 = .ok (.bipush 9, 2) := by decide +kernel
theorem dX2_takes_124 : decode cX2_takes 124 = .ok (.invokestatic 55, 3) := by decide +kernel
theorem dX2_takes_127 : decode cX2_takes 127 = .ok (.ireturn, 1) := by decide +kernel
theorem dX2_takes_128 : decode cX2_takes 128 = .ok (.aload_n 0, 1) := by decide +kernel
theorem dX2_takes_129 : decode cX2_takes 129 = .ok (.iload_n 1, 1) := by decide +kernel
theorem dX2_takes_130 : decode cX2_takes 130 = .ok (.iload_n 2, 1) := by decide +kernel
theorem dX2_takes_131 : decode cX2_takes 131 = .ok (.iconst 3, 1) := by decide +kernel
theorem dX2_takes_132 : decode cX2_takes 132 = .ok (.isub, 1) := by decide +kernel
theorem dX2_takes_133 : decode cX2_takes 133 = .ok (.iload_n 3, 1) := by decide +kernel
theorem dX2_takes_134 : decode cX2_takes 134 = .ok (.invokevirtual 58, 3) := by decide +kernel
theorem dX2_takes_137 : decode cX2_takes 137 = .ok (.ireturn, 1) := by decide +kernel
theorem dX2_takesLetter_0 : decode cX2_takesLetter 0 = .ok (.iload_n 3, 1) := by decide +kernel
theorem dX2_takesLetter_1 : decode cX2_takesLetter 1 = .ok (.bipush 115, 2) := by decide +kernel
theorem dX2_takesLetter_3 : decode cX2_takesLetter 3 = .ok (.if_icmp .ne 7, 3) := by decide +kernel
theorem dX2_takesLetter_6 : decode cX2_takesLetter 6 = .ok (.iconst 0, 1) := by decide +kernel
theorem dX2_takesLetter_7 : decode cX2_takesLetter 7 = .ok (.goto 24, 3) := by decide +kernel
theorem dX2_takesLetter_10 : decode cX2_takesLetter 10 = .ok (.iload_n 3, 1) := by decide +kernel
theorem dX2_takesLetter_11 : decode cX2_takesLetter 11 = .ok (.bipush 119, 2) := by decide +kernel
theorem dX2_takesLetter_13 : decode cX2_takesLetter 13 = .ok (.if_icmp .ne 7, 3) := by decide +kernel
theorem dX2_takesLetter_16 : decode cX2_takesLetter 16 = .ok (.iconst 1, 1) := by decide +kernel
theorem dX2_takesLetter_17 : decode cX2_takesLetter 17 = .ok (.goto 14, 3) := by decide +kernel
theorem dX2_takesLetter_20 : decode cX2_takesLetter 20 = .ok (.iload_n 3, 1) := by decide +kernel
theorem dX2_takesLetter_21 : decode cX2_takesLetter 21 = .ok (.bipush 114, 2) := by decide +kernel
theorem dX2_takesLetter_23 : decode cX2_takesLetter 23 = .ok (.if_icmp .ne 7, 3) := by decide +kernel
theorem dX2_takesLetter_26 : decode cX2_takesLetter 26 = .ok (.iconst 2, 1) := by decide +kernel
theorem dX2_takesLetter_27 : decode cX2_takesLetter 27 = .ok (.goto 4, 3) := by decide +kernel
theorem dX2_takesLetter_30 : decode cX2_takesLetter 30 = .ok (.iconst (-1), 1) := by decide +kernel
theorem dX2_takesLetter_31 : decode cX2_takesLetter 31 = .ok (.istore 4, 2) := by decide +kernel
theorem dX2_takesLetter_33 : decode cX2_takesLetter 33 = .ok (.iload 4, 2) := by decide +kernel
theorem dX2_takesLetter_35 : decode cX2_takesLetter 35 = .ok (.iconst (-1), 1) := by decide +kernel
theorem dX2_takesLetter_36 : decode cX2_takesLetter 36 = .ok (.if_icmp .eq 12, 3) := by decide +kernel
theorem dX2_takesLetter_39 : decode cX2_takesLetter 39 = .ok (.iload_n 2, 1) := by decide +kernel
theorem dX2_takesLetter_40 : decode cX2_takesLetter 40 = .ok (.iconst 0, 1) := by decide +kernel
theorem dX2_takesLetter_41 : decode cX2_takesLetter 41 = .ok (.iconst 2, 1) := by decide +kernel
theorem dX2_takesLetter_42 : decode cX2_takesLetter 42 = .ok (.invokestatic 55, 3) := by decide +kernel
theorem dX2_takesLetter_45 : decode cX2_takesLetter 45 = .ok (.ifCond .ne 5, 3) := by decide +kernel
theorem dX2_takesLetter_48 : decode cX2_takesLetter 48 = .ok (.iconst 0, 1) := by decide +kernel
theorem dX2_takesLetter_49 : decode cX2_takesLetter 49 = .ok (.ireturn, 1) := by decide +kernel
theorem dX2_takesLetter_50 : decode cX2_takesLetter 50 = .ok (.aload_n 0, 1) := by decide +kernel
theorem dX2_takesLetter_51 : decode cX2_takesLetter 51 = .ok (.getfield 24, 3) := by decide +kernel
theorem dX2_takesLetter_54 : decode cX2_takesLetter 54 = .ok (.iload_n 1, 1) := by decide +kernel
theorem dX2_takesLetter_55 : decode cX2_takesLetter 55 = .ok (.iconst 3, 1) := by decide +kernel
theorem dX2_takesLetter_56 : decode cX2_takesLetter 56 = .ok (.imul, 1) := by decide +kernel
theorem dX2_takesLetter_57 : decode cX2_takesLetter 57 = .ok (.iload_n 2, 1) := by decide +kernel
theorem dX2_takesLetter_58 : decode cX2_takesLetter 58 = .ok (.iadd, 1) := by decide +kernel
theorem dX2_takesLetter_59 : decode cX2_takesLetter 59 = .ok (.iload 4, 2) := by decide +kernel
theorem dX2_takesLetter_61 : decode cX2_takesLetter 61 = .ok (.iastore, 1) := by decide +kernel
theorem dX2_takesLetter_62 : decode cX2_takesLetter 62 = .ok (.aload_n 0, 1) := by decide +kernel
theorem dX2_takesLetter_63 : decode cX2_takesLetter 63 = .ok (.getfield 21, 3) := by decide +kernel
theorem dX2_takesLetter_66 : decode cX2_takesLetter 66 = .ok (.iload_n 1, 1) := by decide +kernel
theorem dX2_takesLetter_67 : decode cX2_takesLetter 67 = .ok (.iload_n 2, 1) := by decide +kernel
theorem dX2_takesLetter_68 : decode cX2_takesLetter 68 = .ok (.iconst 1, 1) := by decide +kernel
theorem dX2_takesLetter_69 : decode cX2_takesLetter 69 = .ok (.iadd, 1) := by decide +kernel
theorem dX2_takesLetter_70 : decode cX2_takesLetter 70 = .ok (.iastore, 1) := by decide +kernel
theorem dX2_takesLetter_71 : decode cX2_takesLetter 71 = .ok (.iconst 1, 1) := by decide +kernel
theorem dX2_takesLetter_72 : decode cX2_takesLetter 72 = .ok (.ireturn, 1) := by decide +kernel
theorem dX2_goRound_0 : decode cX2_goRound 0 = .ok (.iconst 0, 1) := by decide +kernel
theorem dX2_goRound_1 : decode cX2_goRound 1 = .ok (.istore_n 1, 1) := by decide +kernel
theorem dX2_goRound_2 : decode cX2_goRound 2 = .ok (.iload_n 1, 1) := by decide +kernel
theorem dX2_goRound_3 : decode cX2_goRound 3 = .ok (.aload_n 0, 1) := by decide +kernel
theorem dX2_goRound_4 : decode cX2_goRound 4 = .ok (.getfield 30, 3) := by decide +kernel
theorem dX2_goRound_7 : decode cX2_goRound 7 = .ok (.if_icmp .ge 57, 3) := by decide +kernel
theorem dX2_goRound_10 : decode cX2_goRound 10 = .ok (.iconst 1, 1) := by decide +kernel
theorem dX2_goRound_11 : decode cX2_goRound 11 = .ok (.aload_n 0, 1) := by decide +kernel
theorem dX2_goRound_12 : decode cX2_goRound 12 = .ok (.getfield 21, 3) := by decide +kernel
theorem dX2_goRound_15 : decode cX2_goRound 15 = .ok (.iload_n 1, 1) := by decide +kernel
theorem dX2_goRound_16 : decode cX2_goRound 16 = .ok (.iaload, 1) := by decide +kernel
theorem dX2_goRound_17 : decode cX2_goRound 17 = .ok (.invokestatic 61, 3) := by decide +kernel
theorem dX2_goRound_20 : decode cX2_goRound 20 = .ok (.istore_n 2, 1) := by decide +kernel
theorem dX2_goRound_21 : decode cX2_goRound 21 = .ok (.iconst 0, 1) := by decide +kernel
theorem dX2_goRound_22 : decode cX2_goRound 22 = .ok (.istore_n 3, 1) := by decide +kernel
theorem dX2_goRound_23 : decode cX2_goRound 23 = .ok (.iload_n 3, 1) := by decide +kernel
theorem dX2_goRound_24 : decode cX2_goRound 24 = .ok (.bipush 40, 2) := by decide +kernel
theorem dX2_goRound_26 : decode cX2_goRound 26 = .ok (.if_icmp .ge 32, 3) := by decide +kernel
theorem dX2_goRound_29 : decode cX2_goRound 29 = .ok (.aload_n 0, 1) := by decide +kernel
theorem dX2_goRound_30 : decode cX2_goRound 30 = .ok (.getfield 27, 3) := by decide +kernel
theorem dX2_goRound_33 : decode cX2_goRound 33 = .ok (.iload_n 3, 1) := by decide +kernel
theorem dX2_goRound_34 : decode cX2_goRound 34 = .ok (.bipush 8, 2) := by decide +kernel
theorem dX2_goRound_36 : decode cX2_goRound 36 = .ok (.imul, 1) := by decide +kernel
theorem dX2_goRound_37 : decode cX2_goRound 37 = .ok (.iload_n 1, 1) := by decide +kernel
theorem dX2_goRound_38 : decode cX2_goRound 38 = .ok (.iadd, 1) := by decide +kernel
theorem dX2_goRound_39 : decode cX2_goRound 39 = .ok (.aload_n 0, 1) := by decide +kernel
theorem dX2_goRound_40 : decode cX2_goRound 40 = .ok (.getfield 24, 3) := by decide +kernel
theorem dX2_goRound_43 : decode cX2_goRound 43 = .ok (.iload_n 1, 1) := by decide +kernel
theorem dX2_goRound_44 : decode cX2_goRound 44 = .ok (.iconst 3, 1) := by decide +kernel
theorem dX2_goRound_45 : decode cX2_goRound 45 = .ok (.imul, 1) := by decide +kernel
theorem dX2_goRound_46 : decode cX2_goRound 46 = .ok (.iload_n 3, 1) := by decide +kernel
theorem dX2_goRound_47 : decode cX2_goRound 47 = .ok (.iload_n 2, 1) := by decide +kernel
theorem dX2_goRound_48 : decode cX2_goRound 48 = .ok (.irem, 1) := by decide +kernel
theorem dX2_goRound_49 : decode cX2_goRound 49 = .ok (.iadd, 1) := by decide +kernel
theorem dX2_goRound_50 : decode cX2_goRound 50 = .ok (.iaload, 1) := by decide +kernel
theorem dX2_goRound_51 : decode cX2_goRound 51 = .ok (.iastore, 1) := by decide +kernel
theorem dX2_goRound_52 : decode cX2_goRound 52 = .ok (.iinc 3 1, 3) := by decide +kernel
theorem dX2_goRound_55 : decode cX2_goRound 55 = .ok (.goto (-32), 3) := by decide +kernel
theorem dX2_goRound_58 : decode cX2_goRound 58 = .ok (.iinc 1 1, 3) := by decide +kernel
theorem dX2_goRound_61 : decode cX2_goRound 61 = .ok (.goto (-59), 3) := by decide +kernel
theorem dX2_goRound_64 : decode cX2_goRound 64 = .ok (.return_, 1) := by decide +kernel
theorem dX2_letter_0 : decode cX2_letter 0 = .ok (.iload_n 2, 1) := by decide +kernel
theorem dX2_letter_1 : decode cX2_letter 1 = .ok (.iconst 0, 1) := by decide +kernel
theorem dX2_letter_2 : decode cX2_letter 2 = .ok (.aload_n 0, 1) := by decide +kernel
theorem dX2_letter_3 : decode cX2_letter 3 = .ok (.getfield 21, 3) := by decide +kernel
theorem dX2_letter_6 : decode cX2_letter 6 = .ok (.iload_n 1, 1) := by decide +kernel
theorem dX2_letter_7 : decode cX2_letter 7 = .ok (.iaload, 1) := by decide +kernel
theorem dX2_letter_8 : decode cX2_letter 8 = .ok (.iconst 1, 1) := by decide +kernel
theorem dX2_letter_9 : decode cX2_letter 9 = .ok (.isub, 1) := by decide +kernel
theorem dX2_letter_10 : decode cX2_letter 10 = .ok (.invokestatic 55, 3) := by decide +kernel
theorem dX2_letter_13 : decode cX2_letter 13 = .ok (.ifCond .eq 16, 3) := by decide +kernel
theorem dX2_letter_16 : decode cX2_letter 16 = .ok (.aload_n 0, 1) := by decide +kernel
theorem dX2_letter_17 : decode cX2_letter 17 = .ok (.getfield 24, 3) := by decide +kernel
theorem dX2_letter_20 : decode cX2_letter 20 = .ok (.iload_n 1, 1) := by decide +kernel
theorem dX2_letter_21 : decode cX2_letter 21 = .ok (.iconst 3, 1) := by decide +kernel
theorem dX2_letter_22 : decode cX2_letter 22 = .ok (.imul, 1) := by decide +kernel
theorem dX2_letter_23 : decode cX2_letter 23 = .ok (.iload_n 2, 1) := by decide +kernel
theorem dX2_letter_24 : decode cX2_letter 24 = .ok (.iadd, 1) := by decide +kernel
theorem dX2_letter_25 : decode cX2_letter 25 = .ok (.iaload, 1) := by decide +kernel
theorem dX2_letter_26 : decode cX2_letter 26 = .ok (.goto 4, 3) := by decide +kernel
theorem dX2_letter_29 : decode cX2_letter 29 = .ok (.iconst (-1), 1) := by decide +kernel
theorem dX2_letter_30 : decode cX2_letter 30 = .ok (.ireturn, 1) := by decide +kernel
theorem dX3_init_0 : decode cX3_init 0 = .ok (.aload_n 0, 1) := by decide +kernel
theorem dX3_init_1 : decode cX3_init 1 = .ok (.invokespecial 3, 3) := by decide +kernel
theorem dX3_init_4 : decode cX3_init 4 = .ok (.aload_n 0, 1) := by decide +kernel
theorem dX3_init_5 : decode cX3_init 5 = .ok (.bipush 55, 2) := by decide +kernel
theorem dX3_init_7 : decode cX3_init 7 = .ok (.newarray .int, 2) := by decide +kernel
theorem dX3_init_9 : decode cX3_init 9 = .ok (.putfield 9, 3) := by decide +kernel
theorem dX3_init_12 : decode cX3_init 12 = .ok (.aload_n 0, 1) := by decide +kernel
theorem dX3_init_13 : decode cX3_init 13 = .ok (.iconst (-1), 1) := by decide +kernel
theorem dX3_init_14 : decode cX3_init 14 = .ok (.putfield 15, 3) := by decide +kernel
theorem dX3_init_17 : decode cX3_init 17 = .ok (.aload_n 0, 1) := by decide +kernel
theorem dX3_init_18 : decode cX3_init 18 = .ok (.iload_n 1, 1) := by decide +kernel
theorem dX3_init_19 : decode cX3_init 19 = .ok (.bipush 55, 2) := by decide +kernel
theorem dX3_init_21 : decode cX3_init 21 = .ok (.invokestatic 19, 3) := by decide +kernel
theorem dX3_init_24 : decode cX3_init 24 = .ok (.putfield 25, 3) := by decide +kernel
theorem dX3_init_27 : decode cX3_init 27 = .ok (.return_, 1) := by decide +kernel
theorem dX3_isFull_0 : decode cX3_isFull 0 = .ok (.aload_n 0, 1) := by decide +kernel
theorem dX3_isFull_1 : decode cX3_isFull 1 = .ok (.getfield 28, 3) := by decide +kernel
theorem dX3_isFull_4 : decode cX3_isFull 4 = .ok (.aload_n 0, 1) := by decide +kernel
theorem dX3_isFull_5 : decode cX3_isFull 5 = .ok (.getfield 25, 3) := by decide +kernel
theorem dX3_isFull_8 : decode cX3_isFull 8 = .ok (.if_icmp .lt 7, 3) := by decide +kernel
theorem dX3_isFull_11 : decode cX3_isFull 11 = .ok (.iconst 1, 1) := by decide +kernel
theorem dX3_isFull_12 : decode cX3_isFull 12 = .ok (.goto 4, 3) := by decide +kernel
theorem dX3_isFull_15 : decode cX3_isFull 15 = .ok (.iconst 0, 1) := by decide +kernel
theorem dX3_isFull_16 : decode cX3_isFull 16 = .ok (.ireturn, 1) := by decide +kernel
theorem dX3_add_0 : decode cX3_add 0 = .ok (.aload_n 0, 1) := by decide +kernel
theorem dX3_add_1 : decode cX3_add 1 = .ok (.invokevirtual 31, 3) := by decide +kernel
theorem dX3_add_4 : decode cX3_add 4 = .ok (.ifCond .ne 23, 3) := by decide +kernel
theorem dX3_add_7 : decode cX3_add 7 = .ok (.aload_n 0, 1) := by decide +kernel
theorem dX3_add_8 : decode cX3_add 8 = .ok (.getfield 9, 3) := by decide +kernel
theorem dX3_add_11 : decode cX3_add 11 = .ok (.aload_n 0, 1) := by decide +kernel
theorem dX3_add_12 : decode cX3_add 12 = .ok (.getfield 28, 3) := by decide +kernel
theorem dX3_add_15 : decode cX3_add 15 = .ok (.iload_n 1, 1) := by decide +kernel
theorem dX3_add_16 : decode cX3_add 16 = .ok (.iastore, 1) := by decide +kernel
theorem dX3_add_17 : decode cX3_add 17 = .ok (.aload_n 0, 1) := by decide +kernel
theorem dX3_add_18 : decode cX3_add 18 = .ok (.dup, 1) := by decide +kernel
theorem dX3_add_19 : decode cX3_add 19 = .ok (.getfield 28, 3) := by decide +kernel
theorem dX3_add_22 : decode cX3_add 22 = .ok (.iconst 1, 1) := by decide +kernel
theorem dX3_add_23 : decode cX3_add 23 = .ok (.iadd, 1) := by decide +kernel
theorem dX3_add_24 : decode cX3_add 24 = .ok (.putfield 28, 3) := by decide +kernel
theorem dX3_add_27 : decode cX3_add 27 = .ok (.return_, 1) := by decide +kernel
theorem dX4_init_0 : decode cX4_init 0 = .ok (.aload_n 0, 1) := by decide +kernel
theorem dX4_init_1 : decode cX4_init 1 = .ok (.invokespecial 3, 3) := by decide +kernel
theorem dX4_init_4 : decode cX4_init 4 = .ok (.aload_n 0, 1) := by decide +kernel
theorem dX4_init_5 : decode cX4_init 5 = .ok (.new 9, 3) := by decide +kernel
theorem dX4_init_8 : decode cX4_init 8 = .ok (.dup, 1) := by decide +kernel
theorem dX4_init_9 : decode cX4_init 9 = .ok (.invokespecial 11, 3) := by decide +kernel
theorem dX4_init_12 : decode cX4_init 12 = .ok (.putfield 12, 3) := by decide +kernel
theorem dX4_init_15 : decode cX4_init 15 = .ok (.aload_n 0, 1) := by decide +kernel
theorem dX4_init_16 : decode cX4_init 16 = .ok (.bipush 40, 2) := by decide +kernel
theorem dX4_init_18 : decode cX4_init 18 = .ok (.newarray .int, 2) := by decide +kernel
theorem dX4_init_20 : decode cX4_init 20 = .ok (.putfield 18, 3) := by decide +kernel
theorem dX4_init_23 : decode cX4_init 23 = .ok (.aload_n 0, 1) := by decide +kernel
theorem dX4_init_24 : decode cX4_init 24 = .ok (.bipush 30, 2) := by decide +kernel
theorem dX4_init_26 : decode cX4_init 26 = .ok (.putfield 22, 3) := by decide +kernel
theorem dX4_init_29 : decode cX4_init 29 = .ok (.aload_n 0, 1) := by decide +kernel
theorem dX4_init_30 : decode cX4_init 30 = .ok (.bipush 60, 2) := by decide +kernel
theorem dX4_init_32 : decode cX4_init 32 = .ok (.putfield 26, 3) := by decide +kernel
theorem dX4_init_35 : decode cX4_init 35 = .ok (.aload_n 0, 1) := by decide +kernel
theorem dX4_init_36 : decode cX4_init 36 = .ok (.iconst 4, 1) := by decide +kernel
theorem dX4_init_37 : decode cX4_init 37 = .ok (.putfield 29, 3) := by decide +kernel
theorem dX4_init_40 : decode cX4_init 40 = .ok (.aload_n 0, 1) := by decide +kernel
theorem dX4_init_41 : decode cX4_init 41 = .ok (.bipush 6, 2) := by decide +kernel
theorem dX4_init_43 : decode cX4_init 43 = .ok (.newarray .int, 2) := by decide +kernel
theorem dX4_init_45 : decode cX4_init 45 = .ok (.putfield 32, 3) := by decide +kernel
theorem dX4_init_48 : decode cX4_init 48 = .ok (.aload_n 0, 1) := by decide +kernel
theorem dX4_init_49 : decode cX4_init 49 = .ok (.bipush 6, 2) := by decide +kernel
theorem dX4_init_51 : decode cX4_init 51 = .ok (.newarray .int, 2) := by decide +kernel
theorem dX4_init_53 : decode cX4_init 53 = .ok (.putfield 35, 3) := by decide +kernel
theorem dX4_init_56 : decode cX4_init 56 = .ok (.aload_n 0, 1) := by decide +kernel
theorem dX4_init_57 : decode cX4_init 57 = .ok (.bipush 6, 2) := by decide +kernel
theorem dX4_init_59 : decode cX4_init 59 = .ok (.newarray .int, 2) := by decide +kernel
theorem dX4_init_61 : decode cX4_init 61 = .ok (.putfield 38, 3) := by decide +kernel
theorem dX4_init_64 : decode cX4_init 64 = .ok (.aload_n 0, 1) := by decide +kernel
theorem dX4_init_65 : decode cX4_init 65 = .ok (.iconst (-1), 1) := by decide +kernel
theorem dX4_init_66 : decode cX4_init 66 = .ok (.putfield 41, 3) := by decide +kernel
theorem dX4_init_69 : decode cX4_init 69 = .ok (.aload_n 0, 1) := by decide +kernel
theorem dX4_init_70 : decode cX4_init 70 = .ok (.bipush 6, 2) := by decide +kernel
theorem dX4_init_72 : decode cX4_init 72 = .ok (.newarray .int, 2) := by decide +kernel
theorem dX4_init_74 : decode cX4_init 74 = .ok (.putfield 44, 3) := by decide +kernel
theorem dX4_init_77 : decode cX4_init 77 = .ok (.aload_n 0, 1) := by decide +kernel
theorem dX4_init_78 : decode cX4_init 78 = .ok (.bipush 6, 2) := by decide +kernel
theorem dX4_init_80 : decode cX4_init 80 = .ok (.newarray .int, 2) := by decide +kernel
theorem dX4_init_82 : decode cX4_init 82 = .ok (.putfield 47, 3) := by decide +kernel
theorem dX4_init_85 : decode cX4_init 85 = .ok (.aload_n 0, 1) := by decide +kernel
theorem dX4_init_86 : decode cX4_init 86 = .ok (.iconst (-1), 1) := by decide +kernel
theorem dX4_init_87 : decode cX4_init 87 = .ok (.putfield 50, 3) := by decide +kernel
theorem dX4_init_90 : decode cX4_init 90 = .ok (.aload_n 0, 1) := by decide +kernel
theorem dX4_init_91 : decode cX4_init 91 = .ok (.iconst (-1), 1) := by decide +kernel
theorem dX4_init_92 : decode cX4_init 92 = .ok (.putfield 53, 3) := by decide +kernel
theorem dX4_init_95 : decode cX4_init 95 = .ok (.iconst 0, 1) := by decide +kernel
theorem dX4_init_96 : decode cX4_init 96 = .ok (.istore_n 1, 1) := by decide +kernel
theorem dX4_init_97 : decode cX4_init 97 = .ok (.iload_n 1, 1) := by decide +kernel
theorem dX4_init_98 : decode cX4_init 98 = .ok (.bipush 40, 2) := by decide +kernel
theorem dX4_init_100 : decode cX4_init 100 = .ok (.if_icmp .ge 16, 3) := by decide +kernel
theorem dX4_init_103 : decode cX4_init 103 = .ok (.aload_n 0, 1) := by decide +kernel
theorem dX4_init_104 : decode cX4_init 104 = .ok (.getfield 18, 3) := by decide +kernel
theorem dX4_init_107 : decode cX4_init 107 = .ok (.iload_n 1, 1) := by decide +kernel
theorem dX4_init_108 : decode cX4_init 108 = .ok (.iconst 3, 1) := by decide +kernel
theorem dX4_init_109 : decode cX4_init 109 = .ok (.iastore, 1) := by decide +kernel
theorem dX4_init_110 : decode cX4_init 110 = .ok (.iinc 1 1, 3) := by decide +kernel
theorem dX4_init_113 : decode cX4_init 113 = .ok (.goto (-16), 3) := by decide +kernel
theorem dX4_init_116 : decode cX4_init 116 = .ok (.return_, 1) := by decide +kernel
theorem dX4_readElbows_0 : decode cX4_readElbows 0 = .ok (.iconst (-1), 1) := by decide +kernel
theorem dX4_readElbows_1 : decode cX4_readElbows 1 = .ok (.istore_n 2, 1) := by decide +kernel
theorem dX4_readElbows_2 : decode cX4_readElbows 2 = .ok (.iconst 0, 1) := by decide +kernel
theorem dX4_readElbows_3 : decode cX4_readElbows 3 = .ok (.istore_n 3, 1) := by decide +kernel
theorem dX4_readElbows_4 : decode cX4_readElbows 4 = .ok (.iload_n 3, 1) := by decide +kernel
theorem dX4_readElbows_5 : decode cX4_readElbows 5 = .ok (.aload_n 1, 1) := by decide +kernel
theorem dX4_readElbows_6 : decode cX4_readElbows 6 = .ok (.getfield 56, 3) := by decide +kernel
theorem dX4_readElbows_9 : decode cX4_readElbows 9 = .ok (.if_icmp .ge 32, 3) := by decide +kernel
theorem dX4_readElbows_12 : decode cX4_readElbows 12 = .ok (.iload_n 2, 1) := by decide +kernel
theorem dX4_readElbows_13 : decode cX4_readElbows 13 = .ok (.iconst (-1), 1) := by decide +kernel
theorem dX4_readElbows_14 : decode cX4_readElbows 14 = .ok (.if_icmp .ne 27, 3) := by decide +kernel
theorem dX4_readElbows_17 : decode cX4_readElbows 17 = .ok (.aload_n 1, 1) := by decide +kernel
theorem dX4_readElbows_18 : decode cX4_readElbows 18 = .ok (.getfield 61, 3) := by decide +kernel
theorem dX4_readElbows_21 : decode cX4_readElbows 21 = .ok (.iload_n 3, 1) := by decide +kernel
theorem dX4_readElbows_22 : decode cX4_readElbows 22 = .ok (.iaload, 1) := by decide +kernel
theorem dX4_readElbows_23 : decode cX4_readElbows 23 = .ok (.bipush 48, 2) := by decide +kernel
theorem dX4_readElbows_25 : decode cX4_readElbows 25 = .ok (.bipush 57, 2) := by decide +kernel
theorem dX4_readElbows_27 : decode cX4_readElbows 27 = .ok (.invokestatic 64, 3) := by decide +kernel
theorem dX4_readElbows_30 : decode cX4_readElbows 30 = .ok (.ifCond .ne 5, 3) := by decide +kernel
theorem dX4_readElbows_33 : decode cX4_readElbows 33 = .ok (.iload_n 3, 1) := by decide +kernel
theorem dX4_readElbows_34 : decode cX4_readElbows 34 = .ok (.istore_n 2, 1) := by decide +kernel
theorem dX4_readElbows_35 : decode cX4_readElbows 35 = .ok (.iinc 3 1, 3) := by decide +kernel
theorem dX4_readElbows_38 : decode cX4_readElbows 38 = .ok (.goto (-34), 3) := by decide +kernel
theorem dX4_readElbows_41 : decode cX4_readElbows 41 = .ok (.aload_n 0, 1) := by decide +kernel
theorem dX4_readElbows_42 : decode cX4_readElbows 42 = .ok (.iload_n 2, 1) := by decide +kernel
theorem dX4_readElbows_43 : decode cX4_readElbows 43 = .ok (.iconst (-1), 1) := by decide +kernel
theorem dX4_readElbows_44 : decode cX4_readElbows 44 = .ok (.if_icmp .ne 15, 3) := by decide +kernel
theorem dX4_readElbows_47 : decode cX4_readElbows 47 = .ok (.aload_n 1, 1) := by decide +kernel
theorem dX4_readElbows_48 : decode cX4_readElbows 48 = .ok (.getfield 56, 3) := by decide +kernel
theorem dX4_readElbows_51 : decode cX4_readElbows 51 = .ok (.bipush 40, 2) := by decide +kernel
theorem dX4_readElbows_53 : decode cX4_readElbows 53 = .ok (.invokestatic 68, 3) := by decide +kernel
theorem dX4_readElbows_56 : decode cX4_readElbows 56 = .ok (.goto 4, 3) := by decide +kernel
theorem dX4_readElbows_59 : decode cX4_readElbows 59 = .ok (.iconst 0, 1) := by decide +kernel
theorem dX4_readElbows_60 : decode cX4_readElbows 60 = .ok (.putfield 74, 3) := by decide +kernel
theorem dX4_readElbows_63 : decode cX4_readElbows 63 = .ok (.iconst 0, 1) := by decide +kernel
theorem dX4_readElbows_64 : decode cX4_readElbows 64 = .ok (.istore_n 3, 1) := by decide +kernel
theorem dX4_readElbows_65 : decode cX4_readElbows 65 = .ok (.iload_n 3, 1) := by decide +kernel
theorem dX4_readElbows_66 : decode cX4_readElbows 66 = .ok (.bipush 40, 2) := by decide +kernel
theorem dX4_readElbows_68 : decode cX4_readElbows 68 = .ok (.if_icmp .ge 36, 3) := by decide +kernel
theorem dX4_readElbows_71 : decode cX4_readElbows 71 = .ok (.aload_n 0, 1) := by decide +kernel
theorem dX4_readElbows_72 : decode cX4_readElbows 72 = .ok (.getfield 18, 3) := by decide +kernel
theorem dX4_readElbows_75 : decode cX4_readElbows 75 = .ok (.iload_n 3, 1) := by decide +kernel
theorem dX4_readElbows_76 : decode cX4_readElbows 76 = .ok (.iload_n 3, 1) := by decide +kernel
theorem dX4_readElbows_77 : decode cX4_readElbows 77 = .ok (.aload_n 0, 1) := by decide +kernel
theorem dX4_readElbows_78 : decode cX4_readElbows 78 = .ok (.getfield 74, 3) := by decide +kernel
theorem dX4_readElbows_81 : decode cX4_readElbows 81 = .ok (.if_icmp .ge 15, 3) := by decide +kernel
theorem dX4_readElbows_84 : decode cX4_readElbows 84 = .ok (.aload_n 1, 1) := by decide +kernel
theorem dX4_readElbows_85 : decode cX4_readElbows 85 = .ok (.getfield 61, 3) := by decide +kernel
theorem dX4_readElbows_88 : decode cX4_readElbows 88 = .ok (.iload_n 3, 1) := by decide +kernel
theorem dX4_readElbows_89 : decode cX4_readElbows 89 = .ok (.iaload, 1) := by decide +kernel
theorem dX4_readElbows_90 : decode cX4_readElbows 90 = .ok (.bipush 48, 2) := by decide +kernel
theorem dX4_readElbows_92 : decode cX4_readElbows 92 = .ok (.isub, 1) := by decide +kernel
theorem dX4_readElbows_93 : decode cX4_readElbows 93 = .ok (.goto 4, 3) := by decide +kernel
theorem dX4_readElbows_96 : decode cX4_readElbows 96 = .ok (.iconst 3, 1) := by decide +kernel
theorem dX4_readElbows_97 : decode cX4_readElbows 97 = .ok (.iastore, 1) := by decide +kernel
theorem dX4_readElbows_98 : decode cX4_readElbows 98 = .ok (.iinc 3 1, 3) := by decide +kernel
theorem dX4_readElbows_101 : decode cX4_readElbows 101 = .ok (.goto (-36), 3) := by decide +kernel
theorem dX4_readElbows_104 : decode cX4_readElbows 104 = .ok (.iload_n 2, 1) := by decide +kernel
theorem dX4_readElbows_105 : decode cX4_readElbows 105 = .ok (.ireturn, 1) := by decide +kernel
theorem dX4_addLeak_0 : decode cX4_addLeak 0 = .ok (.aload_n 0, 1) := by decide +kernel
theorem dX4_addLeak_1 : decode cX4_addLeak 1 = .ok (.getfield 77, 3) := by decide +kernel
theorem dX4_addLeak_4 : decode cX4_addLeak 4 = .ok (.bipush 6, 2) := by decide +kernel
theorem dX4_addLeak_6 : decode cX4_addLeak 6 = .ok (.if_icmp .ge 43, 3) := by decide +kernel
theorem dX4_addLeak_9 : decode cX4_addLeak 9 = .ok (.aload_n 0, 1) := by decide +kernel
theorem dX4_addLeak_10 : decode cX4_addLeak 10 = .ok (.getfield 32, 3) := by decide +kernel
theorem dX4_addLeak_13 : decode cX4_addLeak 13 = .ok (.aload_n 0, 1) := by decide +kernel
theorem dX4_addLeak_14 : decode cX4_addLeak 14 = .ok (.getfield 77, 3) := by decide +kernel
theorem dX4_addLeak_17 : decode cX4_addLeak 17 = .ok (.iload_n 1, 1) := by decide +kernel
theorem dX4_addLeak_18 : decode cX4_addLeak 18 = .ok (.iastore, 1) := by decide +kernel
theorem dX4_addLeak_19 : decode cX4_addLeak 19 = .ok (.aload_n 0, 1) := by decide +kernel
theorem dX4_addLeak_20 : decode cX4_addLeak 20 = .ok (.getfield 35, 3) := by decide +kernel
theorem dX4_addLeak_23 : decode cX4_addLeak 23 = .ok (.aload_n 0, 1) := by decide +kernel
theorem dX4_addLeak_24 : decode cX4_addLeak 24 = .ok (.getfield 77, 3) := by decide +kernel
theorem dX4_addLeak_27 : decode cX4_addLeak 27 = .ok (.iload_n 2, 1) := by decide +kernel
theorem dX4_addLeak_28 : decode cX4_addLeak 28 = .ok (.iastore, 1) := by decide +kernel
theorem dX4_addLeak_29 : decode cX4_addLeak 29 = .ok (.aload_n 0, 1) := by decide +kernel
theorem dX4_addLeak_30 : decode cX4_addLeak 30 = .ok (.getfield 38, 3) := by decide +kernel
theorem dX4_addLeak_33 : decode cX4_addLeak 33 = .ok (.aload_n 0, 1) := by decide +kernel
theorem dX4_addLeak_34 : decode cX4_addLeak 34 = .ok (.getfield 77, 3) := by decide +kernel
theorem dX4_addLeak_37 : decode cX4_addLeak 37 = .ok (.iload_n 3, 1) := by decide +kernel
theorem dX4_addLeak_38 : decode cX4_addLeak 38 = .ok (.iastore, 1) := by decide +kernel
theorem dX4_addLeak_39 : decode cX4_addLeak 39 = .ok (.aload_n 0, 1) := by decide +kernel
theorem dX4_addLeak_40 : decode cX4_addLeak 40 = .ok (.dup, 1) := by decide +kernel
theorem dX4_addLeak_41 : decode cX4_addLeak 41 = .ok (.getfield 77, 3) := by decide +kernel
theorem dX4_addLeak_44 : decode cX4_addLeak 44 = .ok (.iconst 1, 1) := by decide +kernel
theorem dX4_addLeak_45 : decode cX4_addLeak 45 = .ok (.iadd, 1) := by decide +kernel
theorem dX4_addLeak_46 : decode cX4_addLeak 46 = .ok (.putfield 77, 3) := by decide +kernel
theorem dX4_addLeak_49 : decode cX4_addLeak 49 = .ok (.return_, 1) := by decide +kernel
theorem dX4_addPinch_0 : decode cX4_addPinch 0 = .ok (.aload_n 0, 1) := by decide +kernel
theorem dX4_addPinch_1 : decode cX4_addPinch 1 = .ok (.getfield 80, 3) := by decide +kernel
theorem dX4_addPinch_4 : decode cX4_addPinch 4 = .ok (.bipush 6, 2) := by decide +kernel
theorem dX4_addPinch_6 : decode cX4_addPinch 6 = .ok (.if_icmp .ge 33, 3) := by decide +kernel
theorem dX4_addPinch_9 : decode cX4_addPinch 9 = .ok (.aload_n 0, 1) := by decide +kernel
theorem dX4_addPinch_10 : decode cX4_addPinch 10 = .ok (.getfield 44, 3) := by decide +kernel
theorem dX4_addPinch_13 : decode cX4_addPinch 13 = .ok (.aload_n 0, 1) := by decide +kernel
theorem dX4_addPinch_14 : decode cX4_addPinch 14 = .ok (.getfield 80, 3) := by decide +kernel
theorem dX4_addPinch_17 : decode cX4_addPinch 17 = .ok (.iload_n 1, 1) := by decide +kernel
theorem dX4_addPinch_18 : decode cX4_addPinch 18 = .ok (.iastore, 1) := by decide +kernel
theorem dX4_addPinch_19 : decode cX4_addPinch 19 = .ok (.aload_n 0, 1) := by decide +kernel
theorem dX4_addPinch_20 : decode cX4_addPinch 20 = .ok (.getfield 47, 3) := by decide +kernel
theorem dX4_addPinch_23 : decode cX4_addPinch 23 = .ok (.aload_n 0, 1) := by decide +kernel
theorem dX4_addPinch_24 : decode cX4_addPinch 24 = .ok (.getfield 80, 3) := by decide +kernel
theorem dX4_addPinch_27 : decode cX4_addPinch 27 = .ok (.iload_n 2, 1) := by decide +kernel
theorem dX4_addPinch_28 : decode cX4_addPinch 28 = .ok (.iastore, 1) := by decide +kernel
theorem dX4_addPinch_29 : decode cX4_addPinch 29 = .ok (.aload_n 0, 1) := by decide +kernel
theorem dX4_addPinch_30 : decode cX4_addPinch 30 = .ok (.dup, 1) := by decide +kernel
theorem dX4_addPinch_31 : decode cX4_addPinch 31 = .ok (.getfield 80, 3) := by decide +kernel
theorem dX4_addPinch_34 : decode cX4_addPinch 34 = .ok (.iconst 1, 1) := by decide +kernel
theorem dX4_addPinch_35 : decode cX4_addPinch 35 = .ok (.iadd, 1) := by decide +kernel
theorem dX4_addPinch_36 : decode cX4_addPinch 36 = .ok (.putfield 80, 3) := by decide +kernel
theorem dX4_addPinch_39 : decode cX4_addPinch 39 = .ok (.return_, 1) := by decide +kernel
theorem dX4_leaking_0 : decode cX4_leaking 0 = .ok (.iconst 0, 1) := by decide +kernel
theorem dX4_leaking_1 : decode cX4_leaking 1 = .ok (.istore_n 2, 1) := by decide +kernel
theorem dX4_leaking_2 : decode cX4_leaking 2 = .ok (.iconst 0, 1) := by decide +kernel
theorem dX4_leaking_3 : decode cX4_leaking 3 = .ok (.istore_n 3, 1) := by decide +kernel
theorem dX4_leaking_4 : decode cX4_leaking 4 = .ok (.iload_n 3, 1) := by decide +kernel
theorem dX4_leaking_5 : decode cX4_leaking 5 = .ok (.aload_n 0, 1) := by decide +kernel
theorem dX4_leaking_6 : decode cX4_leaking 6 = .ok (.getfield 77, 3) := by decide +kernel
theorem dX4_leaking_9 : decode cX4_leaking 9 = .ok (.if_icmp .ge 77, 3) := by decide +kernel
theorem dX4_leaking_12 : decode cX4_leaking 12 = .ok (.iload_n 1, 1) := by decide +kernel
theorem dX4_leaking_13 : decode cX4_leaking 13 = .ok (.aload_n 0, 1) := by decide +kernel
theorem dX4_leaking_14 : decode cX4_leaking 14 = .ok (.getfield 32, 3) := by decide +kernel
theorem dX4_leaking_17 : decode cX4_leaking 17 = .ok (.iload_n 3, 1) := by decide +kernel
theorem dX4_leaking_18 : decode cX4_leaking 18 = .ok (.iaload, 1) := by decide +kernel
theorem dX4_leaking_19 : decode cX4_leaking 19 = .ok (.if_icmp .lt 32, 3) := by decide +kernel
theorem dX4_leaking_22 : decode cX4_leaking 22 = .ok (.aload_n 0, 1) := by decide +kernel
theorem dX4_leaking_23 : decode cX4_leaking 23 = .ok (.getfield 38, 3) := by decide +kernel
theorem dX4_leaking_26 : decode cX4_leaking 26 = .ok (.iload_n 3, 1) := by decide +kernel
theorem dX4_leaking_27 : decode cX4_leaking 27 = .ok (.iaload, 1) := by decide +kernel
theorem dX4_leaking_28 : decode cX4_leaking 28 = .ok (.aload_n 0, 1) := by decide +kernel
theorem dX4_leaking_29 : decode cX4_leaking 29 = .ok (.getfield 32, 3) := by decide +kernel
theorem dX4_leaking_32 : decode cX4_leaking 32 = .ok (.iload_n 3, 1) := by decide +kernel
theorem dX4_leaking_33 : decode cX4_leaking 33 = .ok (.iaload, 1) := by decide +kernel
theorem dX4_leaking_34 : decode cX4_leaking 34 = .ok (.if_icmp .le 13, 3) := by decide +kernel
theorem dX4_leaking_37 : decode cX4_leaking 37 = .ok (.iload_n 1, 1) := by decide +kernel
theorem dX4_leaking_38 : decode cX4_leaking 38 = .ok (.aload_n 0, 1) := by decide +kernel
theorem dX4_leaking_39 : decode cX4_leaking 39 = .ok (.getfield 38, 3) := by decide +kernel
theorem dX4_leaking_42 : decode cX4_leaking 42 = .ok (.iload_n 3, 1) := by decide +kernel
theorem dX4_leaking_43 : decode cX4_leaking 43 = .ok (.iaload, 1) := by decide +kernel
theorem dX4_leaking_44 : decode cX4_leaking 44 = .ok (.if_icmp .ge 7, 3) := by decide +kernel
theorem dX4_leaking_47 : decode cX4_leaking 47 = .ok (.iconst 1, 1) := by decide +kernel
theorem dX4_leaking_48 : decode cX4_leaking 48 = .ok (.goto 4, 3) := by decide +kernel
theorem dX4_leaking_51 : decode cX4_leaking 51 = .ok (.iconst 0, 1) := by decide +kernel
theorem dX4_leaking_52 : decode cX4_leaking 52 = .ok (.istore 4, 2) := by decide +kernel
theorem dX4_leaking_54 : decode cX4_leaking 54 = .ok (.iload 4, 2) := by decide +kernel
theorem dX4_leaking_56 : decode cX4_leaking 56 = .ok (.ifCond .eq 24, 3) := by decide +kernel
theorem dX4_leaking_59 : decode cX4_leaking 59 = .ok (.aload_n 0, 1) := by decide +kernel
theorem dX4_leaking_60 : decode cX4_leaking 60 = .ok (.getfield 41, 3) := by decide +kernel
theorem dX4_leaking_63 : decode cX4_leaking 63 = .ok (.iload_n 3, 1) := by decide +kernel
theorem dX4_leaking_64 : decode cX4_leaking 64 = .ok (.ishr, 1) := by decide +kernel
theorem dX4_leaking_65 : decode cX4_leaking 65 = .ok (.iconst 1, 1) := by decide +kernel
theorem dX4_leaking_66 : decode cX4_leaking 66 = .ok (.iand, 1) := by decide +kernel
theorem dX4_leaking_67 : decode cX4_leaking 67 = .ok (.iconst 1, 1) := by decide +kernel
theorem dX4_leaking_68 : decode cX4_leaking 68 = .ok (.if_icmp .ne 12, 3) := by decide +kernel
theorem dX4_leaking_71 : decode cX4_leaking 71 = .ok (.iload_n 2, 1) := by decide +kernel
theorem dX4_leaking_72 : decode cX4_leaking 72 = .ok (.aload_n 0, 1) := by decide +kernel
theorem dX4_leaking_73 : decode cX4_leaking 73 = .ok (.getfield 35, 3) := by decide +kernel
theorem dX4_leaking_76 : decode cX4_leaking 76 = .ok (.iload_n 3, 1) := by decide +kernel
theorem dX4_leaking_77 : decode cX4_leaking 77 = .ok (.iaload, 1) := by decide +kernel
theorem dX4_leaking_78 : decode cX4_leaking 78 = .ok (.iadd, 1) := by decide +kernel
theorem dX4_leaking_79 : decode cX4_leaking 79 = .ok (.istore_n 2, 1) := by decide +kernel
theorem dX4_leaking_80 : decode cX4_leaking 80 = .ok (.iinc 3 1, 3) := by decide +kernel
theorem dX4_leaking_83 : decode cX4_leaking 83 = .ok (.goto (-79), 3) := by decide +kernel
theorem dX4_leaking_86 : decode cX4_leaking 86 = .ok (.iload_n 2, 1) := by decide +kernel
theorem dX4_leaking_87 : decode cX4_leaking 87 = .ok (.ireturn, 1) := by decide +kernel
theorem dX4_openPipes_0 : decode cX4_openPipes 0 = .ok (.iconst 0, 1) := by decide +kernel
theorem dX4_openPipes_1 : decode cX4_openPipes 1 = .ok (.istore_n 3, 1) := by decide +kernel
theorem dX4_openPipes_2 : decode cX4_openPipes 2 = .ok (.iload_n 3, 1) := by decide +kernel
theorem dX4_openPipes_3 : decode cX4_openPipes 3 = .ok (.bipush 8, 2) := by decide +kernel
theorem dX4_openPipes_5 : decode cX4_openPipes 5 = .ok (.if_icmp .ge 39, 3) := by decide +kernel
theorem dX4_openPipes_8 : decode cX4_openPipes 8 = .ok (.iload_n 3, 1) := by decide +kernel
theorem dX4_openPipes_9 : decode cX4_openPipes 9 = .ok (.aload_n 2, 1) := by decide +kernel
theorem dX4_openPipes_10 : decode cX4_openPipes 10 = .ok (.arraylength, 1) := by decide +kernel
theorem dX4_openPipes_11 : decode cX4_openPipes 11 = .ok (.if_icmp .ge 33, 3) := by decide +kernel
theorem dX4_openPipes_14 : decode cX4_openPipes 14 = .ok (.aload_n 2, 1) := by decide +kernel
theorem dX4_openPipes_15 : decode cX4_openPipes 15 = .ok (.iload_n 3, 1) := by decide +kernel
theorem dX4_openPipes_16 : decode cX4_openPipes 16 = .ok (.iload_n 3, 1) := by decide +kernel
theorem dX4_openPipes_17 : decode cX4_openPipes 17 = .ok (.aload_n 0, 1) := by decide +kernel
theorem dX4_openPipes_18 : decode cX4_openPipes 18 = .ok (.getfield 53, 3) := by decide +kernel
theorem dX4_openPipes_21 : decode cX4_openPipes 21 = .ok (.if_icmp .ne 7, 3) := by decide +kernel
theorem dX4_openPipes_24 : decode cX4_openPipes 24 = .ok (.iconst 0, 1) := by decide +kernel
theorem dX4_openPipes_25 : decode cX4_openPipes 25 = .ok (.goto 12, 3) := by decide +kernel
theorem dX4_openPipes_28 : decode cX4_openPipes 28 = .ok (.aload_n 0, 1) := by decide +kernel
theorem dX4_openPipes_29 : decode cX4_openPipes 29 = .ok (.getfield 12, 3) := by decide +kernel
theorem dX4_openPipes_32 : decode cX4_openPipes 32 = .ok (.getfield 83, 3) := by decide +kernel
theorem dX4_openPipes_35 : decode cX4_openPipes 35 = .ok (.iload_n 3, 1) := by decide +kernel
theorem dX4_openPipes_36 : decode cX4_openPipes 36 = .ok (.iaload, 1) := by decide +kernel
theorem dX4_openPipes_37 : decode cX4_openPipes 37 = .ok (.iastore, 1) := by decide +kernel
theorem dX4_openPipes_38 : decode cX4_openPipes 38 = .ok (.iinc 3 1, 3) := by decide +kernel
theorem dX4_openPipes_41 : decode cX4_openPipes 41 = .ok (.goto (-39), 3) := by decide +kernel
theorem dX4_openPipes_44 : decode cX4_openPipes 44 = .ok (.iconst 0, 1) := by decide +kernel
theorem dX4_openPipes_45 : decode cX4_openPipes 45 = .ok (.istore_n 3, 1) := by decide +kernel
theorem dX4_openPipes_46 : decode cX4_openPipes 46 = .ok (.iload_n 3, 1) := by decide +kernel
theorem dX4_openPipes_47 : decode cX4_openPipes 47 = .ok (.aload_n 0, 1) := by decide +kernel
theorem dX4_openPipes_48 : decode cX4_openPipes 48 = .ok (.getfield 80, 3) := by decide +kernel
theorem dX4_openPipes_51 : decode cX4_openPipes 51 = .ok (.if_icmp .ge 68, 3) := by decide +kernel
theorem dX4_openPipes_54 : decode cX4_openPipes 54 = .ok (.aload_n 0, 1) := by decide +kernel
theorem dX4_openPipes_55 : decode cX4_openPipes 55 = .ok (.getfield 47, 3) := by decide +kernel
theorem dX4_openPipes_58 : decode cX4_openPipes 58 = .ok (.iload_n 3, 1) := by decide +kernel
theorem dX4_openPipes_59 : decode cX4_openPipes 59 = .ok (.iaload, 1) := by decide +kernel
theorem dX4_openPipes_60 : decode cX4_openPipes 60 = .ok (.istore 4, 2) := by decide +kernel
theorem dX4_openPipes_62 : decode cX4_openPipes 62 = .ok (.aload_n 0, 1) := by decide +kernel
theorem dX4_openPipes_63 : decode cX4_openPipes 63 = .ok (.getfield 44, 3) := by decide +kernel
theorem dX4_openPipes_66 : decode cX4_openPipes 66 = .ok (.iload_n 3, 1) := by decide +kernel
theorem dX4_openPipes_67 : decode cX4_openPipes 67 = .ok (.iaload, 1) := by decide +kernel
theorem dX4_openPipes_68 : decode cX4_openPipes 68 = .ok (.iload_n 1, 1) := by decide +kernel
theorem dX4_openPipes_69 : decode cX4_openPipes 69 = .ok (.if_icmp .ne 19, 3) := by decide +kernel
theorem dX4_openPipes_72 : decode cX4_openPipes 72 = .ok (.aload_n 0, 1) := by decide +kernel
theorem dX4_openPipes_73 : decode cX4_openPipes 73 = .ok (.getfield 50, 3) := by decide +kernel
theorem dX4_openPipes_76 : decode cX4_openPipes 76 = .ok (.iload_n 3, 1) := by decide +kernel
theorem dX4_openPipes_77 : decode cX4_openPipes 77 = .ok (.ishr, 1) := by decide +kernel
theorem dX4_openPipes_78 : decode cX4_openPipes 78 = .ok (.iconst 1, 1) := by decide +kernel
theorem dX4_openPipes_79 : decode cX4_openPipes 79 = .ok (.iand, 1) := by decide +kernel
theorem dX4_openPipes_80 : decode cX4_openPipes 80 = .ok (.iconst 1, 1) := by decide +kernel
theorem dX4_openPipes_81 : decode cX4_openPipes 81 = .ok (.if_icmp .ne 7, 3) := by decide +kernel
theorem dX4_openPipes_84 : decode cX4_openPipes 84 = .ok (.iconst 1, 1) := by decide +kernel
theorem dX4_openPipes_85 : decode cX4_openPipes 85 = .ok (.goto 4, 3) := by decide +kernel
theorem dX4_openPipes_88 : decode cX4_openPipes 88 = .ok (.iconst 0, 1) := by decide +kernel
theorem dX4_openPipes_89 : decode cX4_openPipes 89 = .ok (.istore 5, 2) := by decide +kernel
theorem dX4_openPipes_91 : decode cX4_openPipes 91 = .ok (.iload 5, 2) := by decide +kernel
theorem dX4_openPipes_93 : decode cX4_openPipes 93 = .ok (.ifCond .eq 20, 3) := by decide +kernel
theorem dX4_openPipes_96 : decode cX4_openPipes 96 = .ok (.iload 4, 2) := by decide +kernel
theorem dX4_openPipes_98 : decode cX4_openPipes 98 = .ok (.ifCond .lt 15, 3) := by decide +kernel
theorem dX4_openPipes_101 : decode cX4_openPipes 101 = .ok (.iload 4, 2) := by decide +kernel
theorem dX4_openPipes_103 : decode cX4_openPipes 103 = .ok (.aload_n 2, 1) := by decide +kernel
theorem dX4_openPipes_104 : decode cX4_openPipes 104 = .ok (.arraylength, 1) := by decide +kernel
theorem dX4_openPipes_105 : decode cX4_openPipes 105 = .ok (.if_icmp .ge 8, 3) := by decide +kernel
theorem dX4_openPipes_108 : decode cX4_openPipes 108 = .ok (.aload_n 2, 1) := by decide +kernel
theorem dX4_openPipes_109 : decode cX4_openPipes 109 = .ok (.iload 4, 2) := by decide +kernel
theorem dX4_openPipes_111 : decode cX4_openPipes 111 = .ok (.iconst 0, 1) := by decide +kernel
theorem dX4_openPipes_112 : decode cX4_openPipes 112 = .ok (.iastore, 1) := by decide +kernel
theorem dX4_openPipes_113 : decode cX4_openPipes 113 = .ok (.iinc 3 1, 3) := by decide +kernel
theorem dX4_openPipes_116 : decode cX4_openPipes 116 = .ok (.goto (-70), 3) := by decide +kernel
theorem dX4_openPipes_119 : decode cX4_openPipes 119 = .ok (.return_, 1) := by decide +kernel
theorem dJ6_numberOfLeadingZeros_0f7a4_0 : decode cJ6_numberOfLeadingZeros_0f7a4 0 = .ok (.iload_n 0, 1) := by decide +kernel
theorem dJ6_numberOfLeadingZeros_0f7a4_1 : decode cJ6_numberOfLeadingZeros_0f7a4 1 = .ok (.ifCond .gt 14, 3) := by decide +kernel
theorem dJ6_numberOfLeadingZeros_0f7a4_4 : decode cJ6_numberOfLeadingZeros_0f7a4 4 = .ok (.iload_n 0, 1) := by decide +kernel
theorem dJ6_numberOfLeadingZeros_0f7a4_5 : decode cJ6_numberOfLeadingZeros_0f7a4 5 = .ok (.ifCond .ne 8, 3) := by decide +kernel
theorem dJ6_numberOfLeadingZeros_0f7a4_8 : decode cJ6_numberOfLeadingZeros_0f7a4 8 = .ok (.bipush 32, 2) := by decide +kernel
theorem dJ6_numberOfLeadingZeros_0f7a4_10 : decode cJ6_numberOfLeadingZeros_0f7a4 10 = .ok (.goto 4, 3) := by decide +kernel
theorem dJ6_numberOfLeadingZeros_0f7a4_13 : decode cJ6_numberOfLeadingZeros_0f7a4 13 = .ok (.iconst 0, 1) := by decide +kernel
theorem dJ6_numberOfLeadingZeros_0f7a4_14 : decode cJ6_numberOfLeadingZeros_0f7a4 14 = .ok (.ireturn, 1) := by decide +kernel
theorem dJ6_numberOfLeadingZeros_0f7a4_15 : decode cJ6_numberOfLeadingZeros_0f7a4 15 = .ok (.bipush 31, 2) := by decide +kernel
theorem dJ6_numberOfLeadingZeros_0f7a4_17 : decode cJ6_numberOfLeadingZeros_0f7a4 17 = .ok (.istore_n 1, 1) := by decide +kernel
theorem dJ6_numberOfLeadingZeros_0f7a4_18 : decode cJ6_numberOfLeadingZeros_0f7a4 18 = .ok (.iload_n 0, 1) := by decide +kernel
theorem dJ6_numberOfLeadingZeros_0f7a4_19 : decode cJ6_numberOfLeadingZeros_0f7a4 19 = .ok (.ldc_w 264, 3) := by decide +kernel
theorem dJ6_numberOfLeadingZeros_0f7a4_22 : decode cJ6_numberOfLeadingZeros_0f7a4 22 = .ok (.if_icmp .lt 11, 3) := by decide +kernel
theorem dJ6_numberOfLeadingZeros_0f7a4_25 : decode cJ6_numberOfLeadingZeros_0f7a4 25 = .ok (.iinc 1 (-16), 3) := by decide +kernel
theorem dJ6_numberOfLeadingZeros_0f7a4_28 : decode cJ6_numberOfLeadingZeros_0f7a4 28 = .ok (.iload_n 0, 1) := by decide +kernel
theorem dJ6_numberOfLeadingZeros_0f7a4_29 : decode cJ6_numberOfLeadingZeros_0f7a4 29 = .ok (.bipush 16, 2) := by decide +kernel
theorem dJ6_numberOfLeadingZeros_0f7a4_31 : decode cJ6_numberOfLeadingZeros_0f7a4 31 = .ok (.iushr, 1) := by decide +kernel
theorem dJ6_numberOfLeadingZeros_0f7a4_32 : decode cJ6_numberOfLeadingZeros_0f7a4 32 = .ok (.istore_n 0, 1) := by decide +kernel
theorem dJ6_numberOfLeadingZeros_0f7a4_33 : decode cJ6_numberOfLeadingZeros_0f7a4 33 = .ok (.iload_n 0, 1) := by decide +kernel
theorem dJ6_numberOfLeadingZeros_0f7a4_34 : decode cJ6_numberOfLeadingZeros_0f7a4 34 = .ok (.sipush 256, 3) := by decide +kernel
theorem dJ6_numberOfLeadingZeros_0f7a4_37 : decode cJ6_numberOfLeadingZeros_0f7a4 37 = .ok (.if_icmp .lt 11, 3) := by decide +kernel
theorem dJ6_numberOfLeadingZeros_0f7a4_40 : decode cJ6_numberOfLeadingZeros_0f7a4 40 = .ok (.iinc 1 (-8), 3) := by decide +kernel
theorem dJ6_numberOfLeadingZeros_0f7a4_43 : decode cJ6_numberOfLeadingZeros_0f7a4 43 = .ok (.iload_n 0, 1) := by decide +kernel
theorem dJ6_numberOfLeadingZeros_0f7a4_44 : decode cJ6_numberOfLeadingZeros_0f7a4 44 = .ok (.bipush 8, 2) := by decide +kernel
theorem dJ6_numberOfLeadingZeros_0f7a4_46 : decode cJ6_numberOfLeadingZeros_0f7a4 46 = .ok (.iushr, 1) := by decide +kernel
theorem dJ6_numberOfLeadingZeros_0f7a4_47 : decode cJ6_numberOfLeadingZeros_0f7a4 47 = .ok (.istore_n 0, 1) := by decide +kernel
theorem dJ6_numberOfLeadingZeros_0f7a4_48 : decode cJ6_numberOfLeadingZeros_0f7a4 48 = .ok (.iload_n 0, 1) := by decide +kernel
theorem dJ6_numberOfLeadingZeros_0f7a4_49 : decode cJ6_numberOfLeadingZeros_0f7a4 49 = .ok (.bipush 16, 2) := by decide +kernel
theorem dJ6_numberOfLeadingZeros_0f7a4_51 : decode cJ6_numberOfLeadingZeros_0f7a4 51 = .ok (.if_icmp .lt 10, 3) := by decide +kernel
theorem dJ6_numberOfLeadingZeros_0f7a4_54 : decode cJ6_numberOfLeadingZeros_0f7a4 54 = .ok (.iinc 1 (-4), 3) := by decide +kernel
theorem dJ6_numberOfLeadingZeros_0f7a4_57 : decode cJ6_numberOfLeadingZeros_0f7a4 57 = .ok (.iload_n 0, 1) := by decide +kernel
theorem dJ6_numberOfLeadingZeros_0f7a4_58 : decode cJ6_numberOfLeadingZeros_0f7a4 58 = .ok (.iconst 4, 1) := by decide +kernel
theorem dJ6_numberOfLeadingZeros_0f7a4_59 : decode cJ6_numberOfLeadingZeros_0f7a4 59 = .ok (.iushr, 1) := by decide +kernel
theorem dJ6_numberOfLeadingZeros_0f7a4_60 : decode cJ6_numberOfLeadingZeros_0f7a4 60 = .ok (.istore_n 0, 1) := by decide +kernel
theorem dJ6_numberOfLeadingZeros_0f7a4_61 : decode cJ6_numberOfLeadingZeros_0f7a4 61 = .ok (.iload_n 0, 1) := by decide +kernel
theorem dJ6_numberOfLeadingZeros_0f7a4_62 : decode cJ6_numberOfLeadingZeros_0f7a4 62 = .ok (.iconst 4, 1) := by decide +kernel
theorem dJ6_numberOfLeadingZeros_0f7a4_63 : decode cJ6_numberOfLeadingZeros_0f7a4 63 = .ok (.if_icmp .lt 10, 3) := by decide +kernel
theorem dJ6_numberOfLeadingZeros_0f7a4_66 : decode cJ6_numberOfLeadingZeros_0f7a4 66 = .ok (.iinc 1 (-2), 3) := by decide +kernel
theorem dJ6_numberOfLeadingZeros_0f7a4_69 : decode cJ6_numberOfLeadingZeros_0f7a4 69 = .ok (.iload_n 0, 1) := by decide +kernel
theorem dJ6_numberOfLeadingZeros_0f7a4_70 : decode cJ6_numberOfLeadingZeros_0f7a4 70 = .ok (.iconst 2, 1) := by decide +kernel
theorem dJ6_numberOfLeadingZeros_0f7a4_71 : decode cJ6_numberOfLeadingZeros_0f7a4 71 = .ok (.iushr, 1) := by decide +kernel
theorem dJ6_numberOfLeadingZeros_0f7a4_72 : decode cJ6_numberOfLeadingZeros_0f7a4 72 = .ok (.istore_n 0, 1) := by decide +kernel
theorem dJ6_numberOfLeadingZeros_0f7a4_73 : decode cJ6_numberOfLeadingZeros_0f7a4 73 = .ok (.iload_n 1, 1) := by decide +kernel
theorem dJ6_numberOfLeadingZeros_0f7a4_74 : decode cJ6_numberOfLeadingZeros_0f7a4 74 = .ok (.iload_n 0, 1) := by decide +kernel
theorem dJ6_numberOfLeadingZeros_0f7a4_75 : decode cJ6_numberOfLeadingZeros_0f7a4 75 = .ok (.iconst 1, 1) := by decide +kernel
theorem dJ6_numberOfLeadingZeros_0f7a4_76 : decode cJ6_numberOfLeadingZeros_0f7a4 76 = .ok (.iushr, 1) := by decide +kernel
theorem dJ6_numberOfLeadingZeros_0f7a4_77 : decode cJ6_numberOfLeadingZeros_0f7a4 77 = .ok (.isub, 1) := by decide +kernel
theorem dJ6_numberOfLeadingZeros_0f7a4_78 : decode cJ6_numberOfLeadingZeros_0f7a4 78 = .ok (.ireturn, 1) := by decide +kernel
theorem dJ6_numberOfTrailingZeros_0f7a4_0 : decode cJ6_numberOfTrailingZeros_0f7a4 0 = .ok (.iload_n 0, 1) := by decide +kernel
theorem dJ6_numberOfTrailingZeros_0f7a4_1 : decode cJ6_numberOfTrailingZeros_0f7a4 1 = .ok (.iconst (-1), 1) := by decide +kernel
theorem dJ6_numberOfTrailingZeros_0f7a4_2 : decode cJ6_numberOfTrailingZeros_0f7a4 2 = .ok (.ixor, 1) := by decide +kernel
theorem dJ6_numberOfTrailingZeros_0f7a4_3 : decode cJ6_numberOfTrailingZeros_0f7a4 3 = .ok (.iload_n 0, 1) := by decide +kernel
theorem dJ6_numberOfTrailingZeros_0f7a4_4 : decode cJ6_numberOfTrailingZeros_0f7a4 4 = .ok (.iconst 1, 1) := by decide +kernel
theorem dJ6_numberOfTrailingZeros_0f7a4_5 : decode cJ6_numberOfTrailingZeros_0f7a4 5 = .ok (.isub, 1) := by decide +kernel
theorem dJ6_numberOfTrailingZeros_0f7a4_6 : decode cJ6_numberOfTrailingZeros_0f7a4 6 = .ok (.iand, 1) := by decide +kernel
theorem dJ6_numberOfTrailingZeros_0f7a4_7 : decode cJ6_numberOfTrailingZeros_0f7a4 7 = .ok (.istore_n 0, 1) := by decide +kernel
theorem dJ6_numberOfTrailingZeros_0f7a4_8 : decode cJ6_numberOfTrailingZeros_0f7a4 8 = .ok (.iload_n 0, 1) := by decide +kernel
theorem dJ6_numberOfTrailingZeros_0f7a4_9 : decode cJ6_numberOfTrailingZeros_0f7a4 9 = .ok (.ifCond .gt 8, 3) := by decide +kernel
theorem dJ6_numberOfTrailingZeros_0f7a4_12 : decode cJ6_numberOfTrailingZeros_0f7a4 12 = .ok (.iload_n 0, 1) := by decide +kernel
theorem dJ6_numberOfTrailingZeros_0f7a4_13 : decode cJ6_numberOfTrailingZeros_0f7a4 13 = .ok (.bipush 32, 2) := by decide +kernel
theorem dJ6_numberOfTrailingZeros_0f7a4_15 : decode cJ6_numberOfTrailingZeros_0f7a4 15 = .ok (.iand, 1) := by decide +kernel
theorem dJ6_numberOfTrailingZeros_0f7a4_16 : decode cJ6_numberOfTrailingZeros_0f7a4 16 = .ok (.ireturn, 1) := by decide +kernel
theorem dJ6_numberOfTrailingZeros_0f7a4_17 : decode cJ6_numberOfTrailingZeros_0f7a4 17 = .ok (.iconst 1, 1) := by decide +kernel
theorem dJ6_numberOfTrailingZeros_0f7a4_18 : decode cJ6_numberOfTrailingZeros_0f7a4 18 = .ok (.istore_n 1, 1) := by decide +kernel
theorem dJ6_numberOfTrailingZeros_0f7a4_19 : decode cJ6_numberOfTrailingZeros_0f7a4 19 = .ok (.iload_n 0, 1) := by decide +kernel
theorem dJ6_numberOfTrailingZeros_0f7a4_20 : decode cJ6_numberOfTrailingZeros_0f7a4 20 = .ok (.ldc_w 264, 3) := by decide +kernel
theorem dJ6_numberOfTrailingZeros_0f7a4_23 : decode cJ6_numberOfTrailingZeros_0f7a4 23 = .ok (.if_icmp .le 11, 3) := by decide +kernel
theorem dJ6_numberOfTrailingZeros_0f7a4_26 : decode cJ6_numberOfTrailingZeros_0f7a4 26 = .ok (.iinc 1 16, 3) := by decide +kernel
theorem dJ6_numberOfTrailingZeros_0f7a4_29 : decode cJ6_numberOfTrailingZeros_0f7a4 29 = .ok (.iload_n 0, 1) := by decide +kernel
theorem dJ6_numberOfTrailingZeros_0f7a4_30 : decode cJ6_numberOfTrailingZeros_0f7a4 30 = .ok (.bipush 16, 2) := by decide +kernel
theorem dJ6_numberOfTrailingZeros_0f7a4_32 : decode cJ6_numberOfTrailingZeros_0f7a4 32 = .ok (.iushr, 1) := by decide +kernel
theorem dJ6_numberOfTrailingZeros_0f7a4_33 : decode cJ6_numberOfTrailingZeros_0f7a4 33 = .ok (.istore_n 0, 1) := by decide +kernel
theorem dJ6_numberOfTrailingZeros_0f7a4_34 : decode cJ6_numberOfTrailingZeros_0f7a4 34 = .ok (.iload_n 0, 1) := by decide +kernel
theorem dJ6_numberOfTrailingZeros_0f7a4_35 : decode cJ6_numberOfTrailingZeros_0f7a4 35 = .ok (.sipush 256, 3) := by decide +kernel
theorem dJ6_numberOfTrailingZeros_0f7a4_38 : decode cJ6_numberOfTrailingZeros_0f7a4 38 = .ok (.if_icmp .le 11, 3) := by decide +kernel
theorem dJ6_numberOfTrailingZeros_0f7a4_41 : decode cJ6_numberOfTrailingZeros_0f7a4 41 = .ok (.iinc 1 8, 3) := by decide +kernel
theorem dJ6_numberOfTrailingZeros_0f7a4_44 : decode cJ6_numberOfTrailingZeros_0f7a4 44 = .ok (.iload_n 0, 1) := by decide +kernel
theorem dJ6_numberOfTrailingZeros_0f7a4_45 : decode cJ6_numberOfTrailingZeros_0f7a4 45 = .ok (.bipush 8, 2) := by decide +kernel
theorem dJ6_numberOfTrailingZeros_0f7a4_47 : decode cJ6_numberOfTrailingZeros_0f7a4 47 = .ok (.iushr, 1) := by decide +kernel
theorem dJ6_numberOfTrailingZeros_0f7a4_48 : decode cJ6_numberOfTrailingZeros_0f7a4 48 = .ok (.istore_n 0, 1) := by decide +kernel
theorem dJ6_numberOfTrailingZeros_0f7a4_49 : decode cJ6_numberOfTrailingZeros_0f7a4 49 = .ok (.iload_n 0, 1) := by decide +kernel
theorem dJ6_numberOfTrailingZeros_0f7a4_50 : decode cJ6_numberOfTrailingZeros_0f7a4 50 = .ok (.bipush 16, 2) := by decide +kernel
theorem dJ6_numberOfTrailingZeros_0f7a4_52 : decode cJ6_numberOfTrailingZeros_0f7a4 52 = .ok (.if_icmp .le 10, 3) := by decide +kernel
theorem dJ6_numberOfTrailingZeros_0f7a4_55 : decode cJ6_numberOfTrailingZeros_0f7a4 55 = .ok (.iinc 1 4, 3) := by decide +kernel
theorem dJ6_numberOfTrailingZeros_0f7a4_58 : decode cJ6_numberOfTrailingZeros_0f7a4 58 = .ok (.iload_n 0, 1) := by decide +kernel
theorem dJ6_numberOfTrailingZeros_0f7a4_59 : decode cJ6_numberOfTrailingZeros_0f7a4 59 = .ok (.iconst 4, 1) := by decide +kernel
theorem dJ6_numberOfTrailingZeros_0f7a4_60 : decode cJ6_numberOfTrailingZeros_0f7a4 60 = .ok (.iushr, 1) := by decide +kernel
theorem dJ6_numberOfTrailingZeros_0f7a4_61 : decode cJ6_numberOfTrailingZeros_0f7a4 61 = .ok (.istore_n 0, 1) := by decide +kernel
theorem dJ6_numberOfTrailingZeros_0f7a4_62 : decode cJ6_numberOfTrailingZeros_0f7a4 62 = .ok (.iload_n 0, 1) := by decide +kernel
theorem dJ6_numberOfTrailingZeros_0f7a4_63 : decode cJ6_numberOfTrailingZeros_0f7a4 63 = .ok (.iconst 4, 1) := by decide +kernel
theorem dJ6_numberOfTrailingZeros_0f7a4_64 : decode cJ6_numberOfTrailingZeros_0f7a4 64 = .ok (.if_icmp .le 10, 3) := by decide +kernel
theorem dJ6_numberOfTrailingZeros_0f7a4_67 : decode cJ6_numberOfTrailingZeros_0f7a4 67 = .ok (.iinc 1 2, 3) := by decide +kernel
theorem dJ6_numberOfTrailingZeros_0f7a4_70 : decode cJ6_numberOfTrailingZeros_0f7a4 70 = .ok (.iload_n 0, 1) := by decide +kernel
theorem dJ6_numberOfTrailingZeros_0f7a4_71 : decode cJ6_numberOfTrailingZeros_0f7a4 71 = .ok (.iconst 2, 1) := by decide +kernel
theorem dJ6_numberOfTrailingZeros_0f7a4_72 : decode cJ6_numberOfTrailingZeros_0f7a4 72 = .ok (.iushr, 1) := by decide +kernel
theorem dJ6_numberOfTrailingZeros_0f7a4_73 : decode cJ6_numberOfTrailingZeros_0f7a4 73 = .ok (.istore_n 0, 1) := by decide +kernel
theorem dJ6_numberOfTrailingZeros_0f7a4_74 : decode cJ6_numberOfTrailingZeros_0f7a4 74 = .ok (.iload_n 1, 1) := by decide +kernel
theorem dJ6_numberOfTrailingZeros_0f7a4_75 : decode cJ6_numberOfTrailingZeros_0f7a4 75 = .ok (.iload_n 0, 1) := by decide +kernel
theorem dJ6_numberOfTrailingZeros_0f7a4_76 : decode cJ6_numberOfTrailingZeros_0f7a4 76 = .ok (.iconst 1, 1) := by decide +kernel
theorem dJ6_numberOfTrailingZeros_0f7a4_77 : decode cJ6_numberOfTrailingZeros_0f7a4 77 = .ok (.iushr, 1) := by decide +kernel
theorem dJ6_numberOfTrailingZeros_0f7a4_78 : decode cJ6_numberOfTrailingZeros_0f7a4 78 = .ok (.iadd, 1) := by decide +kernel
theorem dJ6_numberOfTrailingZeros_0f7a4_79 : decode cJ6_numberOfTrailingZeros_0f7a4 79 = .ok (.ireturn, 1) := by decide +kernel
theorem dJ6_bitCount_0f7a4_0 : decode cJ6_bitCount_0f7a4 0 = .ok (.iload_n 0, 1) := by decide +kernel
theorem dJ6_bitCount_0f7a4_1 : decode cJ6_bitCount_0f7a4 1 = .ok (.iload_n 0, 1) := by decide +kernel
theorem dJ6_bitCount_0f7a4_2 : decode cJ6_bitCount_0f7a4 2 = .ok (.iconst 1, 1) := by decide +kernel
theorem dJ6_bitCount_0f7a4_3 : decode cJ6_bitCount_0f7a4 3 = .ok (.iushr, 1) := by decide +kernel
theorem dJ6_bitCount_0f7a4_4 : decode cJ6_bitCount_0f7a4 4 = .ok (.ldc_w 265, 3) := by decide +kernel
theorem dJ6_bitCount_0f7a4_7 : decode cJ6_bitCount_0f7a4 7 = .ok (.iand, 1) := by decide +kernel
theorem dJ6_bitCount_0f7a4_8 : decode cJ6_bitCount_0f7a4 8 = .ok (.isub, 1) := by decide +kernel
theorem dJ6_bitCount_0f7a4_9 : decode cJ6_bitCount_0f7a4 9 = .ok (.istore_n 0, 1) := by decide +kernel
theorem dJ6_bitCount_0f7a4_10 : decode cJ6_bitCount_0f7a4 10 = .ok (.iload_n 0, 1) := by decide +kernel
theorem dJ6_bitCount_0f7a4_11 : decode cJ6_bitCount_0f7a4 11 = .ok (.ldc_w 266, 3) := by decide +kernel
theorem dJ6_bitCount_0f7a4_14 : decode cJ6_bitCount_0f7a4 14 = .ok (.iand, 1) := by decide +kernel
theorem dJ6_bitCount_0f7a4_15 : decode cJ6_bitCount_0f7a4 15 = .ok (.iload_n 0, 1) := by decide +kernel
theorem dJ6_bitCount_0f7a4_16 : decode cJ6_bitCount_0f7a4 16 = .ok (.iconst 2, 1) := by decide +kernel
theorem dJ6_bitCount_0f7a4_17 : decode cJ6_bitCount_0f7a4 17 = .ok (.iushr, 1) := by decide +kernel
theorem dJ6_bitCount_0f7a4_18 : decode cJ6_bitCount_0f7a4 18 = .ok (.ldc_w 266, 3) := by decide +kernel
theorem dJ6_bitCount_0f7a4_21 : decode cJ6_bitCount_0f7a4 21 = .ok (.iand, 1) := by decide +kernel
theorem dJ6_bitCount_0f7a4_22 : decode cJ6_bitCount_0f7a4 22 = .ok (.iadd, 1) := by decide +kernel
theorem dJ6_bitCount_0f7a4_23 : decode cJ6_bitCount_0f7a4 23 = .ok (.istore_n 0, 1) := by decide +kernel
theorem dJ6_bitCount_0f7a4_24 : decode cJ6_bitCount_0f7a4 24 = .ok (.iload_n 0, 1) := by decide +kernel
theorem dJ6_bitCount_0f7a4_25 : decode cJ6_bitCount_0f7a4 25 = .ok (.iload_n 0, 1) := by decide +kernel
theorem dJ6_bitCount_0f7a4_26 : decode cJ6_bitCount_0f7a4 26 = .ok (.iconst 4, 1) := by decide +kernel
theorem dJ6_bitCount_0f7a4_27 : decode cJ6_bitCount_0f7a4 27 = .ok (.iushr, 1) := by decide +kernel
theorem dJ6_bitCount_0f7a4_28 : decode cJ6_bitCount_0f7a4 28 = .ok (.iadd, 1) := by decide +kernel
theorem dJ6_bitCount_0f7a4_29 : decode cJ6_bitCount_0f7a4 29 = .ok (.ldc_w 267, 3) := by decide +kernel
theorem dJ6_bitCount_0f7a4_32 : decode cJ6_bitCount_0f7a4 32 = .ok (.iand, 1) := by decide +kernel
theorem dJ6_bitCount_0f7a4_33 : decode cJ6_bitCount_0f7a4 33 = .ok (.istore_n 0, 1) := by decide +kernel
theorem dJ6_bitCount_0f7a4_34 : decode cJ6_bitCount_0f7a4 34 = .ok (.iload_n 0, 1) := by decide +kernel
theorem dJ6_bitCount_0f7a4_35 : decode cJ6_bitCount_0f7a4 35 = .ok (.iload_n 0, 1) := by decide +kernel
theorem dJ6_bitCount_0f7a4_36 : decode cJ6_bitCount_0f7a4 36 = .ok (.bipush 8, 2) := by decide +kernel
theorem dJ6_bitCount_0f7a4_38 : decode cJ6_bitCount_0f7a4 38 = .ok (.iushr, 1) := by decide +kernel
theorem dJ6_bitCount_0f7a4_39 : decode cJ6_bitCount_0f7a4 39 = .ok (.iadd, 1) := by decide +kernel
theorem dJ6_bitCount_0f7a4_40 : decode cJ6_bitCount_0f7a4 40 = .ok (.istore_n 0, 1) := by decide +kernel
theorem dJ6_bitCount_0f7a4_41 : decode cJ6_bitCount_0f7a4 41 = .ok (.iload_n 0, 1) := by decide +kernel
theorem dJ6_bitCount_0f7a4_42 : decode cJ6_bitCount_0f7a4 42 = .ok (.iload_n 0, 1) := by decide +kernel
theorem dJ6_bitCount_0f7a4_43 : decode cJ6_bitCount_0f7a4 43 = .ok (.bipush 16, 2) := by decide +kernel
theorem dJ6_bitCount_0f7a4_45 : decode cJ6_bitCount_0f7a4 45 = .ok (.iushr, 1) := by decide +kernel
theorem dJ6_bitCount_0f7a4_46 : decode cJ6_bitCount_0f7a4 46 = .ok (.iadd, 1) := by decide +kernel
theorem dJ6_bitCount_0f7a4_47 : decode cJ6_bitCount_0f7a4 47 = .ok (.istore_n 0, 1) := by decide +kernel
theorem dJ6_bitCount_0f7a4_48 : decode cJ6_bitCount_0f7a4 48 = .ok (.iload_n 0, 1) := by decide +kernel
theorem dJ6_bitCount_0f7a4_49 : decode cJ6_bitCount_0f7a4 49 = .ok (.bipush 63, 2) := by decide +kernel
theorem dJ6_bitCount_0f7a4_51 : decode cJ6_bitCount_0f7a4 51 = .ok (.iand, 1) := by decide +kernel
theorem dJ6_bitCount_0f7a4_52 : decode cJ6_bitCount_0f7a4 52 = .ok (.ireturn, 1) := by decide +kernel
theorem dJ13_numberOfLeadingZeros_95d88_0 : decode cJ13_numberOfLeadingZeros_95d88 0 = .ok (.lload_n 0, 1) := by decide +kernel
theorem dJ13_numberOfLeadingZeros_95d88_1 : decode cJ13_numberOfLeadingZeros_95d88 1 = .ok (.bipush 32, 2) := by decide +kernel
theorem dJ13_numberOfLeadingZeros_95d88_3 : decode cJ13_numberOfLeadingZeros_95d88 3 = .ok (.lushr, 1) := by decide +kernel
theorem dJ13_numberOfLeadingZeros_95d88_4 : decode cJ13_numberOfLeadingZeros_95d88 4 = .ok (.l2i, 1) := by decide +kernel
theorem dJ13_numberOfLeadingZeros_95d88_5 : decode cJ13_numberOfLeadingZeros_95d88 5 = .ok (.istore_n 2, 1) := by decide +kernel
theorem dJ13_numberOfLeadingZeros_95d88_6 : decode cJ13_numberOfLeadingZeros_95d88 6 = .ok (.iload_n 2, 1) := by decide +kernel
theorem dJ13_numberOfLeadingZeros_95d88_7 : decode cJ13_numberOfLeadingZeros_95d88 7 = .ok (.ifCond .ne 14, 3) := by decide +kernel
theorem dJ13_numberOfLeadingZeros_95d88_10 : decode cJ13_numberOfLeadingZeros_95d88 10 = .ok (.bipush 32, 2) := by decide +kernel
theorem dJ13_numberOfLeadingZeros_95d88_12 : decode cJ13_numberOfLeadingZeros_95d88 12 = .ok (.lload_n 0, 1) := by decide +kernel
theorem dJ13_numberOfLeadingZeros_95d88_13 : decode cJ13_numberOfLeadingZeros_95d88 13 = .ok (.l2i, 1) := by decide +kernel
theorem dJ13_numberOfLeadingZeros_95d88_14 : decode cJ13_numberOfLeadingZeros_95d88 14 = .ok (.invokestatic 308, 3) := by decide +kernel
theorem dJ13_numberOfLeadingZeros_95d88_17 : decode cJ13_numberOfLeadingZeros_95d88 17 = .ok (.iadd, 1) := by decide +kernel
theorem dJ13_numberOfLeadingZeros_95d88_18 : decode cJ13_numberOfLeadingZeros_95d88 18 = .ok (.goto 7, 3) := by decide +kernel
theorem dJ13_numberOfLeadingZeros_95d88_21 : decode cJ13_numberOfLeadingZeros_95d88 21 = .ok (.iload_n 2, 1) := by decide +kernel
theorem dJ13_numberOfLeadingZeros_95d88_22 : decode cJ13_numberOfLeadingZeros_95d88 22 = .ok (.invokestatic 308, 3) := by decide +kernel
theorem dJ13_numberOfLeadingZeros_95d88_25 : decode cJ13_numberOfLeadingZeros_95d88 25 = .ok (.ireturn, 1) := by decide +kernel
theorem dJ13_numberOfTrailingZeros_95d88_0 : decode cJ13_numberOfTrailingZeros_95d88 0 = .ok (.lload_n 0, 1) := by decide +kernel
theorem dJ13_numberOfTrailingZeros_95d88_1 : decode cJ13_numberOfTrailingZeros_95d88 1 = .ok (.l2i, 1) := by decide +kernel
theorem dJ13_numberOfTrailingZeros_95d88_2 : decode cJ13_numberOfTrailingZeros_95d88 2 = .ok (.istore_n 2, 1) := by decide +kernel
theorem dJ13_numberOfTrailingZeros_95d88_3 : decode cJ13_numberOfTrailingZeros_95d88 3 = .ok (.iload_n 2, 1) := by decide +kernel
theorem dJ13_numberOfTrailingZeros_95d88_4 : decode cJ13_numberOfTrailingZeros_95d88 4 = .ok (.ifCond .ne 17, 3) := by decide +kernel
theorem dJ13_numberOfTrailingZeros_95d88_7 : decode cJ13_numberOfTrailingZeros_95d88 7 = .ok (.bipush 32, 2) := by decide +kernel
theorem dJ13_numberOfTrailingZeros_95d88_9 : decode cJ13_numberOfTrailingZeros_95d88 9 = .ok (.lload_n 0, 1) := by decide +kernel
theorem dJ13_numberOfTrailingZeros_95d88_10 : decode cJ13_numberOfTrailingZeros_95d88 10 = .ok (.bipush 32, 2) := by decide +kernel
theorem dJ13_numberOfTrailingZeros_95d88_12 : decode cJ13_numberOfTrailingZeros_95d88 12 = .ok (.lushr, 1) := by decide +kernel
theorem dJ13_numberOfTrailingZeros_95d88_13 : decode cJ13_numberOfTrailingZeros_95d88 13 = .ok (.l2i, 1) := by decide +kernel
theorem dJ13_numberOfTrailingZeros_95d88_14 : decode cJ13_numberOfTrailingZeros_95d88 14 = .ok (.invokestatic 311, 3) := by decide +kernel
theorem dJ13_numberOfTrailingZeros_95d88_17 : decode cJ13_numberOfTrailingZeros_95d88 17 = .ok (.iadd, 1) := by decide +kernel
theorem dJ13_numberOfTrailingZeros_95d88_18 : decode cJ13_numberOfTrailingZeros_95d88 18 = .ok (.goto 7, 3) := by decide +kernel
theorem dJ13_numberOfTrailingZeros_95d88_21 : decode cJ13_numberOfTrailingZeros_95d88 21 = .ok (.iload_n 2, 1) := by decide +kernel
theorem dJ13_numberOfTrailingZeros_95d88_22 : decode cJ13_numberOfTrailingZeros_95d88 22 = .ok (.invokestatic 311, 3) := by decide +kernel
theorem dJ13_numberOfTrailingZeros_95d88_25 : decode cJ13_numberOfTrailingZeros_95d88 25 = .ok (.ireturn, 1) := by decide +kernel
theorem dJ13_bitCount_95d88_0 : decode cJ13_bitCount_95d88 0 = .ok (.lload_n 0, 1) := by decide +kernel
theorem dJ13_bitCount_95d88_1 : decode cJ13_bitCount_95d88 1 = .ok (.lload_n 0, 1) := by decide +kernel
theorem dJ13_bitCount_95d88_2 : decode cJ13_bitCount_95d88 2 = .ok (.iconst 1, 1) := by decide +kernel
theorem dJ13_bitCount_95d88_3 : decode cJ13_bitCount_95d88 3 = .ok (.lushr, 1) := by decide +kernel
theorem dJ13_bitCount_95d88_4 : decode cJ13_bitCount_95d88 4 = .ok (.ldc2_w 314, 3) := by decide +kernel
theorem dJ13_bitCount_95d88_7 : decode cJ13_bitCount_95d88 7 = .ok (.land, 1) := by decide +kernel
theorem dJ13_bitCount_95d88_8 : decode cJ13_bitCount_95d88 8 = .ok (.lsub, 1) := by decide +kernel
theorem dJ13_bitCount_95d88_9 : decode cJ13_bitCount_95d88 9 = .ok (.lstore_n 0, 1) := by decide +kernel
theorem dJ13_bitCount_95d88_10 : decode cJ13_bitCount_95d88 10 = .ok (.lload_n 0, 1) := by decide +kernel
theorem dJ13_bitCount_95d88_11 : decode cJ13_bitCount_95d88 11 = .ok (.ldc2_w 316, 3) := by decide +kernel
theorem dJ13_bitCount_95d88_14 : decode cJ13_bitCount_95d88 14 = .ok (.land, 1) := by decide +kernel
theorem dJ13_bitCount_95d88_15 : decode cJ13_bitCount_95d88 15 = .ok (.lload_n 0, 1) := by decide +kernel
theorem dJ13_bitCount_95d88_16 : decode cJ13_bitCount_95d88 16 = .ok (.iconst 2, 1) := by decide +kernel
theorem dJ13_bitCount_95d88_17 : decode cJ13_bitCount_95d88 17 = .ok (.lushr, 1) := by decide +kernel
theorem dJ13_bitCount_95d88_18 : decode cJ13_bitCount_95d88 18 = .ok (.ldc2_w 316, 3) := by decide +kernel
theorem dJ13_bitCount_95d88_21 : decode cJ13_bitCount_95d88 21 = .ok (.land, 1) := by decide +kernel
theorem dJ13_bitCount_95d88_22 : decode cJ13_bitCount_95d88 22 = .ok (.ladd, 1) := by decide +kernel
theorem dJ13_bitCount_95d88_23 : decode cJ13_bitCount_95d88 23 = .ok (.lstore_n 0, 1) := by decide +kernel
theorem dJ13_bitCount_95d88_24 : decode cJ13_bitCount_95d88 24 = .ok (.lload_n 0, 1) := by decide +kernel
theorem dJ13_bitCount_95d88_25 : decode cJ13_bitCount_95d88 25 = .ok (.lload_n 0, 1) := by decide +kernel
theorem dJ13_bitCount_95d88_26 : decode cJ13_bitCount_95d88 26 = .ok (.iconst 4, 1) := by decide +kernel
theorem dJ13_bitCount_95d88_27 : decode cJ13_bitCount_95d88 27 = .ok (.lushr, 1) := by decide +kernel
theorem dJ13_bitCount_95d88_28 : decode cJ13_bitCount_95d88 28 = .ok (.ladd, 1) := by decide +kernel
theorem dJ13_bitCount_95d88_29 : decode cJ13_bitCount_95d88 29 = .ok (.ldc2_w 318, 3) := by decide +kernel
theorem dJ13_bitCount_95d88_32 : decode cJ13_bitCount_95d88 32 = .ok (.land, 1) := by decide +kernel
theorem dJ13_bitCount_95d88_33 : decode cJ13_bitCount_95d88 33 = .ok (.lstore_n 0, 1) := by decide +kernel
theorem dJ13_bitCount_95d88_34 : decode cJ13_bitCount_95d88 34 = .ok (.lload_n 0, 1) := by decide +kernel
theorem dJ13_bitCount_95d88_35 : decode cJ13_bitCount_95d88 35 = .ok (.lload_n 0, 1) := by decide +kernel
theorem dJ13_bitCount_95d88_36 : decode cJ13_bitCount_95d88 36 = .ok (.bipush 8, 2) := by decide +kernel
theorem dJ13_bitCount_95d88_38 : decode cJ13_bitCount_95d88 38 = .ok (.lushr, 1) := by decide +kernel
theorem dJ13_bitCount_95d88_39 : decode cJ13_bitCount_95d88 39 = .ok (.ladd, 1) := by decide +kernel
theorem dJ13_bitCount_95d88_40 : decode cJ13_bitCount_95d88 40 = .ok (.lstore_n 0, 1) := by decide +kernel
theorem dJ13_bitCount_95d88_41 : decode cJ13_bitCount_95d88 41 = .ok (.lload_n 0, 1) := by decide +kernel
theorem dJ13_bitCount_95d88_42 : decode cJ13_bitCount_95d88 42 = .ok (.lload_n 0, 1) := by decide +kernel
theorem dJ13_bitCount_95d88_43 : decode cJ13_bitCount_95d88 43 = .ok (.bipush 16, 2) := by decide +kernel
theorem dJ13_bitCount_95d88_45 : decode cJ13_bitCount_95d88 45 = .ok (.lushr, 1) := by decide +kernel
theorem dJ13_bitCount_95d88_46 : decode cJ13_bitCount_95d88 46 = .ok (.ladd, 1) := by decide +kernel
theorem dJ13_bitCount_95d88_47 : decode cJ13_bitCount_95d88 47 = .ok (.lstore_n 0, 1) := by decide +kernel
theorem dJ13_bitCount_95d88_48 : decode cJ13_bitCount_95d88 48 = .ok (.lload_n 0, 1) := by decide +kernel
theorem dJ13_bitCount_95d88_49 : decode cJ13_bitCount_95d88 49 = .ok (.lload_n 0, 1) := by decide +kernel
theorem dJ13_bitCount_95d88_50 : decode cJ13_bitCount_95d88 50 = .ok (.bipush 32, 2) := by decide +kernel
theorem dJ13_bitCount_95d88_52 : decode cJ13_bitCount_95d88 52 = .ok (.lushr, 1) := by decide +kernel
theorem dJ13_bitCount_95d88_53 : decode cJ13_bitCount_95d88 53 = .ok (.ladd, 1) := by decide +kernel
theorem dJ13_bitCount_95d88_54 : decode cJ13_bitCount_95d88 54 = .ok (.lstore_n 0, 1) := by decide +kernel
theorem dJ13_bitCount_95d88_55 : decode cJ13_bitCount_95d88 55 = .ok (.lload_n 0, 1) := by decide +kernel
theorem dJ13_bitCount_95d88_56 : decode cJ13_bitCount_95d88 56 = .ok (.l2i, 1) := by decide +kernel
theorem dJ13_bitCount_95d88_57 : decode cJ13_bitCount_95d88 57 = .ok (.bipush 127, 2) := by decide +kernel
theorem dJ13_bitCount_95d88_59 : decode cJ13_bitCount_95d88 59 = .ok (.iand, 1) := by decide +kernel
theorem dJ13_bitCount_95d88_60 : decode cJ13_bitCount_95d88 60 = .ok (.ireturn, 1) := by decide +kernel
theorem dJ9_max_7cf53_0 : decode cJ9_max_7cf53 0 = .ok (.iload_n 0, 1) := by decide +kernel
theorem dJ9_max_7cf53_1 : decode cJ9_max_7cf53 1 = .ok (.iload_n 1, 1) := by decide +kernel
theorem dJ9_max_7cf53_2 : decode cJ9_max_7cf53 2 = .ok (.if_icmp .lt 7, 3) := by decide +kernel
theorem dJ9_max_7cf53_5 : decode cJ9_max_7cf53 5 = .ok (.iload_n 0, 1) := by decide +kernel
theorem dJ9_max_7cf53_6 : decode cJ9_max_7cf53 6 = .ok (.goto 4, 3) := by decide +kernel
theorem dJ9_max_7cf53_9 : decode cJ9_max_7cf53 9 = .ok (.iload_n 1, 1) := by decide +kernel
theorem dJ9_max_7cf53_10 : decode cJ9_max_7cf53 10 = .ok (.ireturn, 1) := by decide +kernel
theorem dJ9_min_7cf53_0 : decode cJ9_min_7cf53 0 = .ok (.iload_n 0, 1) := by decide +kernel
theorem dJ9_min_7cf53_1 : decode cJ9_min_7cf53 1 = .ok (.iload_n 1, 1) := by decide +kernel
theorem dJ9_min_7cf53_2 : decode cJ9_min_7cf53 2 = .ok (.if_icmp .gt 7, 3) := by decide +kernel
theorem dJ9_min_7cf53_5 : decode cJ9_min_7cf53 5 = .ok (.iload_n 0, 1) := by decide +kernel
theorem dJ9_min_7cf53_6 : decode cJ9_min_7cf53 6 = .ok (.goto 4, 3) := by decide +kernel
theorem dJ9_min_7cf53_9 : decode cJ9_min_7cf53 9 = .ok (.iload_n 1, 1) := by decide +kernel
theorem dJ9_min_7cf53_10 : decode cJ9_min_7cf53 10 = .ok (.ireturn, 1) := by decide +kernel
end
section
theorem dX5_init_0 : decode cX5_init 0 = .ok (.aload_n 0, 1) := by decide +kernel
theorem dX5_init_1 : decode cX5_init 1 = .ok (.invokespecial 3, 3) := by decide +kernel
theorem dX5_init_4 : decode cX5_init 4 = .ok (.aload_n 0, 1) := by decide +kernel
theorem dX5_init_5 : decode cX5_init 5 = .ok (.new 9, 3) := by decide +kernel
theorem dX5_init_8 : decode cX5_init 8 = .ok (.dup, 1) := by decide +kernel
theorem dX5_init_9 : decode cX5_init 9 = .ok (.bipush 55, 2) := by decide +kernel
theorem dX5_init_11 : decode cX5_init 11 = .ok (.invokespecial 13, 3) := by decide +kernel
theorem dX5_init_14 : decode cX5_init 14 = .ok (.putfield 16, 3) := by decide +kernel
theorem dX5_init_17 : decode cX5_init 17 = .ok (.aload_n 0, 1) := by decide +kernel
theorem dX5_init_18 : decode cX5_init 18 = .ok (.new 9, 3) := by decide +kernel
theorem dX5_init_21 : decode cX5_init 21 = .ok (.dup, 1) := by decide +kernel
theorem dX5_init_22 : decode cX5_init 22 = .ok (.bipush 40, 2) := by decide +kernel
theorem dX5_init_24 : decode cX5_init 24 = .ok (.invokespecial 13, 3) := by decide +kernel
theorem dX5_init_27 : decode cX5_init 27 = .ok (.putfield 20, 3) := by decide +kernel
theorem dX5_init_30 : decode cX5_init 30 = .ok (.aload_n 0, 1) := by decide +kernel
theorem dX5_init_31 : decode cX5_init 31 = .ok (.new 23, 3) := by decide +kernel
theorem dX5_init_34 : decode cX5_init 34 = .ok (.dup, 1) := by decide +kernel
theorem dX5_init_35 : decode cX5_init 35 = .ok (.invokespecial 25, 3) := by decide +kernel
theorem dX5_init_38 : decode cX5_init 38 = .ok (.putfield 26, 3) := by decide +kernel
theorem dX5_init_41 : decode cX5_init 41 = .ok (.aload_n 0, 1) := by decide +kernel
theorem dX5_init_42 : decode cX5_init 42 = .ok (.new 30, 3) := by decide +kernel
theorem dX5_init_45 : decode cX5_init 45 = .ok (.dup, 1) := by decide +kernel
theorem dX5_init_46 : decode cX5_init 46 = .ok (.invokespecial 32, 3) := by decide +kernel
theorem dX5_init_49 : decode cX5_init 49 = .ok (.putfield 33, 3) := by decide +kernel
theorem dX5_init_52 : decode cX5_init 52 = .ok (.aload_n 0, 1) := by decide +kernel
theorem dX5_init_53 : decode cX5_init 53 = .ok (.new 30, 3) := by decide +kernel
theorem dX5_init_56 : decode cX5_init 56 = .ok (.dup, 1) := by decide +kernel
theorem dX5_init_57 : decode cX5_init 57 = .ok (.invokespecial 32, 3) := by decide +kernel
theorem dX5_init_60 : decode cX5_init 60 = .ok (.putfield 37, 3) := by decide +kernel
theorem dX5_init_63 : decode cX5_init 63 = .ok (.aload_n 0, 1) := by decide +kernel
theorem dX5_init_64 : decode cX5_init 64 = .ok (.bipush 64, 2) := by decide +kernel
theorem dX5_init_66 : decode cX5_init 66 = .ok (.newarray .int, 2) := by decide +kernel
theorem dX5_init_68 : decode cX5_init 68 = .ok (.putfield 40, 3) := by decide +kernel
theorem dX5_init_71 : decode cX5_init 71 = .ok (.aload_n 0, 1) := by decide +kernel
theorem dX5_init_72 : decode cX5_init 72 = .ok (.bipush 40, 2) := by decide +kernel
theorem dX5_init_74 : decode cX5_init 74 = .ok (.newarray .int, 2) := by decide +kernel
theorem dX5_init_76 : decode cX5_init 76 = .ok (.putfield 44, 3) := by decide +kernel
theorem dX5_init_79 : decode cX5_init 79 = .ok (.aload_n 0, 1) := by decide +kernel
theorem dX5_init_80 : decode cX5_init 80 = .ok (.sipush 200, 3) := by decide +kernel
theorem dX5_init_83 : decode cX5_init 83 = .ok (.newarray .int, 2) := by decide +kernel
theorem dX5_init_85 : decode cX5_init 85 = .ok (.putfield 47, 3) := by decide +kernel
theorem dX5_init_88 : decode cX5_init 88 = .ok (.aload_n 0, 1) := by decide +kernel
theorem dX5_init_89 : decode cX5_init 89 = .ok (.bipush 8, 2) := by decide +kernel
theorem dX5_init_91 : decode cX5_init 91 = .ok (.newarray .int, 2) := by decide +kernel
theorem dX5_init_93 : decode cX5_init 93 = .ok (.putfield 50, 3) := by decide +kernel
theorem dX5_init_96 : decode cX5_init 96 = .ok (.aload_n 0, 1) := by decide +kernel
theorem dX5_init_97 : decode cX5_init 97 = .ok (.bipush 8, 2) := by decide +kernel
theorem dX5_init_99 : decode cX5_init 99 = .ok (.newarray .int, 2) := by decide +kernel
theorem dX5_init_101 : decode cX5_init 101 = .ok (.putfield 53, 3) := by decide +kernel
theorem dX5_init_104 : decode cX5_init 104 = .ok (.aload_n 0, 1) := by decide +kernel
theorem dX5_init_105 : decode cX5_init 105 = .ok (.bipush 8, 2) := by decide +kernel
theorem dX5_init_107 : decode cX5_init 107 = .ok (.newarray .int, 2) := by decide +kernel
theorem dX5_init_109 : decode cX5_init 109 = .ok (.putfield 56, 3) := by decide +kernel
theorem dX5_init_112 : decode cX5_init 112 = .ok (.aload_n 0, 1) := by decide +kernel
theorem dX5_init_113 : decode cX5_init 113 = .ok (.new 59, 3) := by decide +kernel
theorem dX5_init_116 : decode cX5_init 116 = .ok (.dup, 1) := by decide +kernel
theorem dX5_init_117 : decode cX5_init 117 = .ok (.invokespecial 61, 3) := by decide +kernel
theorem dX5_init_120 : decode cX5_init 120 = .ok (.putfield 62, 3) := by decide +kernel
theorem dX5_init_123 : decode cX5_init 123 = .ok (.return_, 1) := by decide +kernel
theorem dX5_type_0 : decode cX5_type 0 = .ok (.iload_n 1, 1) := by decide +kernel
theorem dX5_type_1 : decode cX5_type 1 = .ok (.iconst 0, 1) := by decide +kernel
theorem dX5_type_2 : decode cX5_type 2 = .ok (.iconst 1, 1) := by decide +kernel
theorem dX5_type_3 : decode cX5_type 3 = .ok (.invokestatic 66, 3) := by decide +kernel
theorem dX5_type_6 : decode cX5_type 6 = .ok (.ifCond .eq 14, 3) := by decide +kernel
theorem dX5_type_9 : decode cX5_type 9 = .ok (.iload_n 2, 1) := by decide +kernel
theorem dX5_type_10 : decode cX5_type 10 = .ok (.iconst 0, 1) := by decide +kernel
theorem dX5_type_11 : decode cX5_type 11 = .ok (.sipush 255, 3) := by decide +kernel
theorem dX5_type_14 : decode cX5_type 14 = .ok (.invokestatic 66, 3) := by decide +kernel
theorem dX5_type_17 : decode cX5_type 17 = .ok (.ifCond .ne 6, 3) := by decide +kernel
theorem dX5_type_20 : decode cX5_type 20 = .ok (.bipush (-2), 2) := by decide +kernel
theorem dX5_type_22 : decode cX5_type 22 = .ok (.ireturn, 1) := by decide +kernel
theorem dX5_type_23 : decode cX5_type 23 = .ok (.aload_n 0, 1) := by decide +kernel
theorem dX5_type_24 : decode cX5_type 24 = .ok (.iload_n 1, 1) := by decide +kernel
theorem dX5_type_25 : decode cX5_type 25 = .ok (.invokevirtual 70, 3) := by decide +kernel
theorem dX5_type_28 : decode cX5_type 28 = .ok (.astore_n 3, 1) := by decide +kernel
theorem dX5_type_29 : decode cX5_type 29 = .ok (.aload_n 3, 1) := by decide +kernel
theorem dX5_type_30 : decode cX5_type 30 = .ok (.invokevirtual 74, 3) := by decide +kernel
theorem dX5_type_33 : decode cX5_type 33 = .ok (.ifCond .eq 6, 3) := by decide +kernel
theorem dX5_type_36 : decode cX5_type 36 = .ok (.bipush (-4), 2) := by decide +kernel
theorem dX5_type_38 : decode cX5_type 38 = .ok (.ireturn, 1) := by decide +kernel
theorem dX5_type_39 : decode cX5_type 39 = .ok (.aload_n 3, 1) := by decide +kernel
theorem dX5_type_40 : decode cX5_type 40 = .ok (.iload_n 2, 1) := by decide +kernel
theorem dX5_type_41 : decode cX5_type 41 = .ok (.invokevirtual 78, 3) := by decide +kernel
theorem dX5_type_44 : decode cX5_type 44 = .ok (.aload_n 0, 1) := by decide +kernel
theorem dX5_type_45 : decode cX5_type 45 = .ok (.invokevirtual 81, 3) := by decide +kernel
theorem dX5_type_48 : decode cX5_type 48 = .ok (.aload_n 3, 1) := by decide +kernel
theorem dX5_type_49 : decode cX5_type 49 = .ok (.getfield 84, 3) := by decide +kernel
theorem dX5_type_52 : decode cX5_type 52 = .ok (.ireturn, 1) := by decide +kernel
theorem dX5_wipe_0 : decode cX5_wipe 0 = .ok (.iload_n 1, 1) := by decide +kernel
theorem dX5_wipe_1 : decode cX5_wipe 1 = .ok (.iconst 0, 1) := by decide +kernel
theorem dX5_wipe_2 : decode cX5_wipe 2 = .ok (.iconst 1, 1) := by decide +kernel
theorem dX5_wipe_3 : decode cX5_wipe 3 = .ok (.invokestatic 66, 3) := by decide +kernel
theorem dX5_wipe_6 : decode cX5_wipe 6 = .ok (.ifCond .ne 6, 3) := by decide +kernel
theorem dX5_wipe_9 : decode cX5_wipe 9 = .ok (.bipush (-2), 2) := by decide +kernel
theorem dX5_wipe_11 : decode cX5_wipe 11 = .ok (.ireturn, 1) := by decide +kernel
theorem dX5_wipe_12 : decode cX5_wipe 12 = .ok (.aload_n 0, 1) := by decide +kernel
theorem dX5_wipe_13 : decode cX5_wipe 13 = .ok (.iload_n 1, 1) := by decide +kernel
theorem dX5_wipe_14 : decode cX5_wipe 14 = .ok (.invokevirtual 70, 3) := by decide +kernel
theorem dX5_wipe_17 : decode cX5_wipe 17 = .ok (.astore_n 2, 1) := by decide +kernel
theorem dX5_wipe_18 : decode cX5_wipe 18 = .ok (.aload_n 2, 1) := by decide +kernel
theorem dX5_wipe_19 : decode cX5_wipe 19 = .ok (.getfield 84, 3) := by decide +kernel
theorem dX5_wipe_22 : decode cX5_wipe 22 = .ok (.istore_n 3, 1) := by decide +kernel
theorem dX5_wipe_23 : decode cX5_wipe 23 = .ok (.aload_n 2, 1) := by decide +kernel
theorem dX5_wipe_24 : decode cX5_wipe 24 = .ok (.iconst 0, 1) := by decide +kernel
theorem dX5_wipe_25 : decode cX5_wipe 25 = .ok (.putfield 84, 3) := by decide +kernel
theorem dX5_wipe_28 : decode cX5_wipe 28 = .ok (.aload_n 0, 1) := by decide +kernel
theorem dX5_wipe_29 : decode cX5_wipe 29 = .ok (.invokevirtual 81, 3) := by decide +kernel
theorem dX5_wipe_32 : decode cX5_wipe 32 = .ok (.iload_n 3, 1) := by decide +kernel
theorem dX5_wipe_33 : decode cX5_wipe 33 = .ok (.ireturn, 1) := by decide +kernel
theorem dX5_undo_0 : decode cX5_undo 0 = .ok (.iload_n 1, 1) := by decide +kernel
theorem dX5_undo_1 : decode cX5_undo 1 = .ok (.iconst 0, 1) := by decide +kernel
theorem dX5_undo_2 : decode cX5_undo 2 = .ok (.iconst 1, 1) := by decide +kernel
theorem dX5_undo_3 : decode cX5_undo 3 = .ok (.invokestatic 66, 3) := by decide +kernel
theorem dX5_undo_6 : decode cX5_undo 6 = .ok (.ifCond .ne 6, 3) := by decide +kernel
theorem dX5_undo_9 : decode cX5_undo 9 = .ok (.bipush (-2), 2) := by decide +kernel
theorem dX5_undo_11 : decode cX5_undo 11 = .ok (.ireturn, 1) := by decide +kernel
theorem dX5_undo_12 : decode cX5_undo 12 = .ok (.aload_n 0, 1) := by decide +kernel
theorem dX5_undo_13 : decode cX5_undo 13 = .ok (.iload_n 1, 1) := by decide +kernel
theorem dX5_undo_14 : decode cX5_undo 14 = .ok (.invokevirtual 70, 3) := by decide +kernel
theorem dX5_undo_17 : decode cX5_undo 17 = .ok (.astore_n 2, 1) := by decide +kernel
theorem dX5_undo_18 : decode cX5_undo 18 = .ok (.aload_n 2, 1) := by decide +kernel
theorem dX5_undo_19 : decode cX5_undo 19 = .ok (.getfield 84, 3) := by decide +kernel
theorem dX5_undo_22 : decode cX5_undo 22 = .ok (.ifCond .ne 6, 3) := by decide +kernel
theorem dX5_undo_25 : decode cX5_undo 25 = .ok (.bipush (-3), 2) := by decide +kernel
theorem dX5_undo_27 : decode cX5_undo 27 = .ok (.ireturn, 1) := by decide +kernel
theorem dX5_undo_28 : decode cX5_undo 28 = .ok (.aload_n 2, 1) := by decide +kernel
theorem dX5_undo_29 : decode cX5_undo 29 = .ok (.dup, 1) := by decide +kernel
theorem dX5_undo_30 : decode cX5_undo 30 = .ok (.getfield 84, 3) := by decide +kernel
theorem dX5_undo_33 : decode cX5_undo 33 = .ok (.iconst 1, 1) := by decide +kernel
theorem dX5_undo_34 : decode cX5_undo 34 = .ok (.isub, 1) := by decide +kernel
theorem dX5_undo_35 : decode cX5_undo 35 = .ok (.putfield 84, 3) := by decide +kernel
theorem dX5_undo_38 : decode cX5_undo 38 = .ok (.aload_n 0, 1) := by decide +kernel
theorem dX5_undo_39 : decode cX5_undo 39 = .ok (.invokevirtual 81, 3) := by decide +kernel
theorem dX5_undo_42 : decode cX5_undo 42 = .ok (.aload_n 2, 1) := by decide +kernel
theorem dX5_undo_43 : decode cX5_undo 43 = .ok (.getfield 84, 3) := by decide +kernel
theorem dX5_undo_46 : decode cX5_undo 46 = .ok (.ireturn, 1) := by decide +kernel
theorem dX5_fault_0 : decode cX5_fault 0 = .ok (.iload_n 1, 1) := by decide +kernel
theorem dX5_fault_1 : decode cX5_fault 1 = .ok (.iconst 0, 1) := by decide +kernel
theorem dX5_fault_2 : decode cX5_fault 2 = .ok (.iconst 1, 1) := by decide +kernel
theorem dX5_fault_3 : decode cX5_fault 3 = .ok (.invokestatic 66, 3) := by decide +kernel
theorem dX5_fault_6 : decode cX5_fault 6 = .ok (.ifCond .eq 14, 3) := by decide +kernel
theorem dX5_fault_9 : decode cX5_fault 9 = .ok (.aload_n 0, 1) := by decide +kernel
theorem dX5_fault_10 : decode cX5_fault 10 = .ok (.iload_n 1, 1) := by decide +kernel
theorem dX5_fault_11 : decode cX5_fault 11 = .ok (.invokevirtual 70, 3) := by decide +kernel
theorem dX5_fault_14 : decode cX5_fault 14 = .ok (.getfield 88, 3) := by decide +kernel
theorem dX5_fault_17 : decode cX5_fault 17 = .ok (.goto 5, 3) := by decide +kernel
theorem dX5_fault_20 : decode cX5_fault 20 = .ok (.bipush (-2), 2) := by decide +kernel
theorem dX5_fault_22 : decode cX5_fault 22 = .ok (.ireturn, 1) := by decide +kernel
theorem dX5_house_0 : decode cX5_house 0 = .ok (.aload_n 0, 1) := by decide +kernel
theorem dX5_house_1 : decode cX5_house 1 = .ok (.iload_n 1, 1) := by decide +kernel
theorem dX5_house_2 : decode cX5_house 2 = .ok (.invokevirtual 91, 3) := by decide +kernel
theorem dX5_house_5 : decode cX5_house 5 = .ok (.ifCond .eq 13, 3) := by decide +kernel
theorem dX5_house_8 : decode cX5_house 8 = .ok (.iload_n 2, 1) := by decide +kernel
theorem dX5_house_9 : decode cX5_house 9 = .ok (.iconst 0, 1) := by decide +kernel
theorem dX5_house_10 : decode cX5_house 10 = .ok (.bipush 6, 2) := by decide +kernel
theorem dX5_house_12 : decode cX5_house 12 = .ok (.invokestatic 66, 3) := by decide +kernel
theorem dX5_house_15 : decode cX5_house 15 = .ok (.ifCond .ne 6, 3) := by decide +kernel
theorem dX5_house_18 : decode cX5_house 18 = .ok (.bipush (-2), 2) := by decide +kernel
theorem dX5_house_20 : decode cX5_house 20 = .ok (.ireturn, 1) := by decide +kernel
theorem dX5_house_21 : decode cX5_house 21 = .ok (.iload_n 2, 1) := by decide +kernel
theorem dX5_house_22 : decode cX5_house 22 = .ok (.tableswitch 82 0 3 #[30, 43, 56, 69], 30) := by decide +kernel
theorem dX5_house_52 : decode cX5_house 52 = .ok (.aload_n 0, 1) := by decide +kernel
theorem dX5_house_53 : decode cX5_house 53 = .ok (.getfield 26, 3) := by decide +kernel
theorem dX5_house_56 : decode cX5_house 56 = .ok (.getfield 95, 3) := by decide +kernel
theorem dX5_house_59 : decode cX5_house 59 = .ok (.getfield 99, 3) := by decide +kernel
theorem dX5_house_62 : decode cX5_house 62 = .ok (.iload_n 1, 1) := by decide +kernel
theorem dX5_house_63 : decode cX5_house 63 = .ok (.iaload, 1) := by decide +kernel
theorem dX5_house_64 : decode cX5_house 64 = .ok (.ireturn, 1) := by decide +kernel
theorem dX5_house_65 : decode cX5_house 65 = .ok (.aload_n 0, 1) := by decide +kernel
theorem dX5_house_66 : decode cX5_house 66 = .ok (.getfield 26, 3) := by decide +kernel
theorem dX5_house_69 : decode cX5_house 69 = .ok (.getfield 95, 3) := by decide +kernel
theorem dX5_house_72 : decode cX5_house 72 = .ok (.getfield 104, 3) := by decide +kernel
theorem dX5_house_75 : decode cX5_house 75 = .ok (.iload_n 1, 1) := by decide +kernel
theorem dX5_house_76 : decode cX5_house 76 = .ok (.iaload, 1) := by decide +kernel
theorem dX5_house_77 : decode cX5_house 77 = .ok (.ireturn, 1) := by decide +kernel
theorem dX5_house_78 : decode cX5_house 78 = .ok (.aload_n 0, 1) := by decide +kernel
theorem dX5_house_79 : decode cX5_house 79 = .ok (.getfield 26, 3) := by decide +kernel
theorem dX5_house_82 : decode cX5_house 82 = .ok (.getfield 95, 3) := by decide +kernel
theorem dX5_house_85 : decode cX5_house 85 = .ok (.getfield 107, 3) := by decide +kernel
theorem dX5_house_88 : decode cX5_house 88 = .ok (.iload_n 1, 1) := by decide +kernel
theorem dX5_house_89 : decode cX5_house 89 = .ok (.iaload, 1) := by decide +kernel
theorem dX5_house_90 : decode cX5_house 90 = .ok (.ireturn, 1) := by decide +kernel
theorem dX5_house_91 : decode cX5_house 91 = .ok (.aload_n 0, 1) := by decide +kernel
theorem dX5_house_92 : decode cX5_house 92 = .ok (.getfield 26, 3) := by decide +kernel
theorem dX5_house_95 : decode cX5_house 95 = .ok (.getfield 95, 3) := by decide +kernel
theorem dX5_house_98 : decode cX5_house 98 = .ok (.getfield 110, 3) := by decide +kernel
theorem dX5_house_101 : decode cX5_house 101 = .ok (.iload_n 1, 1) := by decide +kernel
theorem dX5_house_102 : decode cX5_house 102 = .ok (.iaload, 1) := by decide +kernel
theorem dX5_house_103 : decode cX5_house 103 = .ok (.ireturn, 1) := by decide +kernel
theorem dX5_house_104 : decode cX5_house 104 = .ok (.aload_n 0, 1) := by decide +kernel
theorem dX5_house_105 : decode cX5_house 105 = .ok (.getfield 26, 3) := by decide +kernel
theorem dX5_house_108 : decode cX5_house 108 = .ok (.getfield 95, 3) := by decide +kernel
theorem dX5_house_111 : decode cX5_house 111 = .ok (.iload_n 1, 1) := by decide +kernel
theorem dX5_house_112 : decode cX5_house 112 = .ok (.iload_n 2, 1) := by decide +kernel
theorem dX5_house_113 : decode cX5_house 113 = .ok (.iconst 4, 1) := by decide +kernel
theorem dX5_house_114 : decode cX5_house 114 = .ok (.isub, 1) := by decide +kernel
theorem dX5_house_115 : decode cX5_house 115 = .ok (.invokevirtual 113, 3) := by decide +kernel
theorem dX5_house_118 : decode cX5_house 118 = .ok (.ireturn, 1) := by decide +kernel
theorem dX5_elbows_0 : decode cX5_elbows 0 = .ok (.iload_n 1, 1) := by decide +kernel
theorem dX5_elbows_1 : decode cX5_elbows 1 = .ok (.invokestatic 117, 3) := by decide +kernel
theorem dX5_elbows_4 : decode cX5_elbows 4 = .ok (.ifCond .eq 15, 3) := by decide +kernel
theorem dX5_elbows_7 : decode cX5_elbows 7 = .ok (.aload_n 0, 1) := by decide +kernel
theorem dX5_elbows_8 : decode cX5_elbows 8 = .ok (.getfield 26, 3) := by decide +kernel
theorem dX5_elbows_11 : decode cX5_elbows 11 = .ok (.getfield 120, 3) := by decide +kernel
theorem dX5_elbows_14 : decode cX5_elbows 14 = .ok (.iload_n 1, 1) := by decide +kernel
theorem dX5_elbows_15 : decode cX5_elbows 15 = .ok (.iaload, 1) := by decide +kernel
theorem dX5_elbows_16 : decode cX5_elbows 16 = .ok (.goto 5, 3) := by decide +kernel
theorem dX5_elbows_19 : decode cX5_elbows 19 = .ok (.bipush (-2), 2) := by decide +kernel
theorem dX5_elbows_21 : decode cX5_elbows 21 = .ok (.ireturn, 1) := by decide +kernel
theorem dX5_set_0 : decode cX5_set 0 = .ok (.iload_n 1, 1) := by decide +kernel
theorem dX5_set_1 : decode cX5_set 1 = .ok (.ifCond .ne 32, 3) := by decide +kernel
theorem dX5_set_4 : decode cX5_set 4 = .ok (.iload_n 2, 1) := by decide +kernel
theorem dX5_set_5 : decode cX5_set 5 = .ok (.iconst 0, 1) := by decide +kernel
theorem dX5_set_6 : decode cX5_set 6 = .ok (.bipush 60, 2) := by decide +kernel
theorem dX5_set_8 : decode cX5_set 8 = .ok (.invokestatic 66, 3) := by decide +kernel
theorem dX5_set_11 : decode cX5_set 11 = .ok (.ifCond .eq 22, 3) := by decide +kernel
theorem dX5_set_14 : decode cX5_set 14 = .ok (.aload_n 0, 1) := by decide +kernel
theorem dX5_set_15 : decode cX5_set 15 = .ok (.getfield 26, 3) := by decide +kernel
theorem dX5_set_18 : decode cX5_set 18 = .ok (.getfield 123, 3) := by decide +kernel
theorem dX5_set_21 : decode cX5_set 21 = .ok (.istore_n 3, 1) := by decide +kernel
theorem dX5_set_22 : decode cX5_set 22 = .ok (.aload_n 0, 1) := by decide +kernel
theorem dX5_set_23 : decode cX5_set 23 = .ok (.getfield 26, 3) := by decide +kernel
theorem dX5_set_26 : decode cX5_set 26 = .ok (.iload_n 2, 1) := by decide +kernel
theorem dX5_set_27 : decode cX5_set 27 = .ok (.putfield 123, 3) := by decide +kernel
theorem dX5_set_30 : decode cX5_set 30 = .ok (.goto 74, 3) := by decide +kernel
theorem dX5_set_33 : decode cX5_set 33 = .ok (.iload_n 1, 1) := by decide +kernel
theorem dX5_set_34 : decode cX5_set 34 = .ok (.iconst 1, 1) := by decide +kernel
theorem dX5_set_35 : decode cX5_set 35 = .ok (.if_icmp .ne 32, 3) := by decide +kernel
theorem dX5_set_38 : decode cX5_set 38 = .ok (.iload_n 2, 1) := by decide +kernel
theorem dX5_set_39 : decode cX5_set 39 = .ok (.iconst 1, 1) := by decide +kernel
theorem dX5_set_40 : decode cX5_set 40 = .ok (.bipush 99, 2) := by decide +kernel
theorem dX5_set_42 : decode cX5_set 42 = .ok (.invokestatic 66, 3) := by decide +kernel
theorem dX5_set_45 : decode cX5_set 45 = .ok (.ifCond .eq 22, 3) := by decide +kernel
theorem dX5_set_48 : decode cX5_set 48 = .ok (.aload_n 0, 1) := by decide +kernel
theorem dX5_set_49 : decode cX5_set 49 = .ok (.getfield 26, 3) := by decide +kernel
theorem dX5_set_52 : decode cX5_set 52 = .ok (.getfield 126, 3) := by decide +kernel
theorem dX5_set_55 : decode cX5_set 55 = .ok (.istore_n 3, 1) := by decide +kernel
theorem dX5_set_56 : decode cX5_set 56 = .ok (.aload_n 0, 1) := by decide +kernel
theorem dX5_set_57 : decode cX5_set 57 = .ok (.getfield 26, 3) := by decide +kernel
theorem dX5_set_60 : decode cX5_set 60 = .ok (.iload_n 2, 1) := by decide +kernel
theorem dX5_set_61 : decode cX5_set 61 = .ok (.putfield 126, 3) := by decide +kernel
theorem dX5_set_64 : decode cX5_set 64 = .ok (.goto 40, 3) := by decide +kernel
theorem dX5_set_67 : decode cX5_set 67 = .ok (.iload_n 1, 1) := by decide +kernel
theorem dX5_set_68 : decode cX5_set 68 = .ok (.iconst 2, 1) := by decide +kernel
theorem dX5_set_69 : decode cX5_set 69 = .ok (.if_icmp .ne 32, 3) := by decide +kernel
theorem dX5_set_72 : decode cX5_set 72 = .ok (.iload_n 2, 1) := by decide +kernel
theorem dX5_set_73 : decode cX5_set 73 = .ok (.iconst 1, 1) := by decide +kernel
theorem dX5_set_74 : decode cX5_set 74 = .ok (.bipush 9, 2) := by decide +kernel
theorem dX5_set_76 : decode cX5_set 76 = .ok (.invokestatic 66, 3) := by decide +kernel
theorem dX5_set_79 : decode cX5_set 79 = .ok (.ifCond .eq 22, 3) := by decide +kernel
theorem dX5_set_82 : decode cX5_set 82 = .ok (.aload_n 0, 1) := by decide +kernel
theorem dX5_set_83 : decode cX5_set 83 = .ok (.getfield 26, 3) := by decide +kernel
theorem dX5_set_86 : decode cX5_set 86 = .ok (.getfield 129, 3) := by decide +kernel
theorem dX5_set_89 : decode cX5_set 89 = .ok (.istore_n 3, 1) := by decide +kernel
theorem dX5_set_90 : decode cX5_set 90 = .ok (.aload_n 0, 1) := by decide +kernel
theorem dX5_set_91 : decode cX5_set 91 = .ok (.getfield 26, 3) := by decide +kernel
theorem dX5_set_94 : decode cX5_set 94 = .ok (.iload_n 2, 1) := by decide +kernel
theorem dX5_set_95 : decode cX5_set 95 = .ok (.putfield 129, 3) := by decide +kernel
theorem dX5_set_98 : decode cX5_set 98 = .ok (.goto 6, 3) := by decide +kernel
theorem dX5_set_101 : decode cX5_set 101 = .ok (.bipush (-2), 2) := by decide +kernel
theorem dX5_set_103 : decode cX5_set 103 = .ok (.ireturn, 1) := by decide +kernel
theorem dX5_set_104 : decode cX5_set 104 = .ok (.aload_n 0, 1) := by decide +kernel
theorem dX5_set_105 : decode cX5_set 105 = .ok (.invokevirtual 132, 3) := by decide +kernel
theorem dX5_set_108 : decode cX5_set 108 = .ok (.iload_n 3, 1) := by decide +kernel
theorem dX5_set_109 : decode cX5_set 109 = .ok (.ireturn, 1) := by decide +kernel
theorem dX5_leak_0 : decode cX5_leak 0 = .ok (.iload_n 1, 1) := by decide +kernel
theorem dX5_leak_1 : decode cX5_leak 1 = .ok (.invokestatic 117, 3) := by decide +kernel
theorem dX5_leak_4 : decode cX5_leak 4 = .ok (.ifCond .eq 20, 3) := by decide +kernel
theorem dX5_leak_7 : decode cX5_leak 7 = .ok (.iload_n 2, 1) := by decide +kernel
theorem dX5_leak_8 : decode cX5_leak 8 = .ok (.iconst 1, 1) := by decide +kernel
theorem dX5_leak_9 : decode cX5_leak 9 = .ok (.bipush 9, 2) := by decide +kernel
theorem dX5_leak_11 : decode cX5_leak 11 = .ok (.invokestatic 66, 3) := by decide +kernel
theorem dX5_leak_14 : decode cX5_leak 14 = .ok (.ifCond .eq 10, 3) := by decide +kernel
theorem dX5_leak_17 : decode cX5_leak 17 = .ok (.iload_n 3, 1) := by decide +kernel
theorem dX5_leak_18 : decode cX5_leak 18 = .ok (.invokestatic 117, 3) := by decide +kernel
theorem dX5_leak_21 : decode cX5_leak 21 = .ok (.ifCond .ne 6, 3) := by decide +kernel
theorem dX5_leak_24 : decode cX5_leak 24 = .ok (.bipush (-2), 2) := by decide +kernel
theorem dX5_leak_26 : decode cX5_leak 26 = .ok (.ireturn, 1) := by decide +kernel
theorem dX5_leak_27 : decode cX5_leak 27 = .ok (.aload_n 0, 1) := by decide +kernel
theorem dX5_leak_28 : decode cX5_leak 28 = .ok (.getfield 26, 3) := by decide +kernel
theorem dX5_leak_31 : decode cX5_leak 31 = .ok (.getfield 135, 3) := by decide +kernel
theorem dX5_leak_34 : decode cX5_leak 34 = .ok (.bipush 6, 2) := by decide +kernel
theorem dX5_leak_36 : decode cX5_leak 36 = .ok (.if_icmp .lt 6, 3) := by decide +kernel
theorem dX5_leak_39 : decode cX5_leak 39 = .ok (.bipush (-4), 2) := by decide +kernel
theorem dX5_leak_41 : decode cX5_leak 41 = .ok (.ireturn, 1) := by decide +kernel
theorem dX5_leak_42 : decode cX5_leak 42 = .ok (.aload_n 0, 1) := by decide +kernel
theorem dX5_leak_43 : decode cX5_leak 43 = .ok (.getfield 26, 3) := by decide +kernel
theorem dX5_leak_46 : decode cX5_leak 46 = .ok (.iload_n 1, 1) := by decide +kernel
theorem dX5_leak_47 : decode cX5_leak 47 = .ok (.iload_n 2, 1) := by decide +kernel
theorem dX5_leak_48 : decode cX5_leak 48 = .ok (.iload_n 3, 1) := by decide +kernel
theorem dX5_leak_49 : decode cX5_leak 49 = .ok (.invokevirtual 138, 3) := by decide +kernel
theorem dX5_leak_52 : decode cX5_leak 52 = .ok (.aload_n 0, 1) := by decide +kernel
theorem dX5_leak_53 : decode cX5_leak 53 = .ok (.invokevirtual 132, 3) := by decide +kernel
theorem dX5_leak_56 : decode cX5_leak 56 = .ok (.aload_n 0, 1) := by decide +kernel
theorem dX5_leak_57 : decode cX5_leak 57 = .ok (.getfield 26, 3) := by decide +kernel
theorem dX5_leak_60 : decode cX5_leak 60 = .ok (.getfield 135, 3) := by decide +kernel
theorem dX5_leak_63 : decode cX5_leak 63 = .ok (.ireturn, 1) := by decide +kernel
theorem dX5_pinch_0 : decode cX5_pinch 0 = .ok (.iload_n 1, 1) := by decide +kernel
theorem dX5_pinch_1 : decode cX5_pinch 1 = .ok (.iload_n 2, 1) := by decide +kernel
theorem dX5_pinch_2 : decode cX5_pinch 2 = .ok (.invokestatic 142, 3) := by decide +kernel
theorem dX5_pinch_5 : decode cX5_pinch 5 = .ok (.ifCond .ne 6, 3) := by decide +kernel
theorem dX5_pinch_8 : decode cX5_pinch 8 = .ok (.bipush (-2), 2) := by decide +kernel
theorem dX5_pinch_10 : decode cX5_pinch 10 = .ok (.ireturn, 1) := by decide +kernel
theorem dX5_pinch_11 : decode cX5_pinch 11 = .ok (.aload_n 0, 1) := by decide +kernel
theorem dX5_pinch_12 : decode cX5_pinch 12 = .ok (.getfield 26, 3) := by decide +kernel
theorem dX5_pinch_15 : decode cX5_pinch 15 = .ok (.getfield 146, 3) := by decide +kernel
theorem dX5_pinch_18 : decode cX5_pinch 18 = .ok (.bipush 6, 2) := by decide +kernel
theorem dX5_pinch_20 : decode cX5_pinch 20 = .ok (.if_icmp .lt 6, 3) := by decide +kernel
theorem dX5_pinch_23 : decode cX5_pinch 23 = .ok (.bipush (-4), 2) := by decide +kernel
theorem dX5_pinch_25 : decode cX5_pinch 25 = .ok (.ireturn, 1) := by decide +kernel
theorem dX5_pinch_26 : decode cX5_pinch 26 = .ok (.aload_n 0, 1) := by decide +kernel
theorem dX5_pinch_27 : decode cX5_pinch 27 = .ok (.getfield 26, 3) := by decide +kernel
theorem dX5_pinch_30 : decode cX5_pinch 30 = .ok (.iload_n 1, 1) := by decide +kernel
theorem dX5_pinch_31 : decode cX5_pinch 31 = .ok (.iload_n 2, 1) := by decide +kernel
theorem dX5_pinch_32 : decode cX5_pinch 32 = .ok (.invokevirtual 149, 3) := by decide +kernel
theorem dX5_pinch_35 : decode cX5_pinch 35 = .ok (.aload_n 0, 1) := by decide +kernel
theorem dX5_pinch_36 : decode cX5_pinch 36 = .ok (.invokevirtual 132, 3) := by decide +kernel
theorem dX5_pinch_39 : decode cX5_pinch 39 = .ok (.aload_n 0, 1) := by decide +kernel
theorem dX5_pinch_40 : decode cX5_pinch 40 = .ok (.getfield 26, 3) := by decide +kernel
theorem dX5_pinch_43 : decode cX5_pinch 43 = .ok (.getfield 146, 3) := by decide +kernel
theorem dX5_pinch_46 : decode cX5_pinch 46 = .ok (.ireturn, 1) := by decide +kernel
theorem dX5_back_0 : decode cX5_back 0 = .ok (.iload_n 1, 1) := by decide +kernel
theorem dX5_back_1 : decode cX5_back 1 = .ok (.iconst 0, 1) := by decide +kernel
theorem dX5_back_2 : decode cX5_back 2 = .ok (.iconst 1, 1) := by decide +kernel
theorem dX5_back_3 : decode cX5_back 3 = .ok (.invokestatic 66, 3) := by decide +kernel
theorem dX5_back_6 : decode cX5_back 6 = .ok (.ifCond .ne 6, 3) := by decide +kernel
theorem dX5_back_9 : decode cX5_back 9 = .ok (.bipush (-2), 2) := by decide +kernel
theorem dX5_back_11 : decode cX5_back 11 = .ok (.ireturn, 1) := by decide +kernel
theorem dX5_back_12 : decode cX5_back 12 = .ok (.iload_n 1, 1) := by decide +kernel
theorem dX5_back_13 : decode cX5_back 13 = .ok (.ifCond .ne 13, 3) := by decide +kernel
theorem dX5_back_16 : decode cX5_back 16 = .ok (.aload_n 0, 1) := by decide +kernel
theorem dX5_back_17 : decode cX5_back 17 = .ok (.getfield 26, 3) := by decide +kernel
theorem dX5_back_20 : decode cX5_back 20 = .ok (.getfield 135, 3) := by decide +kernel
theorem dX5_back_23 : decode cX5_back 23 = .ok (.goto 10, 3) := by decide +kernel
theorem dX5_back_26 : decode cX5_back 26 = .ok (.aload_n 0, 1) := by decide +kernel
theorem dX5_back_27 : decode cX5_back 27 = .ok (.getfield 26, 3) := by decide +kernel
theorem dX5_back_30 : decode cX5_back 30 = .ok (.getfield 146, 3) := by decide +kernel
theorem dX5_back_33 : decode cX5_back 33 = .ok (.istore_n 2, 1) := by decide +kernel
theorem dX5_back_34 : decode cX5_back 34 = .ok (.iload_n 2, 1) := by decide +kernel
theorem dX5_back_35 : decode cX5_back 35 = .ok (.ifCond .ne 6, 3) := by decide +kernel
theorem dX5_back_38 : decode cX5_back 38 = .ok (.bipush (-3), 2) := by decide +kernel
theorem dX5_back_40 : decode cX5_back 40 = .ok (.ireturn, 1) := by decide +kernel
theorem dX5_back_41 : decode cX5_back 41 = .ok (.iload_n 1, 1) := by decide +kernel
theorem dX5_back_42 : decode cX5_back 42 = .ok (.ifCond .ne 19, 3) := by decide +kernel
theorem dX5_back_45 : decode cX5_back 45 = .ok (.aload_n 0, 1) := by decide +kernel
theorem dX5_back_46 : decode cX5_back 46 = .ok (.getfield 26, 3) := by decide +kernel
theorem dX5_back_49 : decode cX5_back 49 = .ok (.dup, 1) := by decide +kernel
theorem dX5_back_50 : decode cX5_back 50 = .ok (.getfield 135, 3) := by decide +kernel
theorem dX5_back_53 : decode cX5_back 53 = .ok (.iconst 1, 1) := by decide +kernel
theorem dX5_back_54 : decode cX5_back 54 = .ok (.isub, 1) := by decide +kernel
theorem dX5_back_55 : decode cX5_back 55 = .ok (.putfield 135, 3) := by decide +kernel
theorem dX5_back_58 : decode cX5_back 58 = .ok (.goto 16, 3) := by decide +kernel
theorem dX5_back_61 : decode cX5_back 61 = .ok (.aload_n 0, 1) := by decide +kernel
theorem dX5_back_62 : decode cX5_back 62 = .ok (.getfield 26, 3) := by decide +kernel
theorem dX5_back_65 : decode cX5_back 65 = .ok (.dup, 1) := by decide +kernel
theorem dX5_back_66 : decode cX5_back 66 = .ok (.getfield 146, 3) := by decide +kernel
theorem dX5_back_69 : decode cX5_back 69 = .ok (.iconst 1, 1) := by decide +kernel
theorem dX5_back_70 : decode cX5_back 70 = .ok (.isub, 1) := by decide +kernel
theorem dX5_back_71 : decode cX5_back 71 = .ok (.putfield 146, 3) := by decide +kernel
theorem dX5_back_74 : decode cX5_back 74 = .ok (.aload_n 0, 1) := by decide +kernel
theorem dX5_back_75 : decode cX5_back 75 = .ok (.invokevirtual 132, 3) := by decide +kernel
theorem dX5_back_78 : decode cX5_back 78 = .ok (.iload_n 2, 1) := by decide +kernel
theorem dX5_back_79 : decode cX5_back 79 = .ok (.iconst 1, 1) := by decide +kernel
theorem dX5_back_80 : decode cX5_back 80 = .ok (.isub, 1) := by decide +kernel
theorem dX5_back_81 : decode cX5_back 81 = .ok (.ireturn, 1) := by decide +kernel
theorem dX5_read_0 : decode cX5_read 0 = .ok (.iload_n 1, 1) := by decide +kernel
theorem dX5_read_1 : decode cX5_read 1 = .ok (.invokestatic 153, 3) := by decide +kernel
theorem dX5_read_4 : decode cX5_read 4 = .ok (.ifCond .ne 6, 3) := by decide +kernel
theorem dX5_read_7 : decode cX5_read 7 = .ok (.bipush (-2), 2) := by decide +kernel
theorem dX5_read_9 : decode cX5_read 9 = .ok (.ireturn, 1) := by decide +kernel
theorem dX5_read_10 : decode cX5_read 10 = .ok (.aload_n 0, 1) := by decide +kernel
theorem dX5_read_11 : decode cX5_read 11 = .ok (.getfield 62, 3) := by decide +kernel
theorem dX5_read_14 : decode cX5_read 14 = .ok (.iload_n 1, 1) := by decide +kernel
theorem dX5_read_15 : decode cX5_read 15 = .ok (.invokevirtual 156, 3) := by decide +kernel
theorem dX5_read_18 : decode cX5_read 18 = .ok (.ifCond .eq 9, 3) := by decide +kernel
theorem dX5_read_21 : decode cX5_read 21 = .ok (.aload_n 0, 1) := by decide +kernel
theorem dX5_read_22 : decode cX5_read 22 = .ok (.iconst 1, 1) := by decide +kernel
theorem dX5_read_23 : decode cX5_read 23 = .ok (.invokevirtual 159, 3) := by decide +kernel
theorem dX5_read_26 : decode cX5_read 26 = .ok (.ireturn, 1) := by decide +kernel
theorem dX5_read_27 : decode cX5_read 27 = .ok (.aload_n 0, 1) := by decide +kernel
theorem dX5_read_28 : decode cX5_read 28 = .ok (.getfield 26, 3) := by decide +kernel
theorem dX5_read_31 : decode cX5_read 31 = .ok (.getfield 146, 3) := by decide +kernel
theorem dX5_read_34 : decode cX5_read 34 = .ok (.istore_n 2, 1) := by decide +kernel
theorem dX5_read_35 : decode cX5_read 35 = .ok (.aload_n 0, 1) := by decide +kernel
theorem dX5_read_36 : decode cX5_read 36 = .ok (.getfield 62, 3) := by decide +kernel
theorem dX5_read_39 : decode cX5_read 39 = .ok (.getfield 163, 3) := by decide +kernel
theorem dX5_read_42 : decode cX5_read 42 = .ok (.iload_n 1, 1) := by decide +kernel
theorem dX5_read_43 : decode cX5_read 43 = .ok (.iaload, 1) := by decide +kernel
theorem dX5_read_44 : decode cX5_read 44 = .ok (.iconst 2, 1) := by decide +kernel
theorem dX5_read_45 : decode cX5_read 45 = .ok (.idiv, 1) := by decide +kernel
theorem dX5_read_46 : decode cX5_read 46 = .ok (.istore_n 3, 1) := by decide +kernel
theorem dX5_read_47 : decode cX5_read 47 = .ok (.iconst 0, 1) := by decide +kernel
theorem dX5_read_48 : decode cX5_read 48 = .ok (.istore 4, 2) := by decide +kernel
theorem dX5_read_50 : decode cX5_read 50 = .ok (.iload 4, 2) := by decide +kernel
theorem dX5_read_52 : decode cX5_read 52 = .ok (.iload_n 3, 1) := by decide +kernel
theorem dX5_read_53 : decode cX5_read 53 = .ok (.if_icmp .ge 75, 3) := by decide +kernel
theorem dX5_read_56 : decode cX5_read 56 = .ok (.aload_n 0, 1) := by decide +kernel
theorem dX5_read_57 : decode cX5_read 57 = .ok (.getfield 26, 3) := by decide +kernel
theorem dX5_read_60 : decode cX5_read 60 = .ok (.getfield 146, 3) := by decide +kernel
theorem dX5_read_63 : decode cX5_read 63 = .ok (.bipush 6, 2) := by decide +kernel
theorem dX5_read_65 : decode cX5_read 65 = .ok (.if_icmp .ge 63, 3) := by decide +kernel
theorem dX5_read_68 : decode cX5_read 68 = .ok (.aload_n 0, 1) := by decide +kernel
theorem dX5_read_69 : decode cX5_read 69 = .ok (.getfield 62, 3) := by decide +kernel
theorem dX5_read_72 : decode cX5_read 72 = .ok (.iload_n 1, 1) := by decide +kernel
theorem dX5_read_73 : decode cX5_read 73 = .ok (.iconst 2, 1) := by decide +kernel
theorem dX5_read_74 : decode cX5_read 74 = .ok (.iload 4, 2) := by decide +kernel
theorem dX5_read_76 : decode cX5_read 76 = .ok (.imul, 1) := by decide +kernel
theorem dX5_read_77 : decode cX5_read 77 = .ok (.invokevirtual 165, 3) := by decide +kernel
theorem dX5_read_80 : decode cX5_read 80 = .ok (.istore 5, 2) := by decide +kernel
theorem dX5_read_82 : decode cX5_read 82 = .ok (.aload_n 0, 1) := by decide +kernel
theorem dX5_read_83 : decode cX5_read 83 = .ok (.getfield 62, 3) := by decide +kernel
theorem dX5_read_86 : decode cX5_read 86 = .ok (.iload_n 1, 1) := by decide +kernel
theorem dX5_read_87 : decode cX5_read 87 = .ok (.iconst 2, 1) := by decide +kernel
theorem dX5_read_88 : decode cX5_read 88 = .ok (.iload 4, 2) := by decide +kernel
theorem dX5_read_90 : decode cX5_read 90 = .ok (.imul, 1) := by decide +kernel
theorem dX5_read_91 : decode cX5_read 91 = .ok (.iconst 1, 1) := by decide +kernel
theorem dX5_read_92 : decode cX5_read 92 = .ok (.iadd, 1) := by decide +kernel
theorem dX5_read_93 : decode cX5_read 93 = .ok (.invokevirtual 165, 3) := by decide +kernel
theorem dX5_read_96 : decode cX5_read 96 = .ok (.istore 6, 2) := by decide +kernel
theorem dX5_read_98 : decode cX5_read 98 = .ok (.iload 5, 2) := by decide +kernel
theorem dX5_read_100 : decode cX5_read 100 = .ok (.iload 6, 2) := by decide +kernel
theorem dX5_read_102 : decode cX5_read 102 = .ok (.invokestatic 142, 3) := by decide +kernel
theorem dX5_read_105 : decode cX5_read 105 = .ok (.ifCond .ne 6, 3) := by decide +kernel
theorem dX5_read_108 : decode cX5_read 108 = .ok (.goto 20, 3) := by decide +kernel
theorem dX5_read_111 : decode cX5_read 111 = .ok (.aload_n 0, 1) := by decide +kernel
theorem dX5_read_112 : decode cX5_read 112 = .ok (.getfield 26, 3) := by decide +kernel
theorem dX5_read_115 : decode cX5_read 115 = .ok (.iload 5, 2) := by decide +kernel
theorem dX5_read_117 : decode cX5_read 117 = .ok (.iload 6, 2) := by decide +kernel
theorem dX5_read_119 : decode cX5_read 119 = .ok (.invokevirtual 149, 3) := by decide +kernel
theorem dX5_read_122 : decode cX5_read 122 = .ok (.iinc 4 1, 3) := by decide +kernel
theorem dX5_read_125 : decode cX5_read 125 = .ok (.goto (-75), 3) := by decide +kernel
theorem dX5_read_128 : decode cX5_read 128 = .ok (.aload_n 0, 1) := by decide +kernel
theorem dX5_read_129 : decode cX5_read 129 = .ok (.invokevirtual 132, 3) := by decide +kernel
theorem dX5_read_132 : decode cX5_read 132 = .ok (.aload_n 0, 1) := by decide +kernel
theorem dX5_read_133 : decode cX5_read 133 = .ok (.getfield 26, 3) := by decide +kernel
theorem dX5_read_136 : decode cX5_read 136 = .ok (.getfield 146, 3) := by decide +kernel
theorem dX5_read_139 : decode cX5_read 139 = .ok (.iload_n 2, 1) := by decide +kernel
theorem dX5_read_140 : decode cX5_read 140 = .ok (.isub, 1) := by decide +kernel
theorem dX5_read_141 : decode cX5_read 141 = .ok (.ireturn, 1) := by decide +kernel
theorem dX5_bag_0 : decode cX5_bag 0 = .ok (.iload_n 1, 1) := by decide +kernel
theorem dX5_bag_1 : decode cX5_bag 1 = .ok (.invokestatic 117, 3) := by decide +kernel
theorem dX5_bag_4 : decode cX5_bag 4 = .ok (.ifCond .eq 12, 3) := by decide +kernel
theorem dX5_bag_7 : decode cX5_bag 7 = .ok (.iload_n 2, 1) := by decide +kernel
theorem dX5_bag_8 : decode cX5_bag 8 = .ok (.iconst 0, 1) := by decide +kernel
theorem dX5_bag_9 : decode cX5_bag 9 = .ok (.iconst 3, 1) := by decide +kernel
theorem dX5_bag_10 : decode cX5_bag 10 = .ok (.invokestatic 66, 3) := by decide +kernel
theorem dX5_bag_13 : decode cX5_bag 13 = .ok (.ifCond .ne 6, 3) := by decide +kernel
theorem dX5_bag_16 : decode cX5_bag 16 = .ok (.bipush (-2), 2) := by decide +kernel
theorem dX5_bag_18 : decode cX5_bag 18 = .ok (.ireturn, 1) := by decide +kernel
theorem dX5_bag_19 : decode cX5_bag 19 = .ok (.aload_n 0, 1) := by decide +kernel
theorem dX5_bag_20 : decode cX5_bag 20 = .ok (.invokevirtual 168, 3) := by decide +kernel
theorem dX5_bag_23 : decode cX5_bag 23 = .ok (.astore_n 3, 1) := by decide +kernel
theorem dX5_bag_24 : decode cX5_bag 24 = .ok (.iload_n 2, 1) := by decide +kernel
theorem dX5_bag_25 : decode cX5_bag 25 = .ok (.tableswitch 48 0 2 #[27, 34, 41], 27) := by decide +kernel
theorem dX5_bag_52 : decode cX5_bag 52 = .ok (.aload_n 3, 1) := by decide +kernel
theorem dX5_bag_53 : decode cX5_bag 53 = .ok (.getfield 172, 3) := by decide +kernel
theorem dX5_bag_56 : decode cX5_bag 56 = .ok (.iload_n 1, 1) := by decide +kernel
theorem dX5_bag_57 : decode cX5_bag 57 = .ok (.iaload, 1) := by decide +kernel
theorem dX5_bag_58 : decode cX5_bag 58 = .ok (.ireturn, 1) := by decide +kernel
theorem dX5_bag_59 : decode cX5_bag 59 = .ok (.aload_n 3, 1) := by decide +kernel
theorem dX5_bag_60 : decode cX5_bag 60 = .ok (.getfield 175, 3) := by decide +kernel
theorem dX5_bag_63 : decode cX5_bag 63 = .ok (.iload_n 1, 1) := by decide +kernel
theorem dX5_bag_64 : decode cX5_bag 64 = .ok (.iaload, 1) := by decide +kernel
theorem dX5_bag_65 : decode cX5_bag 65 = .ok (.ireturn, 1) := by decide +kernel
theorem dX5_bag_66 : decode cX5_bag 66 = .ok (.aload_n 3, 1) := by decide +kernel
theorem dX5_bag_67 : decode cX5_bag 67 = .ok (.getfield 178, 3) := by decide +kernel
theorem dX5_bag_70 : decode cX5_bag 70 = .ok (.iload_n 1, 1) := by decide +kernel
theorem dX5_bag_71 : decode cX5_bag 71 = .ok (.iaload, 1) := by decide +kernel
theorem dX5_bag_72 : decode cX5_bag 72 = .ok (.ireturn, 1) := by decide +kernel
theorem dX5_bag_73 : decode cX5_bag 73 = .ok (.aload_n 3, 1) := by decide +kernel
theorem dX5_bag_74 : decode cX5_bag 74 = .ok (.getfield 181, 3) := by decide +kernel
theorem dX5_bag_77 : decode cX5_bag 77 = .ok (.iload_n 1, 1) := by decide +kernel
theorem dX5_bag_78 : decode cX5_bag 78 = .ok (.iaload, 1) := by decide +kernel
theorem dX5_bag_79 : decode cX5_bag 79 = .ok (.ireturn, 1) := by decide +kernel
theorem dX5_got_0 : decode cX5_got 0 = .ok (.iload_n 1, 1) := by decide +kernel
theorem dX5_got_1 : decode cX5_got 1 = .ok (.invokestatic 117, 3) := by decide +kernel
theorem dX5_got_4 : decode cX5_got 4 = .ok (.ifCond .eq 20, 3) := by decide +kernel
theorem dX5_got_7 : decode cX5_got 7 = .ok (.aload_n 0, 1) := by decide +kernel
theorem dX5_got_8 : decode cX5_got 8 = .ok (.iload_n 2, 1) := by decide +kernel
theorem dX5_got_9 : decode cX5_got 9 = .ok (.invokevirtual 91, 3) := by decide +kernel
theorem dX5_got_12 : decode cX5_got 12 = .ok (.ifCond .eq 12, 3) := by decide +kernel
theorem dX5_got_15 : decode cX5_got 15 = .ok (.iload_n 3, 1) := by decide +kernel
theorem dX5_got_16 : decode cX5_got 16 = .ok (.iconst 0, 1) := by decide +kernel
theorem dX5_got_17 : decode cX5_got 17 = .ok (.iconst 2, 1) := by decide +kernel
theorem dX5_got_18 : decode cX5_got 18 = .ok (.invokestatic 66, 3) := by decide +kernel
theorem dX5_got_21 : decode cX5_got 21 = .ok (.ifCond .ne 6, 3) := by decide +kernel
theorem dX5_got_24 : decode cX5_got 24 = .ok (.bipush (-2), 2) := by decide +kernel
theorem dX5_got_26 : decode cX5_got 26 = .ok (.ireturn, 1) := by decide +kernel
theorem dX5_got_27 : decode cX5_got 27 = .ok (.iload_n 3, 1) := by decide +kernel
theorem dX5_got_28 : decode cX5_got 28 = .ok (.ifCond .ne 13, 3) := by decide +kernel
theorem dX5_got_31 : decode cX5_got 31 = .ok (.aload_n 0, 1) := by decide +kernel
theorem dX5_got_32 : decode cX5_got 32 = .ok (.invokevirtual 168, 3) := by decide +kernel
theorem dX5_got_35 : decode cX5_got 35 = .ok (.iload_n 1, 1) := by decide +kernel
theorem dX5_got_36 : decode cX5_got 36 = .ok (.iload_n 2, 1) := by decide +kernel
theorem dX5_got_37 : decode cX5_got 37 = .ok (.invokevirtual 184, 3) := by decide +kernel
theorem dX5_got_40 : decode cX5_got 40 = .ok (.ireturn, 1) := by decide +kernel
theorem dX5_got_41 : decode cX5_got 41 = .ok (.aload_n 0, 1) := by decide +kernel
theorem dX5_got_42 : decode cX5_got 42 = .ok (.getfield 26, 3) := by decide +kernel
theorem dX5_got_45 : decode cX5_got 45 = .ok (.getfield 95, 3) := by decide +kernel
theorem dX5_got_48 : decode cX5_got 48 = .ok (.getfield 187, 3) := by decide +kernel
theorem dX5_got_51 : decode cX5_got 51 = .ok (.iload_n 1, 1) := by decide +kernel
theorem dX5_got_52 : decode cX5_got 52 = .ok (.bipush 8, 2) := by decide +kernel
theorem dX5_got_54 : decode cX5_got 54 = .ok (.imul, 1) := by decide +kernel
theorem dX5_got_55 : decode cX5_got 55 = .ok (.iload_n 2, 1) := by decide +kernel
theorem dX5_got_56 : decode cX5_got 56 = .ok (.iadd, 1) := by decide +kernel
theorem dX5_got_57 : decode cX5_got 57 = .ok (.iaload, 1) := by decide +kernel
theorem dX5_got_58 : decode cX5_got 58 = .ok (.istore 4, 2) := by decide +kernel
theorem dX5_got_60 : decode cX5_got 60 = .ok (.iload_n 3, 1) := by decide +kernel
theorem dX5_got_61 : decode cX5_got 61 = .ok (.iconst 1, 1) := by decide +kernel
theorem dX5_got_62 : decode cX5_got 62 = .ok (.if_icmp .ne 11, 3) := by decide +kernel
theorem dX5_got_65 : decode cX5_got 65 = .ok (.iload 4, 2) := by decide +kernel
theorem dX5_got_67 : decode cX5_got 67 = .ok (.invokestatic 190, 3) := by decide +kernel
theorem dX5_got_70 : decode cX5_got 70 = .ok (.goto 5, 3) := by decide +kernel
theorem dX5_got_73 : decode cX5_got 73 = .ok (.iload 4, 2) := by decide +kernel
theorem dX5_got_75 : decode cX5_got 75 = .ok (.ireturn, 1) := by decide +kernel
theorem dX5_held_0 : decode cX5_held 0 = .ok (.aload_n 0, 1) := by decide +kernel
theorem dX5_held_1 : decode cX5_held 1 = .ok (.iload_n 1, 1) := by decide +kernel
theorem dX5_held_2 : decode cX5_held 2 = .ok (.invokevirtual 91, 3) := by decide +kernel
theorem dX5_held_5 : decode cX5_held 5 = .ok (.ifCond .eq 12, 3) := by decide +kernel
theorem dX5_held_8 : decode cX5_held 8 = .ok (.iload_n 2, 1) := by decide +kernel
theorem dX5_held_9 : decode cX5_held 9 = .ok (.iconst 0, 1) := by decide +kernel
theorem dX5_held_10 : decode cX5_held 10 = .ok (.iconst 1, 1) := by decide +kernel
theorem dX5_held_11 : decode cX5_held 11 = .ok (.invokestatic 66, 3) := by decide +kernel
theorem dX5_held_14 : decode cX5_held 14 = .ok (.ifCond .ne 6, 3) := by decide +kernel
theorem dX5_held_17 : decode cX5_held 17 = .ok (.bipush (-2), 2) := by decide +kernel
theorem dX5_held_19 : decode cX5_held 19 = .ok (.ireturn, 1) := by decide +kernel
theorem dX5_held_20 : decode cX5_held 20 = .ok (.aload_n 0, 1) := by decide +kernel
theorem dX5_held_21 : decode cX5_held 21 = .ok (.invokevirtual 168, 3) := by decide +kernel
theorem dX5_held_24 : decode cX5_held 24 = .ok (.astore_n 3, 1) := by decide +kernel
theorem dX5_held_25 : decode cX5_held 25 = .ok (.iload_n 2, 1) := by decide +kernel
theorem dX5_held_26 : decode cX5_held 26 = .ok (.ifCond .ne 13, 3) := by decide +kernel
theorem dX5_held_29 : decode cX5_held 29 = .ok (.aload_n 3, 1) := by decide +kernel
theorem dX5_held_30 : decode cX5_held 30 = .ok (.iconst 1, 1) := by decide +kernel
theorem dX5_held_31 : decode cX5_held 31 = .ok (.iload_n 1, 1) := by decide +kernel
theorem dX5_held_32 : decode cX5_held 32 = .ok (.ishl, 1) := by decide +kernel
theorem dX5_held_33 : decode cX5_held 33 = .ok (.invokevirtual 193, 3) := by decide +kernel
theorem dX5_held_36 : decode cX5_held 36 = .ok (.goto 8, 3) := by decide +kernel
theorem dX5_held_39 : decode cX5_held 39 = .ok (.aload_n 3, 1) := by decide +kernel
theorem dX5_held_40 : decode cX5_held 40 = .ok (.iload_n 1, 1) := by decide +kernel
theorem dX5_held_41 : decode cX5_held 41 = .ok (.invokevirtual 196, 3) := by decide +kernel
theorem dX5_held_44 : decode cX5_held 44 = .ok (.ireturn, 1) := by decide +kernel
theorem dX5_first_0 : decode cX5_first 0 = .ok (.aload_n 0, 1) := by decide +kernel
theorem dX5_first_1 : decode cX5_first 1 = .ok (.invokevirtual 168, 3) := by decide +kernel
theorem dX5_first_4 : decode cX5_first 4 = .ok (.iconst (-1), 1) := by decide +kernel
theorem dX5_first_5 : decode cX5_first 5 = .ok (.invokevirtual 193, 3) := by decide +kernel
theorem dX5_first_8 : decode cX5_first 8 = .ok (.ireturn, 1) := by decide +kernel
theorem dX5_quiet_0 : decode cX5_quiet 0 = .ok (.aload_n 0, 1) := by decide +kernel
theorem dX5_quiet_1 : decode cX5_quiet 1 = .ok (.invokevirtual 168, 3) := by decide +kernel
theorem dX5_quiet_4 : decode cX5_quiet 4 = .ok (.astore_n 1, 1) := by decide +kernel
theorem dX5_quiet_5 : decode cX5_quiet 5 = .ok (.iconst 0, 1) := by decide +kernel
theorem dX5_quiet_6 : decode cX5_quiet 6 = .ok (.istore_n 2, 1) := by decide +kernel
theorem dX5_quiet_7 : decode cX5_quiet 7 = .ok (.iload_n 2, 1) := by decide +kernel
theorem dX5_quiet_8 : decode cX5_quiet 8 = .ok (.bipush 40, 2) := by decide +kernel
theorem dX5_quiet_10 : decode cX5_quiet 10 = .ok (.if_icmp .ge 20, 3) := by decide +kernel
theorem dX5_quiet_13 : decode cX5_quiet 13 = .ok (.aload_n 1, 1) := by decide +kernel
theorem dX5_quiet_14 : decode cX5_quiet 14 = .ok (.getfield 172, 3) := by decide +kernel
theorem dX5_quiet_17 : decode cX5_quiet 17 = .ok (.iload_n 2, 1) := by decide +kernel
theorem dX5_quiet_18 : decode cX5_quiet 18 = .ok (.iaload, 1) := by decide +kernel
theorem dX5_quiet_19 : decode cX5_quiet 19 = .ok (.ifCond .ne 5, 3) := by decide +kernel
theorem dX5_quiet_22 : decode cX5_quiet 22 = .ok (.iload_n 2, 1) := by decide +kernel
theorem dX5_quiet_23 : decode cX5_quiet 23 = .ok (.ireturn, 1) := by decide +kernel
theorem dX5_quiet_24 : decode cX5_quiet 24 = .ok (.iinc 2 1, 3) := by decide +kernel
theorem dX5_quiet_27 : decode cX5_quiet 27 = .ok (.goto (-20), 3) := by decide +kernel
theorem dX5_quiet_30 : decode cX5_quiet 30 = .ok (.iconst (-1), 1) := by decide +kernel
theorem dX5_quiet_31 : decode cX5_quiet 31 = .ok (.ireturn, 1) := by decide +kernel
theorem dX5_well_0 : decode cX5_well 0 = .ok (.aload_n 0, 1) := by decide +kernel
theorem dX5_well_1 : decode cX5_well 1 = .ok (.invokevirtual 168, 3) := by decide +kernel
theorem dX5_well_4 : decode cX5_well 4 = .ok (.astore_n 1, 1) := by decide +kernel
theorem dX5_well_5 : decode cX5_well 5 = .ok (.iconst 0, 1) := by decide +kernel
theorem dX5_well_6 : decode cX5_well 6 = .ok (.istore_n 2, 1) := by decide +kernel
theorem dX5_well_7 : decode cX5_well 7 = .ok (.iconst 0, 1) := by decide +kernel
theorem dX5_well_8 : decode cX5_well 8 = .ok (.istore_n 3, 1) := by decide +kernel
theorem dX5_well_9 : decode cX5_well 9 = .ok (.iload_n 3, 1) := by decide +kernel
theorem dX5_well_10 : decode cX5_well 10 = .ok (.bipush 40, 2) := by decide +kernel
theorem dX5_well_12 : decode cX5_well 12 = .ok (.if_icmp .ge 21, 3) := by decide +kernel
theorem dX5_well_15 : decode cX5_well 15 = .ok (.aload_n 1, 1) := by decide +kernel
theorem dX5_well_16 : decode cX5_well 16 = .ok (.getfield 181, 3) := by decide +kernel
theorem dX5_well_19 : decode cX5_well 19 = .ok (.iload_n 3, 1) := by decide +kernel
theorem dX5_well_20 : decode cX5_well 20 = .ok (.iaload, 1) := by decide +kernel
theorem dX5_well_21 : decode cX5_well 21 = .ok (.ifCond .ne 6, 3) := by decide +kernel
theorem dX5_well_24 : decode cX5_well 24 = .ok (.iinc 2 1, 3) := by decide +kernel
theorem dX5_well_27 : decode cX5_well 27 = .ok (.iinc 3 1, 3) := by decide +kernel
theorem dX5_well_30 : decode cX5_well 30 = .ok (.goto (-21), 3) := by decide +kernel
theorem dX5_well_33 : decode cX5_well 33 = .ok (.iload_n 2, 1) := by decide +kernel
theorem dX5_well_34 : decode cX5_well 34 = .ok (.ireturn, 1) := by decide +kernel
theorem dX5_elbow_0 : decode cX5_elbow 0 = .ok (.iload_n 1, 1) := by decide +kernel
theorem dX5_elbow_1 : decode cX5_elbow 1 = .ok (.iconst 0, 1) := by decide +kernel
theorem dX5_elbow_2 : decode cX5_elbow 2 = .ok (.iconst 1, 1) := by decide +kernel
theorem dX5_elbow_3 : decode cX5_elbow 3 = .ok (.invokestatic 66, 3) := by decide +kernel
theorem dX5_elbow_6 : decode cX5_elbow 6 = .ok (.ifCond .eq 14, 3) := by decide +kernel
theorem dX5_elbow_9 : decode cX5_elbow 9 = .ok (.aload_n 0, 1) := by decide +kernel
theorem dX5_elbow_10 : decode cX5_elbow 10 = .ok (.invokevirtual 199, 3) := by decide +kernel
theorem dX5_elbow_13 : decode cX5_elbow 13 = .ok (.iload_n 1, 1) := by decide +kernel
theorem dX5_elbow_14 : decode cX5_elbow 14 = .ok (.invokestatic 203, 3) := by decide +kernel
theorem dX5_elbow_17 : decode cX5_elbow 17 = .ok (.goto 5, 3) := by decide +kernel
theorem dX5_elbow_20 : decode cX5_elbow 20 = .ok (.bipush (-2), 2) := by decide +kernel
theorem dX5_elbow_22 : decode cX5_elbow 22 = .ok (.ireturn, 1) := by decide +kernel
theorem dX5_shut_0 : decode cX5_shut 0 = .ok (.aload_n 0, 1) := by decide +kernel
theorem dX5_shut_1 : decode cX5_shut 1 = .ok (.iload_n 1, 1) := by decide +kernel
theorem dX5_shut_2 : decode cX5_shut 2 = .ok (.invokevirtual 91, 3) := by decide +kernel
theorem dX5_shut_5 : decode cX5_shut 5 = .ok (.ifCond .eq 24, 3) := by decide +kernel
theorem dX5_shut_8 : decode cX5_shut 8 = .ok (.iload_n 2, 1) := by decide +kernel
theorem dX5_shut_9 : decode cX5_shut 9 = .ok (.iconst 0, 1) := by decide +kernel
theorem dX5_shut_10 : decode cX5_shut 10 = .ok (.iconst 1, 1) := by decide +kernel
theorem dX5_shut_11 : decode cX5_shut 11 = .ok (.invokestatic 66, 3) := by decide +kernel
theorem dX5_shut_14 : decode cX5_shut 14 = .ok (.ifCond .eq 15, 3) := by decide +kernel
theorem dX5_shut_17 : decode cX5_shut 17 = .ok (.aload_n 0, 1) := by decide +kernel
theorem dX5_shut_18 : decode cX5_shut 18 = .ok (.iload_n 1, 1) := by decide +kernel
theorem dX5_shut_19 : decode cX5_shut 19 = .ok (.invokevirtual 206, 3) := by decide +kernel
theorem dX5_shut_22 : decode cX5_shut 22 = .ok (.iload_n 2, 1) := by decide +kernel
theorem dX5_shut_23 : decode cX5_shut 23 = .ok (.invokestatic 203, 3) := by decide +kernel
theorem dX5_shut_26 : decode cX5_shut 26 = .ok (.goto 5, 3) := by decide +kernel
theorem dX5_shut_29 : decode cX5_shut 29 = .ok (.bipush (-2), 2) := by decide +kernel
theorem dX5_shut_31 : decode cX5_shut 31 = .ok (.ireturn, 1) := by decide +kernel
theorem dX5_least_0 : decode cX5_least 0 = .ok (.aload_n 0, 1) := by decide +kernel
theorem dX5_least_1 : decode cX5_least 1 = .ok (.getfield 26, 3) := by decide +kernel
theorem dX5_least_4 : decode cX5_least 4 = .ok (.getfield 123, 3) := by decide +kernel
theorem dX5_least_7 : decode cX5_least 7 = .ok (.istore_n 1, 1) := by decide +kernel
theorem dX5_least_8 : decode cX5_least 8 = .ok (.iconst (-1), 1) := by decide +kernel
theorem dX5_least_9 : decode cX5_least 9 = .ok (.istore_n 2, 1) := by decide +kernel
theorem dX5_least_10 : decode cX5_least 10 = .ok (.iconst 0, 1) := by decide +kernel
theorem dX5_least_11 : decode cX5_least 11 = .ok (.istore_n 3, 1) := by decide +kernel
theorem dX5_least_12 : decode cX5_least 12 = .ok (.iload_n 3, 1) := by decide +kernel
theorem dX5_least_13 : decode cX5_least 13 = .ok (.bipush 60, 2) := by decide +kernel
theorem dX5_least_15 : decode cX5_least 15 = .ok (.if_icmp .gt 47, 3) := by decide +kernel
theorem dX5_least_18 : decode cX5_least 18 = .ok (.iload_n 2, 1) := by decide +kernel
theorem dX5_least_19 : decode cX5_least 19 = .ok (.iconst (-1), 1) := by decide +kernel
theorem dX5_least_20 : decode cX5_least 20 = .ok (.if_icmp .ne 42, 3) := by decide +kernel
theorem dX5_least_23 : decode cX5_least 23 = .ok (.aload_n 0, 1) := by decide +kernel
theorem dX5_least_24 : decode cX5_least 24 = .ok (.getfield 26, 3) := by decide +kernel
theorem dX5_least_27 : decode cX5_least 27 = .ok (.iload_n 3, 1) := by decide +kernel
theorem dX5_least_28 : decode cX5_least 28 = .ok (.putfield 123, 3) := by decide +kernel
theorem dX5_least_31 : decode cX5_least 31 = .ok (.aload_n 0, 1) := by decide +kernel
theorem dX5_least_32 : decode cX5_least 32 = .ok (.getfield 37, 3) := by decide +kernel
theorem dX5_least_35 : decode cX5_least 35 = .ok (.aload_n 0, 1) := by decide +kernel
theorem dX5_least_36 : decode cX5_least 36 = .ok (.getfield 26, 3) := by decide +kernel
theorem dX5_least_39 : decode cX5_least 39 = .ok (.invokevirtual 209, 3) := by decide +kernel
theorem dX5_least_42 : decode cX5_least 42 = .ok (.aload_n 0, 1) := by decide +kernel
theorem dX5_least_43 : decode cX5_least 43 = .ok (.getfield 37, 3) := by decide +kernel
theorem dX5_least_46 : decode cX5_least 46 = .ok (.iconst (-1), 1) := by decide +kernel
theorem dX5_least_47 : decode cX5_least 47 = .ok (.invokevirtual 193, 3) := by decide +kernel
theorem dX5_least_50 : decode cX5_least 50 = .ok (.iconst (-1), 1) := by decide +kernel
theorem dX5_least_51 : decode cX5_least 51 = .ok (.if_icmp .ne 5, 3) := by decide +kernel
theorem dX5_least_54 : decode cX5_least 54 = .ok (.iload_n 3, 1) := by decide +kernel
theorem dX5_least_55 : decode cX5_least 55 = .ok (.istore_n 2, 1) := by decide +kernel
theorem dX5_least_56 : decode cX5_least 56 = .ok (.iinc 3 1, 3) := by decide +kernel
theorem dX5_least_59 : decode cX5_least 59 = .ok (.goto (-47), 3) := by decide +kernel
theorem dX5_least_62 : decode cX5_least 62 = .ok (.aload_n 0, 1) := by decide +kernel
theorem dX5_least_63 : decode cX5_least 63 = .ok (.getfield 26, 3) := by decide +kernel
theorem dX5_least_66 : decode cX5_least 66 = .ok (.iload_n 1, 1) := by decide +kernel
theorem dX5_least_67 : decode cX5_least 67 = .ok (.putfield 123, 3) := by decide +kernel
theorem dX5_least_70 : decode cX5_least 70 = .ok (.iload_n 2, 1) := by decide +kernel
theorem dX5_least_71 : decode cX5_least 71 = .ok (.ireturn, 1) := by decide +kernel
theorem dX5_patch_0 : decode cX5_patch 0 = .ok (.iload_n 1, 1) := by decide +kernel
theorem dX5_patch_1 : decode cX5_patch 1 = .ok (.iconst 0, 1) := by decide +kernel
theorem dX5_patch_2 : decode cX5_patch 2 = .ok (.iconst 1, 1) := by decide +kernel
theorem dX5_patch_3 : decode cX5_patch 3 = .ok (.invokestatic 66, 3) := by decide +kernel
theorem dX5_patch_6 : decode cX5_patch 6 = .ok (.ifCond .eq 14, 3) := by decide +kernel
theorem dX5_patch_9 : decode cX5_patch 9 = .ok (.aload_n 0, 1) := by decide +kernel
theorem dX5_patch_10 : decode cX5_patch 10 = .ok (.invokevirtual 213, 3) := by decide +kernel
theorem dX5_patch_13 : decode cX5_patch 13 = .ok (.iload_n 1, 1) := by decide +kernel
theorem dX5_patch_14 : decode cX5_patch 14 = .ok (.invokestatic 203, 3) := by decide +kernel
theorem dX5_patch_17 : decode cX5_patch 17 = .ok (.goto 5, 3) := by decide +kernel
theorem dX5_patch_20 : decode cX5_patch 20 = .ok (.bipush (-2), 2) := by decide +kernel
theorem dX5_patch_22 : decode cX5_patch 22 = .ok (.ireturn, 1) := by decide +kernel
theorem dX5_seen_0 : decode cX5_seen 0 = .ok (.iload_n 1, 1) := by decide +kernel
theorem dX5_seen_1 : decode cX5_seen 1 = .ok (.invokestatic 117, 3) := by decide +kernel
theorem dX5_seen_4 : decode cX5_seen 4 = .ok (.ifCond .eq 22, 3) := by decide +kernel
theorem dX5_seen_7 : decode cX5_seen 7 = .ok (.iload_n 2, 1) := by decide +kernel
theorem dX5_seen_8 : decode cX5_seen 8 = .ok (.iconst 0, 1) := by decide +kernel
theorem dX5_seen_9 : decode cX5_seen 9 = .ok (.bipush 7, 2) := by decide +kernel
theorem dX5_seen_11 : decode cX5_seen 11 = .ok (.invokestatic 66, 3) := by decide +kernel
theorem dX5_seen_14 : decode cX5_seen 14 = .ok (.ifCond .eq 12, 3) := by decide +kernel
theorem dX5_seen_17 : decode cX5_seen 17 = .ok (.iload_n 3, 1) := by decide +kernel
theorem dX5_seen_18 : decode cX5_seen 18 = .ok (.iconst 0, 1) := by decide +kernel
theorem dX5_seen_19 : decode cX5_seen 19 = .ok (.iconst 4, 1) := by decide +kernel
theorem dX5_seen_20 : decode cX5_seen 20 = .ok (.invokestatic 66, 3) := by decide +kernel
theorem dX5_seen_23 : decode cX5_seen 23 = .ok (.ifCond .ne 6, 3) := by decide +kernel
theorem dX5_seen_26 : decode cX5_seen 26 = .ok (.bipush (-2), 2) := by decide +kernel
theorem dX5_seen_28 : decode cX5_seen 28 = .ok (.ireturn, 1) := by decide +kernel
theorem dX5_seen_29 : decode cX5_seen 29 = .ok (.aload_n 0, 1) := by decide +kernel
theorem dX5_seen_30 : decode cX5_seen 30 = .ok (.getfield 216, 3) := by decide +kernel
theorem dX5_seen_33 : decode cX5_seen 33 = .ok (.bipush 8, 2) := by decide +kernel
theorem dX5_seen_35 : decode cX5_seen 35 = .ok (.if_icmp .lt 6, 3) := by decide +kernel
theorem dX5_seen_38 : decode cX5_seen 38 = .ok (.bipush (-4), 2) := by decide +kernel
theorem dX5_seen_40 : decode cX5_seen 40 = .ok (.ireturn, 1) := by decide +kernel
theorem dX5_seen_41 : decode cX5_seen 41 = .ok (.aload_n 0, 1) := by decide +kernel
theorem dX5_seen_42 : decode cX5_seen 42 = .ok (.getfield 50, 3) := by decide +kernel
theorem dX5_seen_45 : decode cX5_seen 45 = .ok (.aload_n 0, 1) := by decide +kernel
theorem dX5_seen_46 : decode cX5_seen 46 = .ok (.getfield 216, 3) := by decide +kernel
theorem dX5_seen_49 : decode cX5_seen 49 = .ok (.iload_n 1, 1) := by decide +kernel
theorem dX5_seen_50 : decode cX5_seen 50 = .ok (.iastore, 1) := by decide +kernel
theorem dX5_seen_51 : decode cX5_seen 51 = .ok (.aload_n 0, 1) := by decide +kernel
theorem dX5_seen_52 : decode cX5_seen 52 = .ok (.getfield 53, 3) := by decide +kernel
theorem dX5_seen_55 : decode cX5_seen 55 = .ok (.aload_n 0, 1) := by decide +kernel
theorem dX5_seen_56 : decode cX5_seen 56 = .ok (.getfield 216, 3) := by decide +kernel
theorem dX5_seen_59 : decode cX5_seen 59 = .ok (.iload_n 2, 1) := by decide +kernel
theorem dX5_seen_60 : decode cX5_seen 60 = .ok (.iastore, 1) := by decide +kernel
theorem dX5_seen_61 : decode cX5_seen 61 = .ok (.aload_n 0, 1) := by decide +kernel
theorem dX5_seen_62 : decode cX5_seen 62 = .ok (.getfield 56, 3) := by decide +kernel
theorem dX5_seen_65 : decode cX5_seen 65 = .ok (.aload_n 0, 1) := by decide +kernel
theorem dX5_seen_66 : decode cX5_seen 66 = .ok (.getfield 216, 3) := by decide +kernel
theorem dX5_seen_69 : decode cX5_seen 69 = .ok (.iload_n 3, 1) := by decide +kernel
theorem dX5_seen_70 : decode cX5_seen 70 = .ok (.iastore, 1) := by decide +kernel
theorem dX5_seen_71 : decode cX5_seen 71 = .ok (.aload_n 0, 1) := by decide +kernel
theorem dX5_seen_72 : decode cX5_seen 72 = .ok (.dup, 1) := by decide +kernel
theorem dX5_seen_73 : decode cX5_seen 73 = .ok (.getfield 216, 3) := by decide +kernel
theorem dX5_seen_76 : decode cX5_seen 76 = .ok (.iconst 1, 1) := by decide +kernel
theorem dX5_seen_77 : decode cX5_seen 77 = .ok (.iadd, 1) := by decide +kernel
theorem dX5_seen_78 : decode cX5_seen 78 = .ok (.putfield 216, 3) := by decide +kernel
theorem dX5_seen_81 : decode cX5_seen 81 = .ok (.aload_n 0, 1) := by decide +kernel
theorem dX5_seen_82 : decode cX5_seen 82 = .ok (.getfield 216, 3) := by decide +kernel
theorem dX5_seen_85 : decode cX5_seen 85 = .ok (.ireturn, 1) := by decide +kernel
theorem dX5_forget_0 : decode cX5_forget 0 = .ok (.aload_n 0, 1) := by decide +kernel
theorem dX5_forget_1 : decode cX5_forget 1 = .ok (.getfield 216, 3) := by decide +kernel
theorem dX5_forget_4 : decode cX5_forget 4 = .ok (.istore_n 1, 1) := by decide +kernel
theorem dX5_forget_5 : decode cX5_forget 5 = .ok (.aload_n 0, 1) := by decide +kernel
theorem dX5_forget_6 : decode cX5_forget 6 = .ok (.iconst 0, 1) := by decide +kernel
theorem dX5_forget_7 : decode cX5_forget 7 = .ok (.putfield 216, 3) := by decide +kernel
theorem dX5_forget_10 : decode cX5_forget 10 = .ok (.iload_n 1, 1) := by decide +kernel
theorem dX5_forget_11 : decode cX5_forget 11 = .ok (.ireturn, 1) := by decide +kernel
theorem dX5_never_0 : decode cX5_never 0 = .ok (.iconst 0, 1) := by decide +kernel
theorem dX5_never_1 : decode cX5_never 1 = .ok (.istore_n 1, 1) := by decide +kernel
theorem dX5_never_2 : decode cX5_never 2 = .ok (.iconst 0, 1) := by decide +kernel
theorem dX5_never_3 : decode cX5_never 3 = .ok (.istore_n 2, 1) := by decide +kernel
theorem dX5_never_4 : decode cX5_never 4 = .ok (.iload_n 2, 1) := by decide +kernel
theorem dX5_never_5 : decode cX5_never 5 = .ok (.aload_n 0, 1) := by decide +kernel
theorem dX5_never_6 : decode cX5_never 6 = .ok (.getfield 26, 3) := by decide +kernel
theorem dX5_never_9 : decode cX5_never 9 = .ok (.getfield 146, 3) := by decide +kernel
theorem dX5_never_12 : decode cX5_never 12 = .ok (.if_icmp .ge 49, 3) := by decide +kernel
theorem dX5_never_15 : decode cX5_never 15 = .ok (.aload_n 0, 1) := by decide +kernel
theorem dX5_never_16 : decode cX5_never 16 = .ok (.getfield 26, 3) := by decide +kernel
theorem dX5_never_19 : decode cX5_never 19 = .ok (.iconst (-1), 1) := by decide +kernel
theorem dX5_never_20 : decode cX5_never 20 = .ok (.iconst 1, 1) := by decide +kernel
theorem dX5_never_21 : decode cX5_never 21 = .ok (.iload_n 2, 1) := by decide +kernel
theorem dX5_never_22 : decode cX5_never 22 = .ok (.ishl, 1) := by decide +kernel
theorem dX5_never_23 : decode cX5_never 23 = .ok (.ixor, 1) := by decide +kernel
theorem dX5_never_24 : decode cX5_never 24 = .ok (.putfield 219, 3) := by decide +kernel
theorem dX5_never_27 : decode cX5_never 27 = .ok (.aload_n 0, 1) := by decide +kernel
theorem dX5_never_28 : decode cX5_never 28 = .ok (.getfield 37, 3) := by decide +kernel
theorem dX5_never_31 : decode cX5_never 31 = .ok (.aload_n 0, 1) := by decide +kernel
theorem dX5_never_32 : decode cX5_never 32 = .ok (.getfield 26, 3) := by decide +kernel
theorem dX5_never_35 : decode cX5_never 35 = .ok (.invokevirtual 209, 3) := by decide +kernel
theorem dX5_never_38 : decode cX5_never 38 = .ok (.aload_n 0, 1) := by decide +kernel
theorem dX5_never_39 : decode cX5_never 39 = .ok (.aload_n 0, 1) := by decide +kernel
theorem dX5_never_40 : decode cX5_never 40 = .ok (.getfield 37, 3) := by decide +kernel
theorem dX5_never_43 : decode cX5_never 43 = .ok (.invokevirtual 222, 3) := by decide +kernel
theorem dX5_never_46 : decode cX5_never 46 = .ok (.ifCond .eq 9, 3) := by decide +kernel
theorem dX5_never_49 : decode cX5_never 49 = .ok (.iload_n 1, 1) := by decide +kernel
theorem dX5_never_50 : decode cX5_never 50 = .ok (.iconst 1, 1) := by decide +kernel
theorem dX5_never_51 : decode cX5_never 51 = .ok (.iload_n 2, 1) := by decide +kernel
theorem dX5_never_52 : decode cX5_never 52 = .ok (.ishl, 1) := by decide +kernel
theorem dX5_never_53 : decode cX5_never 53 = .ok (.ior, 1) := by decide +kernel
theorem dX5_never_54 : decode cX5_never 54 = .ok (.istore_n 1, 1) := by decide +kernel
theorem dX5_never_55 : decode cX5_never 55 = .ok (.iinc 2 1, 3) := by decide +kernel
theorem dX5_never_58 : decode cX5_never 58 = .ok (.goto (-54), 3) := by decide +kernel
theorem dX5_never_61 : decode cX5_never 61 = .ok (.aload_n 0, 1) := by decide +kernel
theorem dX5_never_62 : decode cX5_never 62 = .ok (.getfield 26, 3) := by decide +kernel
theorem dX5_never_65 : decode cX5_never 65 = .ok (.iconst (-1), 1) := by decide +kernel
theorem dX5_never_66 : decode cX5_never 66 = .ok (.putfield 219, 3) := by decide +kernel
theorem dX5_never_69 : decode cX5_never 69 = .ok (.iload_n 1, 1) := by decide +kernel
theorem dX5_never_70 : decode cX5_never 70 = .ok (.ireturn, 1) := by decide +kernel
theorem dX5_was_0 : decode cX5_was 0 = .ok (.aload_n 0, 1) := by decide +kernel
theorem dX5_was_1 : decode cX5_was 1 = .ok (.iload_n 1, 1) := by decide +kernel
theorem dX5_was_2 : decode cX5_was 2 = .ok (.invokevirtual 91, 3) := by decide +kernel
theorem dX5_was_5 : decode cX5_was 5 = .ok (.ifCond .ne 6, 3) := by decide +kernel
theorem dX5_was_8 : decode cX5_was 8 = .ok (.bipush (-2), 2) := by decide +kernel
theorem dX5_was_10 : decode cX5_was 10 = .ok (.ireturn, 1) := by decide +kernel
theorem dX5_was_11 : decode cX5_was 11 = .ok (.iconst 0, 1) := by decide +kernel
theorem dX5_was_12 : decode cX5_was 12 = .ok (.istore_n 2, 1) := by decide +kernel
theorem dX5_was_13 : decode cX5_was 13 = .ok (.iconst 1, 1) := by decide +kernel
theorem dX5_was_14 : decode cX5_was 14 = .ok (.istore_n 3, 1) := by decide +kernel
theorem dX5_was_15 : decode cX5_was 15 = .ok (.iload_n 3, 1) := by decide +kernel
theorem dX5_was_16 : decode cX5_was 16 = .ok (.bipush 9, 2) := by decide +kernel
theorem dX5_was_18 : decode cX5_was 18 = .ok (.if_icmp .gt 32, 3) := by decide +kernel
theorem dX5_was_21 : decode cX5_was 21 = .ok (.aload_n 0, 1) := by decide +kernel
theorem dX5_was_22 : decode cX5_was 22 = .ok (.iload_n 1, 1) := by decide +kernel
theorem dX5_was_23 : decode cX5_was 23 = .ok (.iload_n 3, 1) := by decide +kernel
theorem dX5_was_24 : decode cX5_was 24 = .ok (.invokevirtual 226, 3) := by decide +kernel
theorem dX5_was_27 : decode cX5_was 27 = .ok (.aload_n 0, 1) := by decide +kernel
theorem dX5_was_28 : decode cX5_was 28 = .ok (.aload_n 0, 1) := by decide +kernel
theorem dX5_was_29 : decode cX5_was 29 = .ok (.getfield 37, 3) := by decide +kernel
theorem dX5_was_32 : decode cX5_was 32 = .ok (.invokevirtual 222, 3) := by decide +kernel
theorem dX5_was_35 : decode cX5_was 35 = .ok (.ifCond .eq 9, 3) := by decide +kernel
theorem dX5_was_38 : decode cX5_was 38 = .ok (.iload_n 2, 1) := by decide +kernel
theorem dX5_was_39 : decode cX5_was 39 = .ok (.iconst 1, 1) := by decide +kernel
theorem dX5_was_40 : decode cX5_was 40 = .ok (.iload_n 3, 1) := by decide +kernel
theorem dX5_was_41 : decode cX5_was 41 = .ok (.ishl, 1) := by decide +kernel
theorem dX5_was_42 : decode cX5_was 42 = .ok (.ior, 1) := by decide +kernel
theorem dX5_was_43 : decode cX5_was 43 = .ok (.istore_n 2, 1) := by decide +kernel
theorem dX5_was_44 : decode cX5_was 44 = .ok (.iinc 3 1, 3) := by decide +kernel
theorem dX5_was_47 : decode cX5_was 47 = .ok (.goto (-32), 3) := by decide +kernel
theorem dX5_was_50 : decode cX5_was 50 = .ok (.iload_n 2, 1) := by decide +kernel
theorem dX5_was_51 : decode cX5_was 51 = .ok (.ireturn, 1) := by decide +kernel
theorem dX5_starts_0 : decode cX5_starts 0 = .ok (.iload_n 1, 1) := by decide +kernel
theorem dX5_starts_1 : decode cX5_starts 1 = .ok (.iconst 0, 1) := by decide +kernel
theorem dX5_starts_2 : decode cX5_starts 2 = .ok (.iconst 2, 1) := by decide +kernel
theorem dX5_starts_3 : decode cX5_starts 3 = .ok (.invokestatic 66, 3) := by decide +kernel
theorem dX5_starts_6 : decode cX5_starts 6 = .ok (.ifCond .eq 14, 3) := by decide +kernel
theorem dX5_starts_9 : decode cX5_starts 9 = .ok (.aload_n 0, 1) := by decide +kernel
theorem dX5_starts_10 : decode cX5_starts 10 = .ok (.invokevirtual 229, 3) := by decide +kernel
theorem dX5_starts_13 : decode cX5_starts 13 = .ok (.iload_n 1, 1) := by decide +kernel
theorem dX5_starts_14 : decode cX5_starts 14 = .ok (.invokestatic 233, 3) := by decide +kernel
theorem dX5_starts_17 : decode cX5_starts 17 = .ok (.goto 5, 3) := by decide +kernel
theorem dX5_starts_20 : decode cX5_starts 20 = .ok (.bipush (-2), 2) := by decide +kernel
theorem dX5_starts_22 : decode cX5_starts 22 = .ok (.ireturn, 1) := by decide +kernel
theorem dX5_ask_0 : decode cX5_ask 0 = .ok (.aload_n 0, 1) := by decide +kernel
theorem dX5_ask_1 : decode cX5_ask 1 = .ok (.iload_n 1, 1) := by decide +kernel
theorem dX5_ask_2 : decode cX5_ask 2 = .ok (.invokevirtual 91, 3) := by decide +kernel
theorem dX5_ask_5 : decode cX5_ask 5 = .ok (.ifCond .ne 6, 3) := by decide +kernel
theorem dX5_ask_8 : decode cX5_ask 8 = .ok (.bipush (-2), 2) := by decide +kernel
theorem dX5_ask_10 : decode cX5_ask 10 = .ok (.ireturn, 1) := by decide +kernel
theorem dX5_ask_11 : decode cX5_ask 11 = .ok (.aload_n 0, 1) := by decide +kernel
theorem dX5_ask_12 : decode cX5_ask 12 = .ok (.iload_n 1, 1) := by decide +kernel
theorem dX5_ask_13 : decode cX5_ask 13 = .ok (.invokevirtual 237, 3) := by decide +kernel
theorem dX5_ask_16 : decode cX5_ask 16 = .ok (.ldc 240, 2) := by decide +kernel
theorem dX5_ask_18 : decode cX5_ask 18 = .ok (.istore_n 2, 1) := by decide +kernel
theorem dX5_ask_19 : decode cX5_ask 19 = .ok (.iconst 0, 1) := by decide +kernel
theorem dX5_ask_20 : decode cX5_ask 20 = .ok (.istore_n 3, 1) := by decide +kernel
theorem dX5_ask_21 : decode cX5_ask 21 = .ok (.iload_n 3, 1) := by decide +kernel
theorem dX5_ask_22 : decode cX5_ask 22 = .ok (.bipush 40, 2) := by decide +kernel
theorem dX5_ask_24 : decode cX5_ask 24 = .ok (.if_icmp .ge 24, 3) := by decide +kernel
theorem dX5_ask_27 : decode cX5_ask 27 = .ok (.iload_n 2, 1) := by decide +kernel
theorem dX5_ask_28 : decode cX5_ask 28 = .ok (.aload_n 0, 1) := by decide +kernel
theorem dX5_ask_29 : decode cX5_ask 29 = .ok (.iload_n 3, 1) := by decide +kernel
theorem dX5_ask_30 : decode cX5_ask 30 = .ok (.invokevirtual 241, 3) := by decide +kernel
theorem dX5_ask_33 : decode cX5_ask 33 = .ok (.bipush 64, 2) := by decide +kernel
theorem dX5_ask_35 : decode cX5_ask 35 = .ok (.imul, 1) := by decide +kernel
theorem dX5_ask_36 : decode cX5_ask 36 = .ok (.iload_n 3, 1) := by decide +kernel
theorem dX5_ask_37 : decode cX5_ask 37 = .ok (.iadd, 1) := by decide +kernel
theorem dX5_ask_38 : decode cX5_ask 38 = .ok (.invokestatic 244, 3) := by decide +kernel
theorem dX5_ask_41 : decode cX5_ask 41 = .ok (.istore_n 2, 1) := by decide +kernel
theorem dX5_ask_42 : decode cX5_ask 42 = .ok (.iinc 3 1, 3) := by decide +kernel
theorem dX5_ask_45 : decode cX5_ask 45 = .ok (.goto (-24), 3) := by decide +kernel
theorem dX5_ask_48 : decode cX5_ask 48 = .ok (.iload_n 2, 1) := by decide +kernel
theorem dX5_ask_49 : decode cX5_ask 49 = .ok (.iconst 0, 1) := by decide +kernel
theorem dX5_ask_50 : decode cX5_ask 50 = .ok (.invokestatic 203, 3) := by decide +kernel
theorem dX5_ask_53 : decode cX5_ask 53 = .ok (.ireturn, 1) := by decide +kernel
theorem dX5_moth_0 : decode cX5_moth 0 = .ok (.iload_n 1, 1) := by decide +kernel
theorem dX5_moth_1 : decode cX5_moth 1 = .ok (.iconst 0, 1) := by decide +kernel
theorem dX5_moth_2 : decode cX5_moth 2 = .ok (.bipush 16, 2) := by decide +kernel
theorem dX5_moth_4 : decode cX5_moth 4 = .ok (.invokestatic 66, 3) := by decide +kernel
theorem dX5_moth_7 : decode cX5_moth 7 = .ok (.ifCond .eq 20, 3) := by decide +kernel
theorem dX5_moth_10 : decode cX5_moth 10 = .ok (.aload_n 0, 1) := by decide +kernel
theorem dX5_moth_11 : decode cX5_moth 11 = .ok (.iload_n 2, 1) := by decide +kernel
theorem dX5_moth_12 : decode cX5_moth 12 = .ok (.invokevirtual 91, 3) := by decide +kernel
theorem dX5_moth_15 : decode cX5_moth 15 = .ok (.ifCond .eq 12, 3) := by decide +kernel
theorem dX5_moth_18 : decode cX5_moth 18 = .ok (.iload_n 3, 1) := by decide +kernel
theorem dX5_moth_19 : decode cX5_moth 19 = .ok (.iconst 0, 1) := by decide +kernel
theorem dX5_moth_20 : decode cX5_moth 20 = .ok (.iconst 1, 1) := by decide +kernel
theorem dX5_moth_21 : decode cX5_moth 21 = .ok (.invokestatic 66, 3) := by decide +kernel
theorem dX5_moth_24 : decode cX5_moth 24 = .ok (.ifCond .ne 7, 3) := by decide +kernel
theorem dX5_moth_27 : decode cX5_moth 27 = .ok (.ldc2_w 251, 3) := by decide +kernel
theorem dX5_moth_30 : decode cX5_moth 30 = .ok (.lreturn, 1) := by decide +kernel
theorem dX5_moth_31 : decode cX5_moth 31 = .ok (.aload_n 0, 1) := by decide +kernel
theorem dX5_moth_32 : decode cX5_moth 32 = .ok (.iload_n 1, 1) := by decide +kernel
theorem dX5_moth_33 : decode cX5_moth 33 = .ok (.iload_n 2, 1) := by decide +kernel
theorem dX5_moth_34 : decode cX5_moth 34 = .ok (.invokevirtual 253, 3) := by decide +kernel
theorem dX5_moth_37 : decode cX5_moth 37 = .ok (.lstore 4, 2) := by decide +kernel
theorem dX5_moth_39 : decode cX5_moth 39 = .ok (.lconst 1, 1) := by decide +kernel
theorem dX5_moth_40 : decode cX5_moth 40 = .ok (.iconst 4, 1) := by decide +kernel
theorem dX5_moth_41 : decode cX5_moth 41 = .ok (.aload_n 0, 1) := by decide +kernel
theorem dX5_moth_42 : decode cX5_moth 42 = .ok (.getfield 26, 3) := by decide +kernel
theorem dX5_moth_45 : decode cX5_moth 45 = .ok (.getfield 135, 3) := by decide +kernel
theorem dX5_moth_48 : decode cX5_moth 48 = .ok (.imul, 1) := by decide +kernel
theorem dX5_moth_49 : decode cX5_moth 49 = .ok (.lshl, 1) := by decide +kernel
theorem dX5_moth_50 : decode cX5_moth 50 = .ok (.lstore 6, 2) := by decide +kernel
theorem dX5_moth_52 : decode cX5_moth 52 = .ok (.iconst 0, 1) := by decide +kernel
theorem dX5_moth_53 : decode cX5_moth 53 = .ok (.istore 8, 2) := by decide +kernel
theorem dX5_moth_55 : decode cX5_moth 55 = .ok (.iload 8, 2) := by decide +kernel
theorem dX5_moth_57 : decode cX5_moth 57 = .ok (.bipush 24, 2) := by decide +kernel
theorem dX5_moth_59 : decode cX5_moth 59 = .ok (.if_icmp .ge 37, 3) := by decide +kernel
theorem dX5_moth_62 : decode cX5_moth 62 = .ok (.lload 4, 2) := by decide +kernel
theorem dX5_moth_64 : decode cX5_moth 64 = .ok (.lconst 1, 1) := by decide +kernel
theorem dX5_moth_65 : decode cX5_moth 65 = .ok (.land, 1) := by decide +kernel
theorem dX5_moth_66 : decode cX5_moth 66 = .ok (.lconst 0, 1) := by decide +kernel
theorem dX5_moth_67 : decode cX5_moth 67 = .ok (.lcmp, 1) := by decide +kernel
theorem dX5_moth_68 : decode cX5_moth 68 = .ok (.ifCond .ne 28, 3) := by decide +kernel
theorem dX5_moth_71 : decode cX5_moth 71 = .ok (.lload 6, 2) := by decide +kernel
theorem dX5_moth_73 : decode cX5_moth 73 = .ok (.lconst 1, 1) := by decide +kernel
theorem dX5_moth_74 : decode cX5_moth 74 = .ok (.lcmp, 1) := by decide +kernel
theorem dX5_moth_75 : decode cX5_moth 75 = .ok (.ifCond .le 21, 3) := by decide +kernel
theorem dX5_moth_78 : decode cX5_moth 78 = .ok (.lload 4, 2) := by decide +kernel
theorem dX5_moth_80 : decode cX5_moth 80 = .ok (.iconst 1, 1) := by decide +kernel
theorem dX5_moth_81 : decode cX5_moth 81 = .ok (.lshr, 1) := by decide +kernel
theorem dX5_moth_82 : decode cX5_moth 82 = .ok (.lstore 4, 2) := by decide +kernel
theorem dX5_moth_84 : decode cX5_moth 84 = .ok (.lload 6, 2) := by decide +kernel
theorem dX5_moth_86 : decode cX5_moth 86 = .ok (.iconst 1, 1) := by decide +kernel
theorem dX5_moth_87 : decode cX5_moth 87 = .ok (.lshr, 1) := by decide +kernel
theorem dX5_moth_88 : decode cX5_moth 88 = .ok (.lstore 6, 2) := by decide +kernel
theorem dX5_moth_90 : decode cX5_moth 90 = .ok (.iinc 8 1, 3) := by decide +kernel
theorem dX5_moth_93 : decode cX5_moth 93 = .ok (.goto (-38), 3) := by decide +kernel
theorem dX5_moth_96 : decode cX5_moth 96 = .ok (.iload_n 3, 1) := by decide +kernel
theorem dX5_moth_97 : decode cX5_moth 97 = .ok (.ifCond .ne 8, 3) := by decide +kernel
theorem dX5_moth_100 : decode cX5_moth 100 = .ok (.lload 4, 2) := by decide +kernel
theorem dX5_moth_102 : decode cX5_moth 102 = .ok (.goto 5, 3) := by decide +kernel
theorem dX5_moth_105 : decode cX5_moth 105 = .ok (.lload 6, 2) := by decide +kernel
theorem dX5_moth_107 : decode cX5_moth 107 = .ok (.lreturn, 1) := by decide +kernel
theorem dX5_year_0 : decode cX5_year 0 = .ok (.iload_n 2, 1) := by decide +kernel
theorem dX5_year_1 : decode cX5_year 1 = .ok (.iconst 0, 1) := by decide +kernel
theorem dX5_year_2 : decode cX5_year 2 = .ok (.bipush 40, 2) := by decide +kernel
theorem dX5_year_4 : decode cX5_year 4 = .ok (.invokestatic 66, 3) := by decide +kernel
theorem dX5_year_7 : decode cX5_year 7 = .ok (.ifCond .eq 12, 3) := by decide +kernel
theorem dX5_year_10 : decode cX5_year 10 = .ok (.iload_n 3, 1) := by decide +kernel
theorem dX5_year_11 : decode cX5_year 11 = .ok (.iconst 0, 1) := by decide +kernel
theorem dX5_year_12 : decode cX5_year 12 = .ok (.iconst 1, 1) := by decide +kernel
theorem dX5_year_13 : decode cX5_year 13 = .ok (.invokestatic 66, 3) := by decide +kernel
theorem dX5_year_16 : decode cX5_year 16 = .ok (.ifCond .ne 6, 3) := by decide +kernel
theorem dX5_year_19 : decode cX5_year 19 = .ok (.bipush (-2), 2) := by decide +kernel
theorem dX5_year_21 : decode cX5_year 21 = .ok (.ireturn, 1) := by decide +kernel
theorem dX5_year_22 : decode cX5_year 22 = .ok (.aload_n 0, 1) := by decide +kernel
theorem dX5_year_23 : decode cX5_year 23 = .ok (.iload_n 1, 1) := by decide +kernel
theorem dX5_year_24 : decode cX5_year 24 = .ok (.iload_n 2, 1) := by decide +kernel
theorem dX5_year_25 : decode cX5_year 25 = .ok (.invokevirtual 257, 3) := by decide +kernel
theorem dX5_year_28 : decode cX5_year 28 = .ok (.aload_n 0, 1) := by decide +kernel
theorem dX5_year_29 : decode cX5_year 29 = .ok (.getfield 26, 3) := by decide +kernel
theorem dX5_year_32 : decode cX5_year 32 = .ok (.getfield 120, 3) := by decide +kernel
theorem dX5_year_35 : decode cX5_year 35 = .ok (.astore 4, 2) := by decide +kernel
theorem dX5_year_37 : decode cX5_year 37 = .ok (.aload_n 0, 1) := by decide +kernel
theorem dX5_year_38 : decode cX5_year 38 = .ok (.getfield 26, 3) := by decide +kernel
theorem dX5_year_41 : decode cX5_year 41 = .ok (.aload_n 0, 1) := by decide +kernel
theorem dX5_year_42 : decode cX5_year 42 = .ok (.getfield 44, 3) := by decide +kernel
theorem dX5_year_45 : decode cX5_year 45 = .ok (.putfield 120, 3) := by decide +kernel
theorem dX5_year_48 : decode cX5_year 48 = .ok (.aload_n 0, 1) := by decide +kernel
theorem dX5_year_49 : decode cX5_year 49 = .ok (.getfield 37, 3) := by decide +kernel
theorem dX5_year_52 : decode cX5_year 52 = .ok (.aload_n 0, 1) := by decide +kernel
theorem dX5_year_53 : decode cX5_year 53 = .ok (.getfield 26, 3) := by decide +kernel
theorem dX5_year_56 : decode cX5_year 56 = .ok (.invokevirtual 209, 3) := by decide +kernel
theorem dX5_year_59 : decode cX5_year 59 = .ok (.aload_n 0, 1) := by decide +kernel
theorem dX5_year_60 : decode cX5_year 60 = .ok (.getfield 26, 3) := by decide +kernel
theorem dX5_year_63 : decode cX5_year 63 = .ok (.aload 4, 2) := by decide +kernel
theorem dX5_year_65 : decode cX5_year 65 = .ok (.putfield 120, 3) := by decide +kernel
theorem dX5_year_68 : decode cX5_year 68 = .ok (.iload_n 3, 1) := by decide +kernel
theorem dX5_year_69 : decode cX5_year 69 = .ok (.ifCond .ne 13, 3) := by decide +kernel
theorem dX5_year_72 : decode cX5_year 72 = .ok (.aload_n 0, 1) := by decide +kernel
theorem dX5_year_73 : decode cX5_year 73 = .ok (.getfield 37, 3) := by decide +kernel
theorem dX5_year_76 : decode cX5_year 76 = .ok (.invokevirtual 260, 3) := by decide +kernel
theorem dX5_year_79 : decode cX5_year 79 = .ok (.goto 13, 3) := by decide +kernel
theorem dX5_year_82 : decode cX5_year 82 = .ok (.aload_n 0, 1) := by decide +kernel
theorem dX5_year_83 : decode cX5_year 83 = .ok (.getfield 37, 3) := by decide +kernel
theorem dX5_year_86 : decode cX5_year 86 = .ok (.getfield 172, 3) := by decide +kernel
theorem dX5_year_89 : decode cX5_year 89 = .ok (.bipush 39, 2) := by decide +kernel
theorem dX5_year_91 : decode cX5_year 91 = .ok (.iaload, 1) := by decide +kernel
theorem dX5_year_92 : decode cX5_year 92 = .ok (.ireturn, 1) := by decide +kernel
theorem dX5_sheet_0 : decode cX5_sheet 0 = .ok (.iload_n 1, 1) := by decide +kernel
theorem dX5_sheet_1 : decode cX5_sheet 1 = .ok (.invokestatic 153, 3) := by decide +kernel
theorem dX5_sheet_4 : decode cX5_sheet 4 = .ok (.ifCond .eq 16, 3) := by decide +kernel
theorem dX5_sheet_7 : decode cX5_sheet 7 = .ok (.iload_n 2, 1) := by decide +kernel
theorem dX5_sheet_8 : decode cX5_sheet 8 = .ok (.invokestatic 263, 3) := by decide +kernel
theorem dX5_sheet_11 : decode cX5_sheet 11 = .ok (.ifCond .eq 9, 3) := by decide +kernel
theorem dX5_sheet_14 : decode cX5_sheet 14 = .ok (.iload_n 3, 1) := by decide +kernel
theorem dX5_sheet_15 : decode cX5_sheet 15 = .ok (.bipush 60, 2) := by decide +kernel
theorem dX5_sheet_17 : decode cX5_sheet 17 = .ok (.if_icmp .le 6, 3) := by decide +kernel
theorem dX5_sheet_20 : decode cX5_sheet 20 = .ok (.bipush (-2), 2) := by decide +kernel
theorem dX5_sheet_22 : decode cX5_sheet 22 = .ok (.ireturn, 1) := by decide +kernel
theorem dX5_sheet_23 : decode cX5_sheet 23 = .ok (.iload_n 3, 1) := by decide +kernel
theorem dX5_sheet_24 : decode cX5_sheet 24 = .ok (.ifCond .ge 9, 3) := by decide +kernel
theorem dX5_sheet_27 : decode cX5_sheet 27 = .ok (.aload_n 0, 1) := by decide +kernel
theorem dX5_sheet_28 : decode cX5_sheet 28 = .ok (.iconst 5, 1) := by decide +kernel
theorem dX5_sheet_29 : decode cX5_sheet 29 = .ok (.invokevirtual 159, 3) := by decide +kernel
theorem dX5_sheet_32 : decode cX5_sheet 32 = .ok (.ireturn, 1) := by decide +kernel
theorem dX5_sheet_33 : decode cX5_sheet 33 = .ok (.aload_n 0, 1) := by decide +kernel
theorem dX5_sheet_34 : decode cX5_sheet 34 = .ok (.getfield 62, 3) := by decide +kernel
theorem dX5_sheet_37 : decode cX5_sheet 37 = .ok (.iload_n 1, 1) := by decide +kernel
theorem dX5_sheet_38 : decode cX5_sheet 38 = .ok (.iload_n 2, 1) := by decide +kernel
theorem dX5_sheet_39 : decode cX5_sheet 39 = .ok (.iload_n 3, 1) := by decide +kernel
theorem dX5_sheet_40 : decode cX5_sheet 40 = .ok (.invokevirtual 266, 3) := by decide +kernel
theorem dX5_sheet_43 : decode cX5_sheet 43 = .ok (.iload_n 3, 1) := by decide +kernel
theorem dX5_sheet_44 : decode cX5_sheet 44 = .ok (.ireturn, 1) := by decide +kernel
theorem dX5_lose_0 : decode cX5_lose 0 = .ok (.iload_n 1, 1) := by decide +kernel
theorem dX5_lose_1 : decode cX5_lose 1 = .ok (.invokestatic 153, 3) := by decide +kernel
theorem dX5_lose_4 : decode cX5_lose 4 = .ok (.ifCond .ne 6, 3) := by decide +kernel
theorem dX5_lose_7 : decode cX5_lose 7 = .ok (.bipush (-2), 2) := by decide +kernel
theorem dX5_lose_9 : decode cX5_lose 9 = .ok (.ireturn, 1) := by decide +kernel
theorem dX5_lose_10 : decode cX5_lose 10 = .ok (.aload_n 0, 1) := by decide +kernel
theorem dX5_lose_11 : decode cX5_lose 11 = .ok (.getfield 62, 3) := by decide +kernel
theorem dX5_lose_14 : decode cX5_lose 14 = .ok (.iload_n 1, 1) := by decide +kernel
theorem dX5_lose_15 : decode cX5_lose 15 = .ok (.invokevirtual 156, 3) := by decide +kernel
theorem dX5_lose_18 : decode cX5_lose 18 = .ok (.ifCond .eq 9, 3) := by decide +kernel
theorem dX5_lose_21 : decode cX5_lose 21 = .ok (.aload_n 0, 1) := by decide +kernel
theorem dX5_lose_22 : decode cX5_lose 22 = .ok (.iconst 1, 1) := by decide +kernel
theorem dX5_lose_23 : decode cX5_lose 23 = .ok (.invokevirtual 159, 3) := by decide +kernel
theorem dX5_lose_26 : decode cX5_lose 26 = .ok (.ireturn, 1) := by decide +kernel
theorem dX5_lose_27 : decode cX5_lose 27 = .ok (.aload_n 0, 1) := by decide +kernel
theorem dX5_lose_28 : decode cX5_lose 28 = .ok (.getfield 62, 3) := by decide +kernel
theorem dX5_lose_31 : decode cX5_lose 31 = .ok (.getfield 163, 3) := by decide +kernel
theorem dX5_lose_34 : decode cX5_lose 34 = .ok (.iload_n 1, 1) := by decide +kernel
theorem dX5_lose_35 : decode cX5_lose 35 = .ok (.iaload, 1) := by decide +kernel
theorem dX5_lose_36 : decode cX5_lose 36 = .ok (.istore_n 2, 1) := by decide +kernel
theorem dX5_lose_37 : decode cX5_lose 37 = .ok (.aload_n 0, 1) := by decide +kernel
theorem dX5_lose_38 : decode cX5_lose 38 = .ok (.getfield 62, 3) := by decide +kernel
theorem dX5_lose_41 : decode cX5_lose 41 = .ok (.iload_n 1, 1) := by decide +kernel
theorem dX5_lose_42 : decode cX5_lose 42 = .ok (.invokevirtual 269, 3) := by decide +kernel
theorem dX5_lose_45 : decode cX5_lose 45 = .ok (.iload_n 2, 1) := by decide +kernel
theorem dX5_lose_46 : decode cX5_lose 46 = .ok (.ireturn, 1) := by decide +kernel
theorem dX5_put_0 : decode cX5_put 0 = .ok (.aload_n 0, 1) := by decide +kernel
theorem dX5_put_1 : decode cX5_put 1 = .ok (.iload_n 1, 1) := by decide +kernel
theorem dX5_put_2 : decode cX5_put 2 = .ok (.iload_n 2, 1) := by decide +kernel
theorem dX5_put_3 : decode cX5_put 3 = .ok (.iload_n 3, 1) := by decide +kernel
theorem dX5_put_4 : decode cX5_put 4 = .ok (.invokevirtual 272, 3) := by decide +kernel
theorem dX5_put_7 : decode cX5_put 7 = .ok (.istore 5, 2) := by decide +kernel
theorem dX5_put_9 : decode cX5_put 9 = .ok (.iload 5, 2) := by decide +kernel
theorem dX5_put_11 : decode cX5_put 11 = .ok (.ifCond .eq 6, 3) := by decide +kernel
theorem dX5_put_14 : decode cX5_put 14 = .ok (.iload 5, 2) := by decide +kernel
theorem dX5_put_16 : decode cX5_put 16 = .ok (.ireturn, 1) := by decide +kernel
theorem dX5_put_17 : decode cX5_put 17 = .ok (.aload_n 0, 1) := by decide +kernel
theorem dX5_put_18 : decode cX5_put 18 = .ok (.getfield 62, 3) := by decide +kernel
theorem dX5_put_21 : decode cX5_put 21 = .ok (.iload_n 1, 1) := by decide +kernel
theorem dX5_put_22 : decode cX5_put 22 = .ok (.iload_n 3, 1) := by decide +kernel
theorem dX5_put_23 : decode cX5_put 23 = .ok (.iload 4, 2) := by decide +kernel
theorem dX5_put_25 : decode cX5_put 25 = .ok (.invokevirtual 276, 3) := by decide +kernel
theorem dX5_put_28 : decode cX5_put 28 = .ok (.iconst 1, 1) := by decide +kernel
theorem dX5_put_29 : decode cX5_put 29 = .ok (.ireturn, 1) := by decide +kernel
theorem dX5_get_0 : decode cX5_get 0 = .ok (.aload_n 0, 1) := by decide +kernel
theorem dX5_get_1 : decode cX5_get 1 = .ok (.iload_n 1, 1) := by decide +kernel
theorem dX5_get_2 : decode cX5_get 2 = .ok (.iload_n 2, 1) := by decide +kernel
theorem dX5_get_3 : decode cX5_get 3 = .ok (.iload_n 3, 1) := by decide +kernel
theorem dX5_get_4 : decode cX5_get 4 = .ok (.invokevirtual 272, 3) := by decide +kernel
theorem dX5_get_7 : decode cX5_get 7 = .ok (.ifCond .ne 15, 3) := by decide +kernel
theorem dX5_get_10 : decode cX5_get 10 = .ok (.aload_n 0, 1) := by decide +kernel
theorem dX5_get_11 : decode cX5_get 11 = .ok (.getfield 62, 3) := by decide +kernel
theorem dX5_get_14 : decode cX5_get 14 = .ok (.iload_n 1, 1) := by decide +kernel
theorem dX5_get_15 : decode cX5_get 15 = .ok (.iload_n 3, 1) := by decide +kernel
theorem dX5_get_16 : decode cX5_get 16 = .ok (.invokevirtual 165, 3) := by decide +kernel
theorem dX5_get_19 : decode cX5_get 19 = .ok (.goto 6, 3) := by decide +kernel
theorem dX5_get_22 : decode cX5_get 22 = .ok (.ldc_w 279, 3) := by decide +kernel
theorem dX5_get_25 : decode cX5_get 25 = .ok (.ireturn, 1) := by decide +kernel
theorem dX5_copy_0 : decode cX5_copy 0 = .ok (.iload_n 1, 1) := by decide +kernel
theorem dX5_copy_1 : decode cX5_copy 1 = .ok (.invokestatic 153, 3) := by decide +kernel
theorem dX5_copy_4 : decode cX5_copy 4 = .ok (.ifCond .eq 10, 3) := by decide +kernel
theorem dX5_copy_7 : decode cX5_copy 7 = .ok (.iload_n 3, 1) := by decide +kernel
theorem dX5_copy_8 : decode cX5_copy 8 = .ok (.invokestatic 153, 3) := by decide +kernel
theorem dX5_copy_11 : decode cX5_copy 11 = .ok (.ifCond .ne 6, 3) := by decide +kernel
theorem dX5_copy_14 : decode cX5_copy 14 = .ok (.bipush (-2), 2) := by decide +kernel
theorem dX5_copy_16 : decode cX5_copy 16 = .ok (.ireturn, 1) := by decide +kernel
theorem dX5_copy_17 : decode cX5_copy 17 = .ok (.aload_n 0, 1) := by decide +kernel
theorem dX5_copy_18 : decode cX5_copy 18 = .ok (.getfield 62, 3) := by decide +kernel
theorem dX5_copy_21 : decode cX5_copy 21 = .ok (.iload_n 1, 1) := by decide +kernel
theorem dX5_copy_22 : decode cX5_copy 22 = .ok (.invokevirtual 156, 3) := by decide +kernel
theorem dX5_copy_25 : decode cX5_copy 25 = .ok (.ifCond .ne 14, 3) := by decide +kernel
theorem dX5_copy_28 : decode cX5_copy 28 = .ok (.aload_n 0, 1) := by decide +kernel
theorem dX5_copy_29 : decode cX5_copy 29 = .ok (.getfield 62, 3) := by decide +kernel
theorem dX5_copy_32 : decode cX5_copy 32 = .ok (.iload_n 3, 1) := by decide +kernel
theorem dX5_copy_33 : decode cX5_copy 33 = .ok (.invokevirtual 156, 3) := by decide +kernel
theorem dX5_copy_36 : decode cX5_copy 36 = .ok (.ifCond .eq 9, 3) := by decide +kernel
theorem dX5_copy_39 : decode cX5_copy 39 = .ok (.aload_n 0, 1) := by decide +kernel
theorem dX5_copy_40 : decode cX5_copy 40 = .ok (.iconst 1, 1) := by decide +kernel
theorem dX5_copy_41 : decode cX5_copy 41 = .ok (.invokevirtual 159, 3) := by decide +kernel
theorem dX5_copy_44 : decode cX5_copy 44 = .ok (.ireturn, 1) := by decide +kernel
theorem dX5_copy_45 : decode cX5_copy 45 = .ok (.aload_n 0, 1) := by decide +kernel
theorem dX5_copy_46 : decode cX5_copy 46 = .ok (.getfield 62, 3) := by decide +kernel
theorem dX5_copy_49 : decode cX5_copy 49 = .ok (.getfield 280, 3) := by decide +kernel
theorem dX5_copy_52 : decode cX5_copy 52 = .ok (.iload_n 1, 1) := by decide +kernel
theorem dX5_copy_53 : decode cX5_copy 53 = .ok (.iaload, 1) := by decide +kernel
theorem dX5_copy_54 : decode cX5_copy 54 = .ok (.aload_n 0, 1) := by decide +kernel
theorem dX5_copy_55 : decode cX5_copy 55 = .ok (.getfield 62, 3) := by decide +kernel
theorem dX5_copy_58 : decode cX5_copy 58 = .ok (.getfield 280, 3) := by decide +kernel
theorem dX5_copy_61 : decode cX5_copy 61 = .ok (.iload_n 3, 1) := by decide +kernel
theorem dX5_copy_62 : decode cX5_copy 62 = .ok (.iaload, 1) := by decide +kernel
theorem dX5_copy_63 : decode cX5_copy 63 = .ok (.if_icmp .eq 9, 3) := by decide +kernel
theorem dX5_copy_66 : decode cX5_copy 66 = .ok (.aload_n 0, 1) := by decide +kernel
theorem dX5_copy_67 : decode cX5_copy 67 = .ok (.iconst 4, 1) := by decide +kernel
theorem dX5_copy_68 : decode cX5_copy 68 = .ok (.invokevirtual 159, 3) := by decide +kernel
theorem dX5_copy_71 : decode cX5_copy 71 = .ok (.ireturn, 1) := by decide +kernel
theorem dX5_copy_72 : decode cX5_copy 72 = .ok (.aload_n 0, 1) := by decide +kernel
theorem dX5_copy_73 : decode cX5_copy 73 = .ok (.getfield 62, 3) := by decide +kernel
theorem dX5_copy_76 : decode cX5_copy 76 = .ok (.iload_n 1, 1) := by decide +kernel
theorem dX5_copy_77 : decode cX5_copy 77 = .ok (.iload_n 2, 1) := by decide +kernel
theorem dX5_copy_78 : decode cX5_copy 78 = .ok (.iload 5, 2) := by decide +kernel
theorem dX5_copy_80 : decode cX5_copy 80 = .ok (.invokevirtual 283, 3) := by decide +kernel
theorem dX5_copy_83 : decode cX5_copy 83 = .ok (.ifCond .eq 18, 3) := by decide +kernel
theorem dX5_copy_86 : decode cX5_copy 86 = .ok (.aload_n 0, 1) := by decide +kernel
theorem dX5_copy_87 : decode cX5_copy 87 = .ok (.getfield 62, 3) := by decide +kernel
theorem dX5_copy_90 : decode cX5_copy 90 = .ok (.iload_n 3, 1) := by decide +kernel
theorem dX5_copy_91 : decode cX5_copy 91 = .ok (.iload 4, 2) := by decide +kernel
theorem dX5_copy_93 : decode cX5_copy 93 = .ok (.iload 5, 2) := by decide +kernel
theorem dX5_copy_95 : decode cX5_copy 95 = .ok (.invokevirtual 283, 3) := by decide +kernel
theorem dX5_copy_98 : decode cX5_copy 98 = .ok (.ifCond .ne 9, 3) := by decide +kernel
theorem dX5_copy_101 : decode cX5_copy 101 = .ok (.aload_n 0, 1) := by decide +kernel
theorem dX5_copy_102 : decode cX5_copy 102 = .ok (.iconst 2, 1) := by decide +kernel
theorem dX5_copy_103 : decode cX5_copy 103 = .ok (.invokevirtual 159, 3) := by decide +kernel
theorem dX5_copy_106 : decode cX5_copy 106 = .ok (.ireturn, 1) := by decide +kernel
theorem dX5_copy_107 : decode cX5_copy 107 = .ok (.aload_n 0, 1) := by decide +kernel
theorem dX5_copy_108 : decode cX5_copy 108 = .ok (.getfield 62, 3) := by decide +kernel
theorem dX5_copy_111 : decode cX5_copy 111 = .ok (.iload_n 1, 1) := by decide +kernel
theorem dX5_copy_112 : decode cX5_copy 112 = .ok (.iload_n 2, 1) := by decide +kernel
theorem dX5_copy_113 : decode cX5_copy 113 = .ok (.iload_n 3, 1) := by decide +kernel
theorem dX5_copy_114 : decode cX5_copy 114 = .ok (.iload 4, 2) := by decide +kernel
theorem dX5_copy_116 : decode cX5_copy 116 = .ok (.iload 5, 2) := by decide +kernel
theorem dX5_copy_118 : decode cX5_copy 118 = .ok (.invokevirtual 286, 3) := by decide +kernel
theorem dX5_copy_121 : decode cX5_copy 121 = .ok (.iconst 1, 1) := by decide +kernel
theorem dX5_copy_122 : decode cX5_copy 122 = .ok (.ireturn, 1) := by decide +kernel
theorem dX5_write_0 : decode cX5_write 0 = .ok (.aload_n 0, 1) := by decide +kernel
theorem dX5_write_1 : decode cX5_write 1 = .ok (.iload_n 1, 1) := by decide +kernel
theorem dX5_write_2 : decode cX5_write 2 = .ok (.invokevirtual 91, 3) := by decide +kernel
theorem dX5_write_5 : decode cX5_write 5 = .ok (.ifCond .eq 10, 3) := by decide +kernel
theorem dX5_write_8 : decode cX5_write 8 = .ok (.iload_n 2, 1) := by decide +kernel
theorem dX5_write_9 : decode cX5_write 9 = .ok (.invokestatic 153, 3) := by decide +kernel
theorem dX5_write_12 : decode cX5_write 12 = .ok (.ifCond .ne 6, 3) := by decide +kernel
theorem dX5_write_15 : decode cX5_write 15 = .ok (.bipush (-2), 2) := by decide +kernel
theorem dX5_write_17 : decode cX5_write 17 = .ok (.ireturn, 1) := by decide +kernel
theorem dX5_write_18 : decode cX5_write 18 = .ok (.aload_n 0, 1) := by decide +kernel
theorem dX5_write_19 : decode cX5_write 19 = .ok (.getfield 62, 3) := by decide +kernel
theorem dX5_write_22 : decode cX5_write 22 = .ok (.iload_n 2, 1) := by decide +kernel
theorem dX5_write_23 : decode cX5_write 23 = .ok (.invokevirtual 156, 3) := by decide +kernel
theorem dX5_write_26 : decode cX5_write 26 = .ok (.ifCond .eq 9, 3) := by decide +kernel
theorem dX5_write_29 : decode cX5_write 29 = .ok (.aload_n 0, 1) := by decide +kernel
theorem dX5_write_30 : decode cX5_write 30 = .ok (.iconst 1, 1) := by decide +kernel
theorem dX5_write_31 : decode cX5_write 31 = .ok (.invokevirtual 159, 3) := by decide +kernel
theorem dX5_write_34 : decode cX5_write 34 = .ok (.ireturn, 1) := by decide +kernel
theorem dX5_write_35 : decode cX5_write 35 = .ok (.aload_n 0, 1) := by decide +kernel
theorem dX5_write_36 : decode cX5_write 36 = .ok (.invokevirtual 168, 3) := by decide +kernel
theorem dX5_write_39 : decode cX5_write 39 = .ok (.astore_n 3, 1) := by decide +kernel
theorem dX5_write_40 : decode cX5_write 40 = .ok (.aload_n 0, 1) := by decide +kernel
theorem dX5_write_41 : decode cX5_write 41 = .ok (.getfield 62, 3) := by decide +kernel
theorem dX5_write_44 : decode cX5_write 44 = .ok (.getfield 163, 3) := by decide +kernel
theorem dX5_write_47 : decode cX5_write 47 = .ok (.iload_n 2, 1) := by decide +kernel
theorem dX5_write_48 : decode cX5_write 48 = .ok (.iaload, 1) := by decide +kernel
theorem dX5_write_49 : decode cX5_write 49 = .ok (.bipush 40, 2) := by decide +kernel
theorem dX5_write_51 : decode cX5_write 51 = .ok (.invokestatic 244, 3) := by decide +kernel
theorem dX5_write_54 : decode cX5_write 54 = .ok (.istore 4, 2) := by decide +kernel
theorem dX5_write_56 : decode cX5_write 56 = .ok (.iconst 0, 1) := by decide +kernel
theorem dX5_write_57 : decode cX5_write 57 = .ok (.istore 5, 2) := by decide +kernel
theorem dX5_write_59 : decode cX5_write 59 = .ok (.iload 5, 2) := by decide +kernel
theorem dX5_write_61 : decode cX5_write 61 = .ok (.iload 4, 2) := by decide +kernel
theorem dX5_write_63 : decode cX5_write 63 = .ok (.if_icmp .ge 26, 3) := by decide +kernel
theorem dX5_write_66 : decode cX5_write 66 = .ok (.aload_n 0, 1) := by decide +kernel
theorem dX5_write_67 : decode cX5_write 67 = .ok (.getfield 62, 3) := by decide +kernel
theorem dX5_write_70 : decode cX5_write 70 = .ok (.iload_n 2, 1) := by decide +kernel
theorem dX5_write_71 : decode cX5_write 71 = .ok (.iload 5, 2) := by decide +kernel
theorem dX5_write_73 : decode cX5_write 73 = .ok (.aload_n 3, 1) := by decide +kernel
theorem dX5_write_74 : decode cX5_write 74 = .ok (.iload 5, 2) := by decide +kernel
theorem dX5_write_76 : decode cX5_write 76 = .ok (.iload_n 1, 1) := by decide +kernel
theorem dX5_write_77 : decode cX5_write 77 = .ok (.invokevirtual 184, 3) := by decide +kernel
theorem dX5_write_80 : decode cX5_write 80 = .ok (.invokevirtual 276, 3) := by decide +kernel
theorem dX5_write_83 : decode cX5_write 83 = .ok (.iinc 5 1, 3) := by decide +kernel
theorem dX5_write_86 : decode cX5_write 86 = .ok (.goto (-27), 3) := by decide +kernel
theorem dX5_write_89 : decode cX5_write 89 = .ok (.iload 4, 2) := by decide +kernel
theorem dX5_write_91 : decode cX5_write 91 = .ok (.ireturn, 1) := by decide +kernel
theorem dX5_count_0 : decode cX5_count 0 = .ok (.iload_n 1, 1) := by decide +kernel
theorem dX5_count_1 : decode cX5_count 1 = .ok (.tableswitch 120 0 8 #[51, 62, 70, 78, 86, 94, 102, 110, 115], 51) := by decide +kernel
theorem dX5_count_52 : decode cX5_count 52 = .ok (.aload_n 0, 1) := by decide +kernel
theorem dX5_count_53 : decode cX5_count 53 = .ok (.getfield 26, 3) := by decide +kernel
theorem dX5_count_56 : decode cX5_count 56 = .ok (.getfield 95, 3) := by decide +kernel
theorem dX5_count_59 : decode cX5_count 59 = .ok (.getfield 290, 3) := by decide +kernel
theorem dX5_count_62 : decode cX5_count 62 = .ok (.ireturn, 1) := by decide +kernel
theorem dX5_count_63 : decode cX5_count 63 = .ok (.aload_n 0, 1) := by decide +kernel
theorem dX5_count_64 : decode cX5_count 64 = .ok (.getfield 26, 3) := by decide +kernel
theorem dX5_count_67 : decode cX5_count 67 = .ok (.getfield 293, 3) := by decide +kernel
theorem dX5_count_70 : decode cX5_count 70 = .ok (.ireturn, 1) := by decide +kernel
theorem dX5_count_71 : decode cX5_count 71 = .ok (.aload_n 0, 1) := by decide +kernel
theorem dX5_count_72 : decode cX5_count 72 = .ok (.getfield 16, 3) := by decide +kernel
theorem dX5_count_75 : decode cX5_count 75 = .ok (.getfield 84, 3) := by decide +kernel
theorem dX5_count_78 : decode cX5_count 78 = .ok (.ireturn, 1) := by decide +kernel
theorem dX5_count_79 : decode cX5_count 79 = .ok (.aload_n 0, 1) := by decide +kernel
theorem dX5_count_80 : decode cX5_count 80 = .ok (.getfield 20, 3) := by decide +kernel
theorem dX5_count_83 : decode cX5_count 83 = .ok (.getfield 84, 3) := by decide +kernel
theorem dX5_count_86 : decode cX5_count 86 = .ok (.ireturn, 1) := by decide +kernel
theorem dX5_count_87 : decode cX5_count 87 = .ok (.aload_n 0, 1) := by decide +kernel
theorem dX5_count_88 : decode cX5_count 88 = .ok (.getfield 26, 3) := by decide +kernel
theorem dX5_count_91 : decode cX5_count 91 = .ok (.getfield 135, 3) := by decide +kernel
theorem dX5_count_94 : decode cX5_count 94 = .ok (.ireturn, 1) := by decide +kernel
theorem dX5_count_95 : decode cX5_count 95 = .ok (.aload_n 0, 1) := by decide +kernel
theorem dX5_count_96 : decode cX5_count 96 = .ok (.getfield 26, 3) := by decide +kernel
theorem dX5_count_99 : decode cX5_count 99 = .ok (.getfield 146, 3) := by decide +kernel
theorem dX5_count_102 : decode cX5_count 102 = .ok (.ireturn, 1) := by decide +kernel
theorem dX5_count_103 : decode cX5_count 103 = .ok (.aload_n 0, 1) := by decide +kernel
theorem dX5_count_104 : decode cX5_count 104 = .ok (.invokevirtual 168, 3) := by decide +kernel
theorem dX5_count_107 : decode cX5_count 107 = .ok (.invokevirtual 260, 3) := by decide +kernel
theorem dX5_count_110 : decode cX5_count 110 = .ok (.ireturn, 1) := by decide +kernel
theorem dX5_count_111 : decode cX5_count 111 = .ok (.aload_n 0, 1) := by decide +kernel
theorem dX5_count_112 : decode cX5_count 112 = .ok (.getfield 216, 3) := by decide +kernel
theorem dX5_count_115 : decode cX5_count 115 = .ok (.ireturn, 1) := by decide +kernel
theorem dX5_count_116 : decode cX5_count 116 = .ok (.aload_n 0, 1) := by decide +kernel
theorem dX5_count_117 : decode cX5_count 117 = .ok (.getfield 296, 3) := by decide +kernel
theorem dX5_count_120 : decode cX5_count 120 = .ok (.ireturn, 1) := by decide +kernel
theorem dX5_count_121 : decode cX5_count 121 = .ok (.bipush (-2), 2) := by decide +kernel
theorem dX5_count_123 : decode cX5_count 123 = .ok (.ireturn, 1) := by decide +kernel
theorem dX5_digest_0 : decode cX5_digest 0 = .ok (.ldc2_w 299, 3) := by decide +kernel
theorem dX5_digest_3 : decode cX5_digest 3 = .ok (.lstore_n 1, 1) := by decide +kernel
theorem dX5_digest_4 : decode cX5_digest 4 = .ok (.iconst 0, 1) := by decide +kernel
theorem dX5_digest_5 : decode cX5_digest 5 = .ok (.istore_n 3, 1) := by decide +kernel
theorem dX5_digest_6 : decode cX5_digest 6 = .ok (.iload_n 3, 1) := by decide +kernel
theorem dX5_digest_7 : decode cX5_digest 7 = .ok (.bipush 7, 2) := by decide +kernel
theorem dX5_digest_9 : decode cX5_digest 9 = .ok (.if_icmp .gt 22, 3) := by decide +kernel
theorem dX5_digest_12 : decode cX5_digest 12 = .ok (.ldc2_w 301, 3) := by decide +kernel
theorem dX5_digest_15 : decode cX5_digest 15 = .ok (.lload_n 1, 1) := by decide +kernel
theorem dX5_digest_16 : decode cX5_digest 16 = .ok (.lmul, 1) := by decide +kernel
theorem dX5_digest_17 : decode cX5_digest 17 = .ok (.aload_n 0, 1) := by decide +kernel
theorem dX5_digest_18 : decode cX5_digest 18 = .ok (.iload_n 3, 1) := by decide +kernel
theorem dX5_digest_19 : decode cX5_digest 19 = .ok (.invokevirtual 303, 3) := by decide +kernel
theorem dX5_digest_22 : decode cX5_digest 22 = .ok (.i2l, 1) := by decide +kernel
theorem dX5_digest_23 : decode cX5_digest 23 = .ok (.ladd, 1) := by decide +kernel
theorem dX5_digest_24 : decode cX5_digest 24 = .ok (.lstore_n 1, 1) := by decide +kernel
theorem dX5_digest_25 : decode cX5_digest 25 = .ok (.iinc 3 1, 3) := by decide +kernel
theorem dX5_digest_28 : decode cX5_digest 28 = .ok (.goto (-22), 3) := by decide +kernel
theorem dX5_digest_31 : decode cX5_digest 31 = .ok (.ldc2_w 301, 3) := by decide +kernel
theorem dX5_digest_34 : decode cX5_digest 34 = .ok (.lload_n 1, 1) := by decide +kernel
theorem dX5_digest_35 : decode cX5_digest 35 = .ok (.lmul, 1) := by decide +kernel
theorem dX5_digest_36 : decode cX5_digest 36 = .ok (.aload_n 0, 1) := by decide +kernel
theorem dX5_digest_37 : decode cX5_digest 37 = .ok (.iconst 0, 1) := by decide +kernel
theorem dX5_digest_38 : decode cX5_digest 38 = .ok (.invokevirtual 306, 3) := by decide +kernel
theorem dX5_digest_41 : decode cX5_digest 41 = .ok (.i2l, 1) := by decide +kernel
theorem dX5_digest_42 : decode cX5_digest 42 = .ok (.ladd, 1) := by decide +kernel
theorem dX5_digest_43 : decode cX5_digest 43 = .ok (.lstore_n 1, 1) := by decide +kernel
theorem dX5_digest_44 : decode cX5_digest 44 = .ok (.ldc2_w 301, 3) := by decide +kernel
theorem dX5_digest_47 : decode cX5_digest 47 = .ok (.lload_n 1, 1) := by decide +kernel
theorem dX5_digest_48 : decode cX5_digest 48 = .ok (.lmul, 1) := by decide +kernel
theorem dX5_digest_49 : decode cX5_digest 49 = .ok (.aload_n 0, 1) := by decide +kernel
theorem dX5_digest_50 : decode cX5_digest 50 = .ok (.iconst 1, 1) := by decide +kernel
theorem dX5_digest_51 : decode cX5_digest 51 = .ok (.invokevirtual 306, 3) := by decide +kernel
theorem dX5_digest_54 : decode cX5_digest 54 = .ok (.i2l, 1) := by decide +kernel
theorem dX5_digest_55 : decode cX5_digest 55 = .ok (.ladd, 1) := by decide +kernel
theorem dX5_digest_56 : decode cX5_digest 56 = .ok (.lstore_n 1, 1) := by decide +kernel
theorem dX5_digest_57 : decode cX5_digest 57 = .ok (.iconst 0, 1) := by decide +kernel
theorem dX5_digest_58 : decode cX5_digest 58 = .ok (.istore_n 3, 1) := by decide +kernel
theorem dX5_digest_59 : decode cX5_digest 59 = .ok (.iload_n 3, 1) := by decide +kernel
theorem dX5_digest_60 : decode cX5_digest 60 = .ok (.bipush 40, 2) := by decide +kernel
theorem dX5_digest_62 : decode cX5_digest 62 = .ok (.if_icmp .ge 16, 3) := by decide +kernel
theorem dX5_digest_65 : decode cX5_digest 65 = .ok (.aload_n 0, 1) := by decide +kernel
theorem dX5_digest_66 : decode cX5_digest 66 = .ok (.lload_n 1, 1) := by decide +kernel
theorem dX5_digest_67 : decode cX5_digest 67 = .ok (.iload_n 3, 1) := by decide +kernel
theorem dX5_digest_68 : decode cX5_digest 68 = .ok (.invokevirtual 308, 3) := by decide +kernel
theorem dX5_digest_71 : decode cX5_digest 71 = .ok (.lstore_n 1, 1) := by decide +kernel
theorem dX5_digest_72 : decode cX5_digest 72 = .ok (.iinc 3 1, 3) := by decide +kernel
theorem dX5_digest_75 : decode cX5_digest 75 = .ok (.goto (-16), 3) := by decide +kernel
theorem dX5_digest_78 : decode cX5_digest 78 = .ok (.iconst 0, 1) := by decide +kernel
theorem dX5_digest_79 : decode cX5_digest 79 = .ok (.istore_n 3, 1) := by decide +kernel
theorem dX5_digest_80 : decode cX5_digest 80 = .ok (.iload_n 3, 1) := by decide +kernel
theorem dX5_digest_81 : decode cX5_digest 81 = .ok (.aload_n 0, 1) := by decide +kernel
theorem dX5_digest_82 : decode cX5_digest 82 = .ok (.getfield 26, 3) := by decide +kernel
theorem dX5_digest_85 : decode cX5_digest 85 = .ok (.getfield 95, 3) := by decide +kernel
theorem dX5_digest_88 : decode cX5_digest 88 = .ok (.getfield 290, 3) := by decide +kernel
theorem dX5_digest_91 : decode cX5_digest 91 = .ok (.if_icmp .ge 16, 3) := by decide +kernel
theorem dX5_digest_94 : decode cX5_digest 94 = .ok (.aload_n 0, 1) := by decide +kernel
theorem dX5_digest_95 : decode cX5_digest 95 = .ok (.lload_n 1, 1) := by decide +kernel
theorem dX5_digest_96 : decode cX5_digest 96 = .ok (.iload_n 3, 1) := by decide +kernel
theorem dX5_digest_97 : decode cX5_digest 97 = .ok (.invokevirtual 312, 3) := by decide +kernel
theorem dX5_digest_100 : decode cX5_digest 100 = .ok (.lstore_n 1, 1) := by decide +kernel
theorem dX5_digest_101 : decode cX5_digest 101 = .ok (.iinc 3 1, 3) := by decide +kernel
theorem dX5_digest_104 : decode cX5_digest 104 = .ok (.goto (-24), 3) := by decide +kernel
theorem dX5_digest_107 : decode cX5_digest 107 = .ok (.aload_n 0, 1) := by decide +kernel
theorem dX5_digest_108 : decode cX5_digest 108 = .ok (.lload_n 1, 1) := by decide +kernel
theorem dX5_digest_109 : decode cX5_digest 109 = .ok (.invokevirtual 315, 3) := by decide +kernel
theorem dX5_digest_112 : decode cX5_digest 112 = .ok (.lreturn, 1) := by decide +kernel
theorem dX5_digestHour_0 : decode cX5_digestHour 0 = .ok (.ldc2_w 301, 3) := by decide +kernel
theorem dX5_digestHour_3 : decode cX5_digestHour 3 = .ok (.lload_n 1, 1) := by decide +kernel
theorem dX5_digestHour_4 : decode cX5_digestHour 4 = .ok (.lmul, 1) := by decide +kernel
theorem dX5_digestHour_5 : decode cX5_digestHour 5 = .ok (.aload_n 0, 1) := by decide +kernel
theorem dX5_digestHour_6 : decode cX5_digestHour 6 = .ok (.iload_n 3, 1) := by decide +kernel
theorem dX5_digestHour_7 : decode cX5_digestHour 7 = .ok (.invokevirtual 319, 3) := by decide +kernel
theorem dX5_digestHour_10 : decode cX5_digestHour 10 = .ok (.i2l, 1) := by decide +kernel
theorem dX5_digestHour_11 : decode cX5_digestHour 11 = .ok (.ladd, 1) := by decide +kernel
theorem dX5_digestHour_12 : decode cX5_digestHour 12 = .ok (.lstore 4, 2) := by decide +kernel
theorem dX5_digestHour_14 : decode cX5_digestHour 14 = .ok (.iconst 0, 1) := by decide +kernel
theorem dX5_digestHour_15 : decode cX5_digestHour 15 = .ok (.istore 6, 2) := by decide +kernel
theorem dX5_digestHour_17 : decode cX5_digestHour 17 = .ok (.iload 6, 2) := by decide +kernel
theorem dX5_digestHour_19 : decode cX5_digestHour 19 = .ok (.iconst 3, 1) := by decide +kernel
theorem dX5_digestHour_20 : decode cX5_digestHour 20 = .ok (.if_icmp .gt 26, 3) := by decide +kernel
theorem dX5_digestHour_23 : decode cX5_digestHour 23 = .ok (.ldc2_w 301, 3) := by decide +kernel
theorem dX5_digestHour_26 : decode cX5_digestHour 26 = .ok (.lload 4, 2) := by decide +kernel
theorem dX5_digestHour_28 : decode cX5_digestHour 28 = .ok (.lmul, 1) := by decide +kernel
theorem dX5_digestHour_29 : decode cX5_digestHour 29 = .ok (.aload_n 0, 1) := by decide +kernel
theorem dX5_digestHour_30 : decode cX5_digestHour 30 = .ok (.iload_n 3, 1) := by decide +kernel
theorem dX5_digestHour_31 : decode cX5_digestHour 31 = .ok (.iload 6, 2) := by decide +kernel
theorem dX5_digestHour_33 : decode cX5_digestHour 33 = .ok (.invokevirtual 321, 3) := by decide +kernel
theorem dX5_digestHour_36 : decode cX5_digestHour 36 = .ok (.i2l, 1) := by decide +kernel
theorem dX5_digestHour_37 : decode cX5_digestHour 37 = .ok (.ladd, 1) := by decide +kernel
theorem dX5_digestHour_38 : decode cX5_digestHour 38 = .ok (.lstore 4, 2) := by decide +kernel
theorem dX5_digestHour_40 : decode cX5_digestHour 40 = .ok (.iinc 6 1, 3) := by decide +kernel
theorem dX5_digestHour_43 : decode cX5_digestHour 43 = .ok (.goto (-26), 3) := by decide +kernel
theorem dX5_digestHour_46 : decode cX5_digestHour 46 = .ok (.lload 4, 2) := by decide +kernel
theorem dX5_digestHour_48 : decode cX5_digestHour 48 = .ok (.lreturn, 1) := by decide +kernel
theorem dX5_digestHouse_0 : decode cX5_digestHouse 0 = .ok (.lload_n 1, 1) := by decide +kernel
theorem dX5_digestHouse_1 : decode cX5_digestHouse 1 = .ok (.lstore 4, 2) := by decide +kernel
theorem dX5_digestHouse_3 : decode cX5_digestHouse 3 = .ok (.iconst 0, 1) := by decide +kernel
theorem dX5_digestHouse_4 : decode cX5_digestHouse 4 = .ok (.istore 6, 2) := by decide +kernel
theorem dX5_digestHouse_6 : decode cX5_digestHouse 6 = .ok (.iload 6, 2) := by decide +kernel
theorem dX5_digestHouse_8 : decode cX5_digestHouse 8 = .ok (.bipush 6, 2) := by decide +kernel
theorem dX5_digestHouse_10 : decode cX5_digestHouse 10 = .ok (.if_icmp .gt 26, 3) := by decide +kernel
theorem dX5_digestHouse_13 : decode cX5_digestHouse 13 = .ok (.ldc2_w 301, 3) := by decide +kernel
theorem dX5_digestHouse_16 : decode cX5_digestHouse 16 = .ok (.lload 4, 2) := by decide +kernel
theorem dX5_digestHouse_18 : decode cX5_digestHouse 18 = .ok (.lmul, 1) := by decide +kernel
theorem dX5_digestHouse_19 : decode cX5_digestHouse 19 = .ok (.aload_n 0, 1) := by decide +kernel
theorem dX5_digestHouse_20 : decode cX5_digestHouse 20 = .ok (.iload_n 3, 1) := by decide +kernel
theorem dX5_digestHouse_21 : decode cX5_digestHouse 21 = .ok (.iload 6, 2) := by decide +kernel
theorem dX5_digestHouse_23 : decode cX5_digestHouse 23 = .ok (.invokevirtual 324, 3) := by decide +kernel
theorem dX5_digestHouse_26 : decode cX5_digestHouse 26 = .ok (.i2l, 1) := by decide +kernel
theorem dX5_digestHouse_27 : decode cX5_digestHouse 27 = .ok (.ladd, 1) := by decide +kernel
theorem dX5_digestHouse_28 : decode cX5_digestHouse 28 = .ok (.lstore 4, 2) := by decide +kernel
theorem dX5_digestHouse_30 : decode cX5_digestHouse 30 = .ok (.iinc 6 1, 3) := by decide +kernel
theorem dX5_digestHouse_33 : decode cX5_digestHouse 33 = .ok (.goto (-27), 3) := by decide +kernel
theorem dX5_digestHouse_36 : decode cX5_digestHouse 36 = .ok (.getstatic 327, 3) := by decide +kernel
theorem dX5_digestHouse_39 : decode cX5_digestHouse 39 = .ok (.astore 6, 2) := by decide +kernel
theorem dX5_digestHouse_41 : decode cX5_digestHouse 41 = .ok (.aload 6, 2) := by decide +kernel
theorem dX5_digestHouse_43 : decode cX5_digestHouse 43 = .ok (.arraylength, 1) := by decide +kernel
theorem dX5_digestHouse_44 : decode cX5_digestHouse 44 = .ok (.istore 7, 2) := by decide +kernel
theorem dX5_digestHouse_46 : decode cX5_digestHouse 46 = .ok (.iconst 0, 1) := by decide +kernel
theorem dX5_digestHouse_47 : decode cX5_digestHouse 47 = .ok (.istore 8, 2) := by decide +kernel
theorem dX5_digestHouse_49 : decode cX5_digestHouse 49 = .ok (.iload 8, 2) := by decide +kernel
theorem dX5_digestHouse_51 : decode cX5_digestHouse 51 = .ok (.iload 7, 2) := by decide +kernel
theorem dX5_digestHouse_53 : decode cX5_digestHouse 53 = .ok (.if_icmp .ge 50, 3) := by decide +kernel
theorem dX5_digestHouse_56 : decode cX5_digestHouse 56 = .ok (.aload 6, 2) := by decide +kernel
theorem dX5_digestHouse_58 : decode cX5_digestHouse 58 = .ok (.iload 8, 2) := by decide +kernel
theorem dX5_digestHouse_60 : decode cX5_digestHouse 60 = .ok (.iaload, 1) := by decide +kernel
theorem dX5_digestHouse_61 : decode cX5_digestHouse 61 = .ok (.istore 9, 2) := by decide +kernel
theorem dX5_digestHouse_63 : decode cX5_digestHouse 63 = .ok (.iconst 0, 1) := by decide +kernel
theorem dX5_digestHouse_64 : decode cX5_digestHouse 64 = .ok (.istore 10, 2) := by decide +kernel
theorem dX5_digestHouse_66 : decode cX5_digestHouse 66 = .ok (.iload 10, 2) := by decide +kernel
theorem dX5_digestHouse_68 : decode cX5_digestHouse 68 = .ok (.iconst 2, 1) := by decide +kernel
theorem dX5_digestHouse_69 : decode cX5_digestHouse 69 = .ok (.if_icmp .gt 28, 3) := by decide +kernel
theorem dX5_digestHouse_72 : decode cX5_digestHouse 72 = .ok (.ldc2_w 301, 3) := by decide +kernel
theorem dX5_digestHouse_75 : decode cX5_digestHouse 75 = .ok (.lload 4, 2) := by decide +kernel
theorem dX5_digestHouse_77 : decode cX5_digestHouse 77 = .ok (.lmul, 1) := by decide +kernel
theorem dX5_digestHouse_78 : decode cX5_digestHouse 78 = .ok (.aload_n 0, 1) := by decide +kernel
theorem dX5_digestHouse_79 : decode cX5_digestHouse 79 = .ok (.iload 9, 2) := by decide +kernel
theorem dX5_digestHouse_81 : decode cX5_digestHouse 81 = .ok (.iload_n 3, 1) := by decide +kernel
theorem dX5_digestHouse_82 : decode cX5_digestHouse 82 = .ok (.iload 10, 2) := by decide +kernel
theorem dX5_digestHouse_84 : decode cX5_digestHouse 84 = .ok (.invokevirtual 330, 3) := by decide +kernel
theorem dX5_digestHouse_87 : decode cX5_digestHouse 87 = .ok (.i2l, 1) := by decide +kernel
theorem dX5_digestHouse_88 : decode cX5_digestHouse 88 = .ok (.ladd, 1) := by decide +kernel
theorem dX5_digestHouse_89 : decode cX5_digestHouse 89 = .ok (.lstore 4, 2) := by decide +kernel
theorem dX5_digestHouse_91 : decode cX5_digestHouse 91 = .ok (.iinc 10 1, 3) := by decide +kernel
theorem dX5_digestHouse_94 : decode cX5_digestHouse 94 = .ok (.goto (-28), 3) := by decide +kernel
theorem dX5_digestHouse_97 : decode cX5_digestHouse 97 = .ok (.iinc 8 1, 3) := by decide +kernel
theorem dX5_digestHouse_100 : decode cX5_digestHouse 100 = .ok (.goto (-51), 3) := by decide +kernel
theorem dX5_digestHouse_103 : decode cX5_digestHouse 103 = .ok (.ldc2_w 301, 3) := by decide +kernel
theorem dX5_digestHouse_106 : decode cX5_digestHouse 106 = .ok (.lload 4, 2) := by decide +kernel
theorem dX5_digestHouse_108 : decode cX5_digestHouse 108 = .ok (.lmul, 1) := by decide +kernel
theorem dX5_digestHouse_109 : decode cX5_digestHouse 109 = .ok (.aload_n 0, 1) := by decide +kernel
theorem dX5_digestHouse_110 : decode cX5_digestHouse 110 = .ok (.iload_n 3, 1) := by decide +kernel
theorem dX5_digestHouse_111 : decode cX5_digestHouse 111 = .ok (.iconst 0, 1) := by decide +kernel
theorem dX5_digestHouse_112 : decode cX5_digestHouse 112 = .ok (.invokevirtual 333, 3) := by decide +kernel
theorem dX5_digestHouse_115 : decode cX5_digestHouse 115 = .ok (.i2l, 1) := by decide +kernel
theorem dX5_digestHouse_116 : decode cX5_digestHouse 116 = .ok (.ladd, 1) := by decide +kernel
theorem dX5_digestHouse_117 : decode cX5_digestHouse 117 = .ok (.lstore 4, 2) := by decide +kernel
theorem dX5_digestHouse_119 : decode cX5_digestHouse 119 = .ok (.ldc2_w 301, 3) := by decide +kernel
theorem dX5_digestHouse_122 : decode cX5_digestHouse 122 = .ok (.lload 4, 2) := by decide +kernel
theorem dX5_digestHouse_124 : decode cX5_digestHouse 124 = .ok (.lmul, 1) := by decide +kernel
theorem dX5_digestHouse_125 : decode cX5_digestHouse 125 = .ok (.aload_n 0, 1) := by decide +kernel
theorem dX5_digestHouse_126 : decode cX5_digestHouse 126 = .ok (.iload_n 3, 1) := by decide +kernel
theorem dX5_digestHouse_127 : decode cX5_digestHouse 127 = .ok (.iconst 1, 1) := by decide +kernel
theorem dX5_digestHouse_128 : decode cX5_digestHouse 128 = .ok (.invokevirtual 333, 3) := by decide +kernel
theorem dX5_digestHouse_131 : decode cX5_digestHouse 131 = .ok (.i2l, 1) := by decide +kernel
theorem dX5_digestHouse_132 : decode cX5_digestHouse 132 = .ok (.ladd, 1) := by decide +kernel
theorem dX5_digestHouse_133 : decode cX5_digestHouse 133 = .ok (.lstore 4, 2) := by decide +kernel
theorem dX5_digestHouse_135 : decode cX5_digestHouse 135 = .ok (.lload 4, 2) := by decide +kernel
theorem dX5_digestHouse_137 : decode cX5_digestHouse 137 = .ok (.aload_n 0, 1) := by decide +kernel
theorem dX5_digestHouse_138 : decode cX5_digestHouse 138 = .ok (.iload_n 3, 1) := by decide +kernel
theorem dX5_digestHouse_139 : decode cX5_digestHouse 139 = .ok (.invokevirtual 206, 3) := by decide +kernel
theorem dX5_digestHouse_142 : decode cX5_digestHouse 142 = .ok (.invokestatic 336, 3) := by decide +kernel
theorem dX5_digestHouse_145 : decode cX5_digestHouse 145 = .ok (.lstore 4, 2) := by decide +kernel
theorem dX5_digestHouse_147 : decode cX5_digestHouse 147 = .ok (.ldc2_w 301, 3) := by decide +kernel
theorem dX5_digestHouse_150 : decode cX5_digestHouse 150 = .ok (.lload 4, 2) := by decide +kernel
theorem dX5_digestHouse_152 : decode cX5_digestHouse 152 = .ok (.lmul, 1) := by decide +kernel
theorem dX5_digestHouse_153 : decode cX5_digestHouse 153 = .ok (.aload_n 0, 1) := by decide +kernel
theorem dX5_digestHouse_154 : decode cX5_digestHouse 154 = .ok (.iload_n 3, 1) := by decide +kernel
theorem dX5_digestHouse_155 : decode cX5_digestHouse 155 = .ok (.invokevirtual 339, 3) := by decide +kernel
theorem dX5_digestHouse_158 : decode cX5_digestHouse 158 = .ok (.i2l, 1) := by decide +kernel
theorem dX5_digestHouse_159 : decode cX5_digestHouse 159 = .ok (.ladd, 1) := by decide +kernel
theorem dX5_digestHouse_160 : decode cX5_digestHouse 160 = .ok (.lstore 4, 2) := by decide +kernel
theorem dX5_digestHouse_162 : decode cX5_digestHouse 162 = .ok (.ldc2_w 301, 3) := by decide +kernel
theorem dX5_digestHouse_165 : decode cX5_digestHouse 165 = .ok (.lload 4, 2) := by decide +kernel
theorem dX5_digestHouse_167 : decode cX5_digestHouse 167 = .ok (.lmul, 1) := by decide +kernel
theorem dX5_digestHouse_168 : decode cX5_digestHouse 168 = .ok (.aload_n 0, 1) := by decide +kernel
theorem dX5_digestHouse_169 : decode cX5_digestHouse 169 = .ok (.iload_n 3, 1) := by decide +kernel
theorem dX5_digestHouse_170 : decode cX5_digestHouse 170 = .ok (.invokevirtual 342, 3) := by decide +kernel
theorem dX5_digestHouse_173 : decode cX5_digestHouse 173 = .ok (.i2l, 1) := by decide +kernel
theorem dX5_digestHouse_174 : decode cX5_digestHouse 174 = .ok (.ladd, 1) := by decide +kernel
theorem dX5_digestHouse_175 : decode cX5_digestHouse 175 = .ok (.lstore 4, 2) := by decide +kernel
theorem dX5_digestHouse_177 : decode cX5_digestHouse 177 = .ok (.ldc2_w 301, 3) := by decide +kernel
theorem dX5_digestHouse_180 : decode cX5_digestHouse 180 = .ok (.lload 4, 2) := by decide +kernel
theorem dX5_digestHouse_182 : decode cX5_digestHouse 182 = .ok (.lmul, 1) := by decide +kernel
theorem dX5_digestHouse_183 : decode cX5_digestHouse 183 = .ok (.aload_n 0, 1) := by decide +kernel
theorem dX5_digestHouse_184 : decode cX5_digestHouse 184 = .ok (.iconst 5, 1) := by decide +kernel
theorem dX5_digestHouse_185 : decode cX5_digestHouse 185 = .ok (.iload_n 3, 1) := by decide +kernel
theorem dX5_digestHouse_186 : decode cX5_digestHouse 186 = .ok (.iconst 0, 1) := by decide +kernel
theorem dX5_digestHouse_187 : decode cX5_digestHouse 187 = .ok (.invokevirtual 345, 3) := by decide +kernel
theorem dX5_digestHouse_190 : decode cX5_digestHouse 190 = .ok (.ladd, 1) := by decide +kernel
theorem dX5_digestHouse_191 : decode cX5_digestHouse 191 = .ok (.lstore 4, 2) := by decide +kernel
theorem dX5_digestHouse_193 : decode cX5_digestHouse 193 = .ok (.ldc2_w 301, 3) := by decide +kernel
theorem dX5_digestHouse_196 : decode cX5_digestHouse 196 = .ok (.lload 4, 2) := by decide +kernel
theorem dX5_digestHouse_198 : decode cX5_digestHouse 198 = .ok (.lmul, 1) := by decide +kernel
theorem dX5_digestHouse_199 : decode cX5_digestHouse 199 = .ok (.aload_n 0, 1) := by decide +kernel
theorem dX5_digestHouse_200 : decode cX5_digestHouse 200 = .ok (.iconst 5, 1) := by decide +kernel
theorem dX5_digestHouse_201 : decode cX5_digestHouse 201 = .ok (.iload_n 3, 1) := by decide +kernel
theorem dX5_digestHouse_202 : decode cX5_digestHouse 202 = .ok (.iconst 1, 1) := by decide +kernel
theorem dX5_digestHouse_203 : decode cX5_digestHouse 203 = .ok (.invokevirtual 345, 3) := by decide +kernel
theorem dX5_digestHouse_206 : decode cX5_digestHouse 206 = .ok (.ladd, 1) := by decide +kernel
theorem dX5_digestHouse_207 : decode cX5_digestHouse 207 = .ok (.lreturn, 1) := by decide +kernel
theorem dX5_digestTown_0 : decode cX5_digestTown 0 = .ok (.ldc2_w 301, 3) := by decide +kernel
theorem dX5_digestTown_3 : decode cX5_digestTown 3 = .ok (.lload_n 1, 1) := by decide +kernel
theorem dX5_digestTown_4 : decode cX5_digestTown 4 = .ok (.lmul, 1) := by decide +kernel
theorem dX5_digestTown_5 : decode cX5_digestTown 5 = .ok (.aload_n 0, 1) := by decide +kernel
theorem dX5_digestTown_6 : decode cX5_digestTown 6 = .ok (.invokevirtual 349, 3) := by decide +kernel
theorem dX5_digestTown_9 : decode cX5_digestTown 9 = .ok (.i2l, 1) := by decide +kernel
theorem dX5_digestTown_10 : decode cX5_digestTown 10 = .ok (.ladd, 1) := by decide +kernel
theorem dX5_digestTown_11 : decode cX5_digestTown 11 = .ok (.lstore_n 3, 1) := by decide +kernel
theorem dX5_digestTown_12 : decode cX5_digestTown 12 = .ok (.ldc2_w 301, 3) := by decide +kernel
theorem dX5_digestTown_15 : decode cX5_digestTown 15 = .ok (.lload_n 3, 1) := by decide +kernel
theorem dX5_digestTown_16 : decode cX5_digestTown 16 = .ok (.lmul, 1) := by decide +kernel
theorem dX5_digestTown_17 : decode cX5_digestTown 17 = .ok (.aload_n 0, 1) := by decide +kernel
theorem dX5_digestTown_18 : decode cX5_digestTown 18 = .ok (.invokevirtual 352, 3) := by decide +kernel
theorem dX5_digestTown_21 : decode cX5_digestTown 21 = .ok (.i2l, 1) := by decide +kernel
theorem dX5_digestTown_22 : decode cX5_digestTown 22 = .ok (.ladd, 1) := by decide +kernel
theorem dX5_digestTown_23 : decode cX5_digestTown 23 = .ok (.lstore_n 3, 1) := by decide +kernel
theorem dX5_digestTown_24 : decode cX5_digestTown 24 = .ok (.ldc2_w 301, 3) := by decide +kernel
theorem dX5_digestTown_27 : decode cX5_digestTown 27 = .ok (.lload_n 3, 1) := by decide +kernel
theorem dX5_digestTown_28 : decode cX5_digestTown 28 = .ok (.lmul, 1) := by decide +kernel
theorem dX5_digestTown_29 : decode cX5_digestTown 29 = .ok (.aload_n 0, 1) := by decide +kernel
theorem dX5_digestTown_30 : decode cX5_digestTown 30 = .ok (.invokevirtual 355, 3) := by decide +kernel
theorem dX5_digestTown_33 : decode cX5_digestTown 33 = .ok (.i2l, 1) := by decide +kernel
theorem dX5_digestTown_34 : decode cX5_digestTown 34 = .ok (.ladd, 1) := by decide +kernel
theorem dX5_digestTown_35 : decode cX5_digestTown 35 = .ok (.lstore_n 3, 1) := by decide +kernel
theorem dX5_digestTown_36 : decode cX5_digestTown 36 = .ok (.lload_n 3, 1) := by decide +kernel
theorem dX5_digestTown_37 : decode cX5_digestTown 37 = .ok (.aload_n 0, 1) := by decide +kernel
theorem dX5_digestTown_38 : decode cX5_digestTown 38 = .ok (.invokevirtual 199, 3) := by decide +kernel
theorem dX5_digestTown_41 : decode cX5_digestTown 41 = .ok (.invokestatic 336, 3) := by decide +kernel
theorem dX5_digestTown_44 : decode cX5_digestTown 44 = .ok (.lstore_n 3, 1) := by decide +kernel
theorem dX5_digestTown_45 : decode cX5_digestTown 45 = .ok (.ldc2_w 301, 3) := by decide +kernel
theorem dX5_digestTown_48 : decode cX5_digestTown 48 = .ok (.lload_n 3, 1) := by decide +kernel
theorem dX5_digestTown_49 : decode cX5_digestTown 49 = .ok (.lmul, 1) := by decide +kernel
theorem dX5_digestTown_50 : decode cX5_digestTown 50 = .ok (.aload_n 0, 1) := by decide +kernel
theorem dX5_digestTown_51 : decode cX5_digestTown 51 = .ok (.invokevirtual 358, 3) := by decide +kernel
theorem dX5_digestTown_54 : decode cX5_digestTown 54 = .ok (.i2l, 1) := by decide +kernel
theorem dX5_digestTown_55 : decode cX5_digestTown 55 = .ok (.ladd, 1) := by decide +kernel
theorem dX5_digestTown_56 : decode cX5_digestTown 56 = .ok (.lstore_n 3, 1) := by decide +kernel
theorem dX5_digestTown_57 : decode cX5_digestTown 57 = .ok (.lload_n 3, 1) := by decide +kernel
theorem dX5_digestTown_58 : decode cX5_digestTown 58 = .ok (.aload_n 0, 1) := by decide +kernel
theorem dX5_digestTown_59 : decode cX5_digestTown 59 = .ok (.invokevirtual 213, 3) := by decide +kernel
theorem dX5_digestTown_62 : decode cX5_digestTown 62 = .ok (.invokestatic 336, 3) := by decide +kernel
theorem dX5_digestTown_65 : decode cX5_digestTown 65 = .ok (.lstore_n 3, 1) := by decide +kernel
theorem dX5_digestTown_66 : decode cX5_digestTown 66 = .ok (.ldc2_w 301, 3) := by decide +kernel
theorem dX5_digestTown_69 : decode cX5_digestTown 69 = .ok (.lload_n 3, 1) := by decide +kernel
theorem dX5_digestTown_70 : decode cX5_digestTown 70 = .ok (.lmul, 1) := by decide +kernel
theorem dX5_digestTown_71 : decode cX5_digestTown 71 = .ok (.aload_n 0, 1) := by decide +kernel
theorem dX5_digestTown_72 : decode cX5_digestTown 72 = .ok (.invokevirtual 361, 3) := by decide +kernel
theorem dX5_digestTown_75 : decode cX5_digestTown 75 = .ok (.i2l, 1) := by decide +kernel
theorem dX5_digestTown_76 : decode cX5_digestTown 76 = .ok (.ladd, 1) := by decide +kernel
theorem dX5_digestTown_77 : decode cX5_digestTown 77 = .ok (.lstore_n 3, 1) := by decide +kernel
theorem dX5_digestTown_78 : decode cX5_digestTown 78 = .ok (.aload_n 0, 1) := by decide +kernel
theorem dX5_digestTown_79 : decode cX5_digestTown 79 = .ok (.invokevirtual 229, 3) := by decide +kernel
theorem dX5_digestTown_82 : decode cX5_digestTown 82 = .ok (.lstore 5, 2) := by decide +kernel
theorem dX5_digestTown_84 : decode cX5_digestTown 84 = .ok (.iconst 0, 1) := by decide +kernel
theorem dX5_digestTown_85 : decode cX5_digestTown 85 = .ok (.istore 7, 2) := by decide +kernel
theorem dX5_digestTown_87 : decode cX5_digestTown 87 = .ok (.iload 7, 2) := by decide +kernel
theorem dX5_digestTown_89 : decode cX5_digestTown 89 = .ok (.iconst 2, 1) := by decide +kernel
theorem dX5_digestTown_90 : decode cX5_digestTown 90 = .ok (.if_icmp .gt 24, 3) := by decide +kernel
theorem dX5_digestTown_93 : decode cX5_digestTown 93 = .ok (.ldc2_w 301, 3) := by decide +kernel
theorem dX5_digestTown_96 : decode cX5_digestTown 96 = .ok (.lload_n 3, 1) := by decide +kernel
theorem dX5_digestTown_97 : decode cX5_digestTown 97 = .ok (.lmul, 1) := by decide +kernel
theorem dX5_digestTown_98 : decode cX5_digestTown 98 = .ok (.lload 5, 2) := by decide +kernel
theorem dX5_digestTown_100 : decode cX5_digestTown 100 = .ok (.iload 7, 2) := by decide +kernel
theorem dX5_digestTown_102 : decode cX5_digestTown 102 = .ok (.invokestatic 233, 3) := by decide +kernel
theorem dX5_digestTown_105 : decode cX5_digestTown 105 = .ok (.i2l, 1) := by decide +kernel
theorem dX5_digestTown_106 : decode cX5_digestTown 106 = .ok (.ladd, 1) := by decide +kernel
theorem dX5_digestTown_107 : decode cX5_digestTown 107 = .ok (.lstore_n 3, 1) := by decide +kernel
theorem dX5_digestTown_108 : decode cX5_digestTown 108 = .ok (.iinc 7 1, 3) := by decide +kernel
theorem dX5_digestTown_111 : decode cX5_digestTown 111 = .ok (.goto (-24), 3) := by decide +kernel
theorem dX5_digestTown_114 : decode cX5_digestTown 114 = .ok (.ldc2_w 301, 3) := by decide +kernel
theorem dX5_digestTown_117 : decode cX5_digestTown 117 = .ok (.lload_n 3, 1) := by decide +kernel
theorem dX5_digestTown_118 : decode cX5_digestTown 118 = .ok (.lmul, 1) := by decide +kernel
theorem dX5_digestTown_119 : decode cX5_digestTown 119 = .ok (.aload_n 0, 1) := by decide +kernel
theorem dX5_digestTown_120 : decode cX5_digestTown 120 = .ok (.bipush 7, 2) := by decide +kernel
theorem dX5_digestTown_122 : decode cX5_digestTown 122 = .ok (.bipush 25, 2) := by decide +kernel
theorem dX5_digestTown_124 : decode cX5_digestTown 124 = .ok (.iconst 0, 1) := by decide +kernel
theorem dX5_digestTown_125 : decode cX5_digestTown 125 = .ok (.invokevirtual 364, 3) := by decide +kernel
theorem dX5_digestTown_128 : decode cX5_digestTown 128 = .ok (.i2l, 1) := by decide +kernel
theorem dX5_digestTown_129 : decode cX5_digestTown 129 = .ok (.ladd, 1) := by decide +kernel
theorem dX5_digestTown_130 : decode cX5_digestTown 130 = .ok (.lstore_n 3, 1) := by decide +kernel
theorem dX5_digestTown_131 : decode cX5_digestTown 131 = .ok (.ldc2_w 301, 3) := by decide +kernel
theorem dX5_digestTown_134 : decode cX5_digestTown 134 = .ok (.lload_n 3, 1) := by decide +kernel
theorem dX5_digestTown_135 : decode cX5_digestTown 135 = .ok (.lmul, 1) := by decide +kernel
theorem dX5_digestTown_136 : decode cX5_digestTown 136 = .ok (.aload_n 0, 1) := by decide +kernel
theorem dX5_digestTown_137 : decode cX5_digestTown 137 = .ok (.bipush 7, 2) := by decide +kernel
theorem dX5_digestTown_139 : decode cX5_digestTown 139 = .ok (.bipush 25, 2) := by decide +kernel
theorem dX5_digestTown_141 : decode cX5_digestTown 141 = .ok (.iconst 1, 1) := by decide +kernel
theorem dX5_digestTown_142 : decode cX5_digestTown 142 = .ok (.invokevirtual 364, 3) := by decide +kernel
theorem dX5_digestTown_145 : decode cX5_digestTown 145 = .ok (.i2l, 1) := by decide +kernel
theorem dX5_digestTown_146 : decode cX5_digestTown 146 = .ok (.ladd, 1) := by decide +kernel
theorem dX5_digestTown_147 : decode cX5_digestTown 147 = .ok (.lreturn, 1) := by decide +kernel
theorem dX5_digestPlan_0 : decode cX5_digestPlan 0 = .ok (.ldc2_w 301, 3) := by decide +kernel
theorem dX5_digestPlan_3 : decode cX5_digestPlan 3 = .ok (.ldc2_w 301, 3) := by decide +kernel
theorem dX5_digestPlan_6 : decode cX5_digestPlan 6 = .ok (.lload_n 0, 1) := by decide +kernel
theorem dX5_digestPlan_7 : decode cX5_digestPlan 7 = .ok (.lmul, 1) := by decide +kernel
theorem dX5_digestPlan_8 : decode cX5_digestPlan 8 = .ok (.iload_n 2, 1) := by decide +kernel
theorem dX5_digestPlan_9 : decode cX5_digestPlan 9 = .ok (.iconst 0, 1) := by decide +kernel
theorem dX5_digestPlan_10 : decode cX5_digestPlan 10 = .ok (.invokestatic 203, 3) := by decide +kernel
theorem dX5_digestPlan_13 : decode cX5_digestPlan 13 = .ok (.i2l, 1) := by decide +kernel
theorem dX5_digestPlan_14 : decode cX5_digestPlan 14 = .ok (.ladd, 1) := by decide +kernel
theorem dX5_digestPlan_15 : decode cX5_digestPlan 15 = .ok (.lmul, 1) := by decide +kernel
theorem dX5_digestPlan_16 : decode cX5_digestPlan 16 = .ok (.iload_n 2, 1) := by decide +kernel
theorem dX5_digestPlan_17 : decode cX5_digestPlan 17 = .ok (.iconst 1, 1) := by decide +kernel
theorem dX5_digestPlan_18 : decode cX5_digestPlan 18 = .ok (.invokestatic 203, 3) := by decide +kernel
theorem dX5_digestPlan_21 : decode cX5_digestPlan 21 = .ok (.i2l, 1) := by decide +kernel
theorem dX5_digestPlan_22 : decode cX5_digestPlan 22 = .ok (.ladd, 1) := by decide +kernel
theorem dX5_digestPlan_23 : decode cX5_digestPlan 23 = .ok (.lreturn, 1) := by decide +kernel
theorem dX5_within_0 : decode cX5_within 0 = .ok (.iload_n 0, 1) := by decide +kernel
theorem dX5_within_1 : decode cX5_within 1 = .ok (.iload_n 1, 1) := by decide +kernel
theorem dX5_within_2 : decode cX5_within 2 = .ok (.if_icmp .lt 12, 3) := by decide +kernel
theorem dX5_within_5 : decode cX5_within 5 = .ok (.iload_n 0, 1) := by decide +kernel
theorem dX5_within_6 : decode cX5_within 6 = .ok (.iload_n 2, 1) := by decide +kernel
theorem dX5_within_7 : decode cX5_within 7 = .ok (.if_icmp .gt 7, 3) := by decide +kernel
theorem dX5_within_10 : decode cX5_within 10 = .ok (.iconst 1, 1) := by decide +kernel
theorem dX5_within_11 : decode cX5_within 11 = .ok (.goto 4, 3) := by decide +kernel
theorem dX5_within_14 : decode cX5_within 14 = .ok (.iconst 0, 1) := by decide +kernel
theorem dX5_within_15 : decode cX5_within 15 = .ok (.ireturn, 1) := by decide +kernel
theorem dX5_isHour_0 : decode cX5_isHour 0 = .ok (.iload_n 0, 1) := by decide +kernel
theorem dX5_isHour_1 : decode cX5_isHour 1 = .ok (.iconst 0, 1) := by decide +kernel
theorem dX5_isHour_2 : decode cX5_isHour 2 = .ok (.bipush 39, 2) := by decide +kernel
theorem dX5_isHour_4 : decode cX5_isHour 4 = .ok (.invokestatic 66, 3) := by decide +kernel
theorem dX5_isHour_7 : decode cX5_isHour 7 = .ok (.ireturn, 1) := by decide +kernel
theorem dX5_isSheet_0 : decode cX5_isSheet 0 = .ok (.iload_n 0, 1) := by decide +kernel
theorem dX5_isSheet_1 : decode cX5_isSheet 1 = .ok (.iconst 0, 1) := by decide +kernel
theorem dX5_isSheet_2 : decode cX5_isSheet 2 = .ok (.iconst 3, 1) := by decide +kernel
theorem dX5_isSheet_3 : decode cX5_isSheet 3 = .ok (.invokestatic 66, 3) := by decide +kernel
theorem dX5_isSheet_6 : decode cX5_isSheet 6 = .ok (.ireturn, 1) := by decide +kernel
theorem dX5_isForm_0 : decode cX5_isForm 0 = .ok (.iload_n 0, 1) := by decide +kernel
theorem dX5_isForm_1 : decode cX5_isForm 1 = .ok (.iconst 0, 1) := by decide +kernel
theorem dX5_isForm_2 : decode cX5_isForm 2 = .ok (.iconst 2, 1) := by decide +kernel
theorem dX5_isForm_3 : decode cX5_isForm 3 = .ok (.invokestatic 66, 3) := by decide +kernel
theorem dX5_isForm_6 : decode cX5_isForm 6 = .ok (.ireturn, 1) := by decide +kernel
theorem dX5_mayPinch_0 : decode cX5_mayPinch 0 = .ok (.iload_n 0, 1) := by decide +kernel
theorem dX5_mayPinch_1 : decode cX5_mayPinch 1 = .ok (.invokestatic 117, 3) := by decide +kernel
theorem dX5_mayPinch_4 : decode cX5_mayPinch 4 = .ok (.ifCond .eq 17, 3) := by decide +kernel
theorem dX5_mayPinch_7 : decode cX5_mayPinch 7 = .ok (.iload_n 1, 1) := by decide +kernel
theorem dX5_mayPinch_8 : decode cX5_mayPinch 8 = .ok (.iconst 0, 1) := by decide +kernel
theorem dX5_mayPinch_9 : decode cX5_mayPinch 9 = .ok (.bipush 7, 2) := by decide +kernel
theorem dX5_mayPinch_11 : decode cX5_mayPinch 11 = .ok (.invokestatic 66, 3) := by decide +kernel
theorem dX5_mayPinch_14 : decode cX5_mayPinch 14 = .ok (.ifCond .eq 7, 3) := by decide +kernel
theorem dX5_mayPinch_17 : decode cX5_mayPinch 17 = .ok (.iconst 1, 1) := by decide +kernel
theorem dX5_mayPinch_18 : decode cX5_mayPinch 18 = .ok (.goto 4, 3) := by decide +kernel
theorem dX5_mayPinch_21 : decode cX5_mayPinch 21 = .ok (.iconst 0, 1) := by decide +kernel
theorem dX5_mayPinch_22 : decode cX5_mayPinch 22 = .ok (.ireturn, 1) := by decide +kernel
theorem dX5_isHouse_0 : decode cX5_isHouse 0 = .ok (.iload_n 1, 1) := by decide +kernel
theorem dX5_isHouse_1 : decode cX5_isHouse 1 = .ok (.iconst 0, 1) := by decide +kernel
theorem dX5_isHouse_2 : decode cX5_isHouse 2 = .ok (.aload_n 0, 1) := by decide +kernel
theorem dX5_isHouse_3 : decode cX5_isHouse 3 = .ok (.getfield 26, 3) := by decide +kernel
theorem dX5_isHouse_6 : decode cX5_isHouse 6 = .ok (.getfield 95, 3) := by decide +kernel
theorem dX5_isHouse_9 : decode cX5_isHouse 9 = .ok (.getfield 290, 3) := by decide +kernel
theorem dX5_isHouse_12 : decode cX5_isHouse 12 = .ok (.iconst 1, 1) := by decide +kernel
theorem dX5_isHouse_13 : decode cX5_isHouse 13 = .ok (.isub, 1) := by decide +kernel
theorem dX5_isHouse_14 : decode cX5_isHouse 14 = .ok (.invokestatic 66, 3) := by decide +kernel
theorem dX5_isHouse_17 : decode cX5_isHouse 17 = .ok (.ireturn, 1) := by decide +kernel
theorem dX5_needOf_0 : decode cX5_needOf 0 = .ok (.iload_n 0, 1) := by decide +kernel
theorem dX5_needOf_1 : decode cX5_needOf 1 = .ok (.ifCond .ne 7, 3) := by decide +kernel
theorem dX5_needOf_4 : decode cX5_needOf 4 = .ok (.iconst 1, 1) := by decide +kernel
theorem dX5_needOf_5 : decode cX5_needOf 5 = .ok (.goto 13, 3) := by decide +kernel
theorem dX5_needOf_8 : decode cX5_needOf 8 = .ok (.iload_n 0, 1) := by decide +kernel
theorem dX5_needOf_9 : decode cX5_needOf 9 = .ok (.iconst 1, 1) := by decide +kernel
theorem dX5_needOf_10 : decode cX5_needOf 10 = .ok (.if_icmp .ne 7, 3) := by decide +kernel
theorem dX5_needOf_13 : decode cX5_needOf 13 = .ok (.iconst 2, 1) := by decide +kernel
theorem dX5_needOf_14 : decode cX5_needOf 14 = .ok (.goto 4, 3) := by decide +kernel
theorem dX5_needOf_17 : decode cX5_needOf 17 = .ok (.iconst 4, 1) := by decide +kernel
theorem dX5_needOf_18 : decode cX5_needOf 18 = .ok (.ireturn, 1) := by decide +kernel
theorem dX5_found_0 : decode cX5_found 0 = .ok (.aload_n 0, 1) := by decide +kernel
theorem dX5_found_1 : decode cX5_found 1 = .ok (.iload_n 1, 1) := by decide +kernel
theorem dX5_found_2 : decode cX5_found 2 = .ok (.putfield 296, 3) := by decide +kernel
theorem dX5_found_5 : decode cX5_found 5 = .ok (.bipush (-10), 2) := by decide +kernel
theorem dX5_found_7 : decode cX5_found 7 = .ok (.iload_n 1, 1) := by decide +kernel
theorem dX5_found_8 : decode cX5_found 8 = .ok (.isub, 1) := by decide +kernel
theorem dX5_found_9 : decode cX5_found 9 = .ok (.ireturn, 1) := by decide +kernel
theorem dX5_refusalOfItem_0 : decode cX5_refusalOfItem 0 = .ok (.iload_n 1, 1) := by decide +kernel
theorem dX5_refusalOfItem_1 : decode cX5_refusalOfItem 1 = .ok (.invokestatic 153, 3) := by decide +kernel
theorem dX5_refusalOfItem_4 : decode cX5_refusalOfItem 4 = .ok (.ifCond .eq 10, 3) := by decide +kernel
theorem dX5_refusalOfItem_7 : decode cX5_refusalOfItem 7 = .ok (.iload_n 2, 1) := by decide +kernel
theorem dX5_refusalOfItem_8 : decode cX5_refusalOfItem 8 = .ok (.invokestatic 263, 3) := by decide +kernel
theorem dX5_refusalOfItem_11 : decode cX5_refusalOfItem 11 = .ok (.ifCond .ne 6, 3) := by decide +kernel
theorem dX5_refusalOfItem_14 : decode cX5_refusalOfItem 14 = .ok (.bipush (-2), 2) := by decide +kernel
theorem dX5_refusalOfItem_16 : decode cX5_refusalOfItem 16 = .ok (.ireturn, 1) := by decide +kernel
theorem dX5_refusalOfItem_17 : decode cX5_refusalOfItem 17 = .ok (.aload_n 0, 1) := by decide +kernel
theorem dX5_refusalOfItem_18 : decode cX5_refusalOfItem 18 = .ok (.getfield 62, 3) := by decide +kernel
theorem dX5_refusalOfItem_21 : decode cX5_refusalOfItem 21 = .ok (.iload_n 1, 1) := by decide +kernel
theorem dX5_refusalOfItem_22 : decode cX5_refusalOfItem 22 = .ok (.invokevirtual 156, 3) := by decide +kernel
theorem dX5_refusalOfItem_25 : decode cX5_refusalOfItem 25 = .ok (.ifCond .eq 9, 3) := by decide +kernel
theorem dX5_refusalOfItem_28 : decode cX5_refusalOfItem 28 = .ok (.aload_n 0, 1) := by decide +kernel
theorem dX5_refusalOfItem_29 : decode cX5_refusalOfItem 29 = .ok (.iconst 1, 1) := by decide +kernel
theorem dX5_refusalOfItem_30 : decode cX5_refusalOfItem 30 = .ok (.invokevirtual 159, 3) := by decide +kernel
theorem dX5_refusalOfItem_33 : decode cX5_refusalOfItem 33 = .ok (.ireturn, 1) := by decide +kernel
theorem dX5_refusalOfItem_34 : decode cX5_refusalOfItem 34 = .ok (.aload_n 0, 1) := by decide +kernel
theorem dX5_refusalOfItem_35 : decode cX5_refusalOfItem 35 = .ok (.getfield 62, 3) := by decide +kernel
theorem dX5_refusalOfItem_38 : decode cX5_refusalOfItem 38 = .ok (.getfield 280, 3) := by decide +kernel
theorem dX5_refusalOfItem_41 : decode cX5_refusalOfItem 41 = .ok (.iload_n 1, 1) := by decide +kernel
theorem dX5_refusalOfItem_42 : decode cX5_refusalOfItem 42 = .ok (.iaload, 1) := by decide +kernel
theorem dX5_refusalOfItem_43 : decode cX5_refusalOfItem 43 = .ok (.iload_n 2, 1) := by decide +kernel
theorem dX5_refusalOfItem_44 : decode cX5_refusalOfItem 44 = .ok (.if_icmp .eq 9, 3) := by decide +kernel
theorem dX5_refusalOfItem_47 : decode cX5_refusalOfItem 47 = .ok (.aload_n 0, 1) := by decide +kernel
theorem dX5_refusalOfItem_48 : decode cX5_refusalOfItem 48 = .ok (.iconst 3, 1) := by decide +kernel
theorem dX5_refusalOfItem_49 : decode cX5_refusalOfItem 49 = .ok (.invokevirtual 159, 3) := by decide +kernel
theorem dX5_refusalOfItem_52 : decode cX5_refusalOfItem 52 = .ok (.ireturn, 1) := by decide +kernel
theorem dX5_refusalOfItem_53 : decode cX5_refusalOfItem 53 = .ok (.aload_n 0, 1) := by decide +kernel
theorem dX5_refusalOfItem_54 : decode cX5_refusalOfItem 54 = .ok (.getfield 62, 3) := by decide +kernel
theorem dX5_refusalOfItem_57 : decode cX5_refusalOfItem 57 = .ok (.iload_n 1, 1) := by decide +kernel
theorem dX5_refusalOfItem_58 : decode cX5_refusalOfItem 58 = .ok (.iload_n 3, 1) := by decide +kernel
theorem dX5_refusalOfItem_59 : decode cX5_refusalOfItem 59 = .ok (.iconst 1, 1) := by decide +kernel
theorem dX5_refusalOfItem_60 : decode cX5_refusalOfItem 60 = .ok (.invokevirtual 283, 3) := by decide +kernel
theorem dX5_refusalOfItem_63 : decode cX5_refusalOfItem 63 = .ok (.ifCond .eq 7, 3) := by decide +kernel
theorem dX5_refusalOfItem_66 : decode cX5_refusalOfItem 66 = .ok (.iconst 0, 1) := by decide +kernel
theorem dX5_refusalOfItem_67 : decode cX5_refusalOfItem 67 = .ok (.goto 8, 3) := by decide +kernel
theorem dX5_refusalOfItem_70 : decode cX5_refusalOfItem 70 = .ok (.aload_n 0, 1) := by decide +kernel
theorem dX5_refusalOfItem_71 : decode cX5_refusalOfItem 71 = .ok (.iconst 2, 1) := by decide +kernel
theorem dX5_refusalOfItem_72 : decode cX5_refusalOfItem 72 = .ok (.invokevirtual 159, 3) := by decide +kernel
theorem dX5_refusalOfItem_75 : decode cX5_refusalOfItem 75 = .ok (.ireturn, 1) := by decide +kernel
theorem dX5_textOf_0 : decode cX5_textOf 0 = .ok (.iload_n 1, 1) := by decide +kernel
theorem dX5_textOf_1 : decode cX5_textOf 1 = .ok (.ifCond .ne 10, 3) := by decide +kernel
theorem dX5_textOf_4 : decode cX5_textOf 4 = .ok (.aload_n 0, 1) := by decide +kernel
theorem dX5_textOf_5 : decode cX5_textOf 5 = .ok (.getfield 16, 3) := by decide +kernel
theorem dX5_textOf_8 : decode cX5_textOf 8 = .ok (.goto 7, 3) := by decide +kernel
theorem dX5_textOf_11 : decode cX5_textOf 11 = .ok (.aload_n 0, 1) := by decide +kernel
theorem dX5_textOf_12 : decode cX5_textOf 12 = .ok (.getfield 20, 3) := by decide +kernel
theorem dX5_textOf_15 : decode cX5_textOf 15 = .ok (.areturn, 1) := by decide +kernel
theorem dX5_readTexts_0 : decode cX5_readTexts 0 = .ok (.aload_n 0, 1) := by decide +kernel
theorem dX5_readTexts_1 : decode cX5_readTexts 1 = .ok (.getfield 16, 3) := by decide +kernel
theorem dX5_readTexts_4 : decode cX5_readTexts 4 = .ok (.aload_n 0, 1) := by decide +kernel
theorem dX5_readTexts_5 : decode cX5_readTexts 5 = .ok (.getfield 26, 3) := by decide +kernel
theorem dX5_readTexts_8 : decode cX5_readTexts 8 = .ok (.getfield 95, 3) := by decide +kernel
theorem dX5_readTexts_11 : decode cX5_readTexts 11 = .ok (.aload_n 0, 1) := by decide +kernel
theorem dX5_readTexts_12 : decode cX5_readTexts 12 = .ok (.getfield 16, 3) := by decide +kernel
theorem dX5_readTexts_15 : decode cX5_readTexts 15 = .ok (.invokevirtual 367, 3) := by decide +kernel
theorem dX5_readTexts_18 : decode cX5_readTexts 18 = .ok (.putfield 88, 3) := by decide +kernel
theorem dX5_readTexts_21 : decode cX5_readTexts 21 = .ok (.aload_n 0, 1) := by decide +kernel
theorem dX5_readTexts_22 : decode cX5_readTexts 22 = .ok (.getfield 20, 3) := by decide +kernel
theorem dX5_readTexts_25 : decode cX5_readTexts 25 = .ok (.aload_n 0, 1) := by decide +kernel
theorem dX5_readTexts_26 : decode cX5_readTexts 26 = .ok (.getfield 26, 3) := by decide +kernel
theorem dX5_readTexts_29 : decode cX5_readTexts 29 = .ok (.aload_n 0, 1) := by decide +kernel
theorem dX5_readTexts_30 : decode cX5_readTexts 30 = .ok (.getfield 20, 3) := by decide +kernel
theorem dX5_readTexts_33 : decode cX5_readTexts 33 = .ok (.invokevirtual 371, 3) := by decide +kernel
theorem dX5_readTexts_36 : decode cX5_readTexts 36 = .ok (.putfield 88, 3) := by decide +kernel
theorem dX5_readTexts_39 : decode cX5_readTexts 39 = .ok (.aload_n 0, 1) := by decide +kernel
theorem dX5_readTexts_40 : decode cX5_readTexts 40 = .ok (.invokevirtual 132, 3) := by decide +kernel
theorem dX5_readTexts_43 : decode cX5_readTexts 43 = .ok (.return_, 1) := by decide +kernel
theorem dX5_changed_0 : decode cX5_changed 0 = .ok (.aload_n 0, 1) := by decide +kernel
theorem dX5_changed_1 : decode cX5_changed 1 = .ok (.iconst 0, 1) := by decide +kernel
theorem dX5_changed_2 : decode cX5_changed 2 = .ok (.putfield 374, 3) := by decide +kernel
theorem dX5_changed_5 : decode cX5_changed 5 = .ok (.aload_n 0, 1) := by decide +kernel
theorem dX5_changed_6 : decode cX5_changed 6 = .ok (.iconst 0, 1) := by decide +kernel
theorem dX5_changed_7 : decode cX5_changed 7 = .ok (.putfield 378, 3) := by decide +kernel
theorem dX5_changed_10 : decode cX5_changed 10 = .ok (.return_, 1) := by decide +kernel
theorem dX5_toldCourse_0 : decode cX5_toldCourse 0 = .ok (.aload_n 0, 1) := by decide +kernel
theorem dX5_toldCourse_1 : decode cX5_toldCourse 1 = .ok (.getfield 374, 3) := by decide +kernel
theorem dX5_toldCourse_4 : decode cX5_toldCourse 4 = .ok (.ifCond .ne 19, 3) := by decide +kernel
theorem dX5_toldCourse_7 : decode cX5_toldCourse 7 = .ok (.aload_n 0, 1) := by decide +kernel
theorem dX5_toldCourse_8 : decode cX5_toldCourse 8 = .ok (.getfield 33, 3) := by decide +kernel
theorem dX5_toldCourse_11 : decode cX5_toldCourse 11 = .ok (.aload_n 0, 1) := by decide +kernel
theorem dX5_toldCourse_12 : decode cX5_toldCourse 12 = .ok (.getfield 26, 3) := by decide +kernel
theorem dX5_toldCourse_15 : decode cX5_toldCourse 15 = .ok (.invokevirtual 209, 3) := by decide +kernel
theorem dX5_toldCourse_18 : decode cX5_toldCourse 18 = .ok (.aload_n 0, 1) := by decide +kernel
theorem dX5_toldCourse_19 : decode cX5_toldCourse 19 = .ok (.iconst 1, 1) := by decide +kernel
theorem dX5_toldCourse_20 : decode cX5_toldCourse 20 = .ok (.putfield 374, 3) := by decide +kernel
theorem dX5_toldCourse_23 : decode cX5_toldCourse 23 = .ok (.aload_n 0, 1) := by decide +kernel
theorem dX5_toldCourse_24 : decode cX5_toldCourse 24 = .ok (.getfield 33, 3) := by decide +kernel
theorem dX5_toldCourse_27 : decode cX5_toldCourse 27 = .ok (.areturn, 1) := by decide +kernel
theorem dX5_partOf_0 : decode cX5_partOf 0 = .ok (.iload_n 0, 1) := by decide +kernel
theorem dX5_partOf_1 : decode cX5_partOf 1 = .ok (.ldc 240, 2) := by decide +kernel
theorem dX5_partOf_3 : decode cX5_partOf 3 = .ok (.if_icmp .ne 5, 3) := by decide +kernel
theorem dX5_partOf_6 : decode cX5_partOf 6 = .ok (.iconst (-1), 1) := by decide +kernel
theorem dX5_partOf_7 : decode cX5_partOf 7 = .ok (.ireturn, 1) := by decide +kernel
theorem dX5_partOf_8 : decode cX5_partOf 8 = .ok (.iload_n 1, 1) := by decide +kernel
theorem dX5_partOf_9 : decode cX5_partOf 9 = .ok (.ifCond .ne 10, 3) := by decide +kernel
theorem dX5_partOf_12 : decode cX5_partOf 12 = .ok (.iload_n 0, 1) := by decide +kernel
theorem dX5_partOf_13 : decode cX5_partOf 13 = .ok (.bipush 64, 2) := by decide +kernel
theorem dX5_partOf_15 : decode cX5_partOf 15 = .ok (.irem, 1) := by decide +kernel
theorem dX5_partOf_16 : decode cX5_partOf 16 = .ok (.goto 7, 3) := by decide +kernel
theorem dX5_partOf_19 : decode cX5_partOf 19 = .ok (.iload_n 0, 1) := by decide +kernel
theorem dX5_partOf_20 : decode cX5_partOf 20 = .ok (.bipush 64, 2) := by decide +kernel
theorem dX5_partOf_22 : decode cX5_partOf 22 = .ok (.idiv, 1) := by decide +kernel
theorem dX5_partOf_23 : decode cX5_partOf 23 = .ok (.ireturn, 1) := by decide +kernel
theorem dX5_bestElbow_0 : decode cX5_bestElbow 0 = .ok (.ldc 240, 2) := by decide +kernel
theorem dX5_bestElbow_2 : decode cX5_bestElbow 2 = .ok (.istore_n 1, 1) := by decide +kernel
theorem dX5_bestElbow_3 : decode cX5_bestElbow 3 = .ok (.iconst 0, 1) := by decide +kernel
theorem dX5_bestElbow_4 : decode cX5_bestElbow 4 = .ok (.istore_n 2, 1) := by decide +kernel
theorem dX5_bestElbow_5 : decode cX5_bestElbow 5 = .ok (.iload_n 2, 1) := by decide +kernel
theorem dX5_bestElbow_6 : decode cX5_bestElbow 6 = .ok (.bipush 40, 2) := by decide +kernel
theorem dX5_bestElbow_8 : decode cX5_bestElbow 8 = .ok (.if_icmp .ge 63, 3) := by decide +kernel
theorem dX5_bestElbow_11 : decode cX5_bestElbow 11 = .ok (.aload_n 0, 1) := by decide +kernel
theorem dX5_bestElbow_12 : decode cX5_bestElbow 12 = .ok (.getfield 26, 3) := by decide +kernel
theorem dX5_bestElbow_15 : decode cX5_bestElbow 15 = .ok (.getfield 120, 3) := by decide +kernel
theorem dX5_bestElbow_18 : decode cX5_bestElbow 18 = .ok (.iload_n 2, 1) := by decide +kernel
theorem dX5_bestElbow_19 : decode cX5_bestElbow 19 = .ok (.dup2, 1) := by decide +kernel
theorem dX5_bestElbow_20 : decode cX5_bestElbow 20 = .ok (.iaload, 1) := by decide +kernel
theorem dX5_bestElbow_21 : decode cX5_bestElbow 21 = .ok (.iconst 1, 1) := by decide +kernel
theorem dX5_bestElbow_22 : decode cX5_bestElbow 22 = .ok (.iadd, 1) := by decide +kernel
theorem dX5_bestElbow_23 : decode cX5_bestElbow 23 = .ok (.iastore, 1) := by decide +kernel
theorem dX5_bestElbow_24 : decode cX5_bestElbow 24 = .ok (.aload_n 0, 1) := by decide +kernel
theorem dX5_bestElbow_25 : decode cX5_bestElbow 25 = .ok (.getfield 37, 3) := by decide +kernel
theorem dX5_bestElbow_28 : decode cX5_bestElbow 28 = .ok (.aload_n 0, 1) := by decide +kernel
theorem dX5_bestElbow_29 : decode cX5_bestElbow 29 = .ok (.getfield 26, 3) := by decide +kernel
theorem dX5_bestElbow_32 : decode cX5_bestElbow 32 = .ok (.invokevirtual 209, 3) := by decide +kernel
theorem dX5_bestElbow_35 : decode cX5_bestElbow 35 = .ok (.aload_n 0, 1) := by decide +kernel
theorem dX5_bestElbow_36 : decode cX5_bestElbow 36 = .ok (.getfield 26, 3) := by decide +kernel
theorem dX5_bestElbow_39 : decode cX5_bestElbow 39 = .ok (.getfield 120, 3) := by decide +kernel
theorem dX5_bestElbow_42 : decode cX5_bestElbow 42 = .ok (.iload_n 2, 1) := by decide +kernel
theorem dX5_bestElbow_43 : decode cX5_bestElbow 43 = .ok (.dup2, 1) := by decide +kernel
theorem dX5_bestElbow_44 : decode cX5_bestElbow 44 = .ok (.iaload, 1) := by decide +kernel
theorem dX5_bestElbow_45 : decode cX5_bestElbow 45 = .ok (.iconst 1, 1) := by decide +kernel
theorem dX5_bestElbow_46 : decode cX5_bestElbow 46 = .ok (.isub, 1) := by decide +kernel
theorem dX5_bestElbow_47 : decode cX5_bestElbow 47 = .ok (.iastore, 1) := by decide +kernel
theorem dX5_bestElbow_48 : decode cX5_bestElbow 48 = .ok (.iload_n 1, 1) := by decide +kernel
theorem dX5_bestElbow_49 : decode cX5_bestElbow 49 = .ok (.aload_n 0, 1) := by decide +kernel
theorem dX5_bestElbow_50 : decode cX5_bestElbow 50 = .ok (.getfield 37, 3) := by decide +kernel
theorem dX5_bestElbow_53 : decode cX5_bestElbow 53 = .ok (.invokevirtual 260, 3) := by decide +kernel
theorem dX5_bestElbow_56 : decode cX5_bestElbow 56 = .ok (.bipush 64, 2) := by decide +kernel
theorem dX5_bestElbow_58 : decode cX5_bestElbow 58 = .ok (.imul, 1) := by decide +kernel
theorem dX5_bestElbow_59 : decode cX5_bestElbow 59 = .ok (.iload_n 2, 1) := by decide +kernel
theorem dX5_bestElbow_60 : decode cX5_bestElbow 60 = .ok (.iadd, 1) := by decide +kernel
theorem dX5_bestElbow_61 : decode cX5_bestElbow 61 = .ok (.invokestatic 244, 3) := by decide +kernel
theorem dX5_bestElbow_64 : decode cX5_bestElbow 64 = .ok (.istore_n 1, 1) := by decide +kernel
theorem dX5_bestElbow_65 : decode cX5_bestElbow 65 = .ok (.iinc 2 1, 3) := by decide +kernel
theorem dX5_bestElbow_68 : decode cX5_bestElbow 68 = .ok (.goto (-63), 3) := by decide +kernel
theorem dX5_bestElbow_71 : decode cX5_bestElbow 71 = .ok (.iload_n 1, 1) := by decide +kernel
theorem dX5_bestElbow_72 : decode cX5_bestElbow 72 = .ok (.ireturn, 1) := by decide +kernel
theorem dX5_bestShut_0 : decode cX5_bestShut 0 = .ok (.ldc 240, 2) := by decide +kernel
theorem dX5_bestShut_2 : decode cX5_bestShut 2 = .ok (.istore_n 2, 1) := by decide +kernel
theorem dX5_bestShut_3 : decode cX5_bestShut 3 = .ok (.iconst 0, 1) := by decide +kernel
theorem dX5_bestShut_4 : decode cX5_bestShut 4 = .ok (.istore_n 3, 1) := by decide +kernel
theorem dX5_bestShut_5 : decode cX5_bestShut 5 = .ok (.iload_n 3, 1) := by decide +kernel
theorem dX5_bestShut_6 : decode cX5_bestShut 6 = .ok (.aload_n 0, 1) := by decide +kernel
theorem dX5_bestShut_7 : decode cX5_bestShut 7 = .ok (.getfield 26, 3) := by decide +kernel
theorem dX5_bestShut_10 : decode cX5_bestShut 10 = .ok (.getfield 95, 3) := by decide +kernel
theorem dX5_bestShut_13 : decode cX5_bestShut 13 = .ok (.getfield 290, 3) := by decide +kernel
theorem dX5_bestShut_16 : decode cX5_bestShut 16 = .ok (.if_icmp .ge 51, 3) := by decide +kernel
theorem dX5_bestShut_19 : decode cX5_bestShut 19 = .ok (.iload_n 3, 1) := by decide +kernel
theorem dX5_bestShut_20 : decode cX5_bestShut 20 = .ok (.iload_n 1, 1) := by decide +kernel
theorem dX5_bestShut_21 : decode cX5_bestShut 21 = .ok (.if_icmp .eq 40, 3) := by decide +kernel
theorem dX5_bestShut_24 : decode cX5_bestShut 24 = .ok (.aload_n 0, 1) := by decide +kernel
theorem dX5_bestShut_25 : decode cX5_bestShut 25 = .ok (.getfield 26, 3) := by decide +kernel
theorem dX5_bestShut_28 : decode cX5_bestShut 28 = .ok (.iload_n 3, 1) := by decide +kernel
theorem dX5_bestShut_29 : decode cX5_bestShut 29 = .ok (.putfield 381, 3) := by decide +kernel
theorem dX5_bestShut_32 : decode cX5_bestShut 32 = .ok (.aload_n 0, 1) := by decide +kernel
theorem dX5_bestShut_33 : decode cX5_bestShut 33 = .ok (.getfield 37, 3) := by decide +kernel
theorem dX5_bestShut_36 : decode cX5_bestShut 36 = .ok (.aload_n 0, 1) := by decide +kernel
theorem dX5_bestShut_37 : decode cX5_bestShut 37 = .ok (.getfield 26, 3) := by decide +kernel
theorem dX5_bestShut_40 : decode cX5_bestShut 40 = .ok (.invokevirtual 209, 3) := by decide +kernel
theorem dX5_bestShut_43 : decode cX5_bestShut 43 = .ok (.iload_n 2, 1) := by decide +kernel
theorem dX5_bestShut_44 : decode cX5_bestShut 44 = .ok (.aload_n 0, 1) := by decide +kernel
theorem dX5_bestShut_45 : decode cX5_bestShut 45 = .ok (.getfield 37, 3) := by decide +kernel
theorem dX5_bestShut_48 : decode cX5_bestShut 48 = .ok (.iload_n 1, 1) := by decide +kernel
theorem dX5_bestShut_49 : decode cX5_bestShut 49 = .ok (.invokevirtual 196, 3) := by decide +kernel
theorem dX5_bestShut_52 : decode cX5_bestShut 52 = .ok (.bipush 64, 2) := by decide +kernel
theorem dX5_bestShut_54 : decode cX5_bestShut 54 = .ok (.imul, 1) := by decide +kernel
theorem dX5_bestShut_55 : decode cX5_bestShut 55 = .ok (.iload_n 3, 1) := by decide +kernel
theorem dX5_bestShut_56 : decode cX5_bestShut 56 = .ok (.iadd, 1) := by decide +kernel
theorem dX5_bestShut_57 : decode cX5_bestShut 57 = .ok (.invokestatic 244, 3) := by decide +kernel
theorem dX5_bestShut_60 : decode cX5_bestShut 60 = .ok (.istore_n 2, 1) := by decide +kernel
theorem dX5_bestShut_61 : decode cX5_bestShut 61 = .ok (.iinc 3 1, 3) := by decide +kernel
theorem dX5_bestShut_64 : decode cX5_bestShut 64 = .ok (.goto (-59), 3) := by decide +kernel
theorem dX5_bestShut_67 : decode cX5_bestShut 67 = .ok (.aload_n 0, 1) := by decide +kernel
theorem dX5_bestShut_68 : decode cX5_bestShut 68 = .ok (.getfield 26, 3) := by decide +kernel
theorem dX5_bestShut_71 : decode cX5_bestShut 71 = .ok (.iconst (-1), 1) := by decide +kernel
theorem dX5_bestShut_72 : decode cX5_bestShut 72 = .ok (.putfield 381, 3) := by decide +kernel
theorem dX5_bestShut_75 : decode cX5_bestShut 75 = .ok (.iload_n 2, 1) := by decide +kernel
theorem dX5_bestShut_76 : decode cX5_bestShut 76 = .ok (.ireturn, 1) := by decide +kernel
theorem dX5_bestPatch_0 : decode cX5_bestPatch 0 = .ok (.ldc 240, 2) := by decide +kernel
theorem dX5_bestPatch_2 : decode cX5_bestPatch 2 = .ok (.istore_n 1, 1) := by decide +kernel
theorem dX5_bestPatch_3 : decode cX5_bestPatch 3 = .ok (.iconst 0, 1) := by decide +kernel
theorem dX5_bestPatch_4 : decode cX5_bestPatch 4 = .ok (.istore_n 2, 1) := by decide +kernel
theorem dX5_bestPatch_5 : decode cX5_bestPatch 5 = .ok (.iload_n 2, 1) := by decide +kernel
theorem dX5_bestPatch_6 : decode cX5_bestPatch 6 = .ok (.aload_n 0, 1) := by decide +kernel
theorem dX5_bestPatch_7 : decode cX5_bestPatch 7 = .ok (.getfield 26, 3) := by decide +kernel
theorem dX5_bestPatch_10 : decode cX5_bestPatch 10 = .ok (.getfield 135, 3) := by decide +kernel
theorem dX5_bestPatch_13 : decode cX5_bestPatch 13 = .ok (.if_icmp .ge 49, 3) := by decide +kernel
theorem dX5_bestPatch_16 : decode cX5_bestPatch 16 = .ok (.aload_n 0, 1) := by decide +kernel
theorem dX5_bestPatch_17 : decode cX5_bestPatch 17 = .ok (.getfield 26, 3) := by decide +kernel
theorem dX5_bestPatch_20 : decode cX5_bestPatch 20 = .ok (.iconst (-1), 1) := by decide +kernel
theorem dX5_bestPatch_21 : decode cX5_bestPatch 21 = .ok (.iconst 1, 1) := by decide +kernel
theorem dX5_bestPatch_22 : decode cX5_bestPatch 22 = .ok (.iload_n 2, 1) := by decide +kernel
theorem dX5_bestPatch_23 : decode cX5_bestPatch 23 = .ok (.ishl, 1) := by decide +kernel
theorem dX5_bestPatch_24 : decode cX5_bestPatch 24 = .ok (.ixor, 1) := by decide +kernel
theorem dX5_bestPatch_25 : decode cX5_bestPatch 25 = .ok (.putfield 384, 3) := by decide +kernel
theorem dX5_bestPatch_28 : decode cX5_bestPatch 28 = .ok (.aload_n 0, 1) := by decide +kernel
theorem dX5_bestPatch_29 : decode cX5_bestPatch 29 = .ok (.getfield 37, 3) := by decide +kernel
theorem dX5_bestPatch_32 : decode cX5_bestPatch 32 = .ok (.aload_n 0, 1) := by decide +kernel
theorem dX5_bestPatch_33 : decode cX5_bestPatch 33 = .ok (.getfield 26, 3) := by decide +kernel
theorem dX5_bestPatch_36 : decode cX5_bestPatch 36 = .ok (.invokevirtual 209, 3) := by decide +kernel
theorem dX5_bestPatch_39 : decode cX5_bestPatch 39 = .ok (.iload_n 1, 1) := by decide +kernel
theorem dX5_bestPatch_40 : decode cX5_bestPatch 40 = .ok (.aload_n 0, 1) := by decide +kernel
theorem dX5_bestPatch_41 : decode cX5_bestPatch 41 = .ok (.getfield 37, 3) := by decide +kernel
theorem dX5_bestPatch_44 : decode cX5_bestPatch 44 = .ok (.invokevirtual 260, 3) := by decide +kernel
theorem dX5_bestPatch_47 : decode cX5_bestPatch 47 = .ok (.bipush 64, 2) := by decide +kernel
theorem dX5_bestPatch_49 : decode cX5_bestPatch 49 = .ok (.imul, 1) := by decide +kernel
theorem dX5_bestPatch_50 : decode cX5_bestPatch 50 = .ok (.iload_n 2, 1) := by decide +kernel
theorem dX5_bestPatch_51 : decode cX5_bestPatch 51 = .ok (.iadd, 1) := by decide +kernel
theorem dX5_bestPatch_52 : decode cX5_bestPatch 52 = .ok (.invokestatic 244, 3) := by decide +kernel
theorem dX5_bestPatch_55 : decode cX5_bestPatch 55 = .ok (.istore_n 1, 1) := by decide +kernel
theorem dX5_bestPatch_56 : decode cX5_bestPatch 56 = .ok (.iinc 2 1, 3) := by decide +kernel
theorem dX5_bestPatch_59 : decode cX5_bestPatch 59 = .ok (.goto (-54), 3) := by decide +kernel
theorem dX5_bestPatch_62 : decode cX5_bestPatch 62 = .ok (.aload_n 0, 1) := by decide +kernel
theorem dX5_bestPatch_63 : decode cX5_bestPatch 63 = .ok (.getfield 26, 3) := by decide +kernel
theorem dX5_bestPatch_66 : decode cX5_bestPatch 66 = .ok (.iconst (-1), 1) := by decide +kernel
theorem dX5_bestPatch_67 : decode cX5_bestPatch 67 = .ok (.putfield 384, 3) := by decide +kernel
theorem dX5_bestPatch_70 : decode cX5_bestPatch 70 = .ok (.iload_n 1, 1) := by decide +kernel
theorem dX5_bestPatch_71 : decode cX5_bestPatch 71 = .ok (.ireturn, 1) := by decide +kernel
theorem dX5_tryWide_0 : decode cX5_tryWide 0 = .ok (.aload_n 0, 1) := by decide +kernel
theorem dX5_tryWide_1 : decode cX5_tryWide 1 = .ok (.getfield 26, 3) := by decide +kernel
theorem dX5_tryWide_4 : decode cX5_tryWide 4 = .ok (.getfield 95, 3) := by decide +kernel
theorem dX5_tryWide_7 : decode cX5_tryWide 7 = .ok (.getfield 107, 3) := by decide +kernel
theorem dX5_tryWide_10 : decode cX5_tryWide 10 = .ok (.iload_n 1, 1) := by decide +kernel
theorem dX5_tryWide_11 : decode cX5_tryWide 11 = .ok (.iaload, 1) := by decide +kernel
theorem dX5_tryWide_12 : decode cX5_tryWide 12 = .ok (.istore_n 3, 1) := by decide +kernel
theorem dX5_tryWide_13 : decode cX5_tryWide 13 = .ok (.aload_n 0, 1) := by decide +kernel
theorem dX5_tryWide_14 : decode cX5_tryWide 14 = .ok (.getfield 26, 3) := by decide +kernel
theorem dX5_tryWide_17 : decode cX5_tryWide 17 = .ok (.getfield 95, 3) := by decide +kernel
theorem dX5_tryWide_20 : decode cX5_tryWide 20 = .ok (.getfield 107, 3) := by decide +kernel
theorem dX5_tryWide_23 : decode cX5_tryWide 23 = .ok (.iload_n 1, 1) := by decide +kernel
theorem dX5_tryWide_24 : decode cX5_tryWide 24 = .ok (.iload_n 2, 1) := by decide +kernel
theorem dX5_tryWide_25 : decode cX5_tryWide 25 = .ok (.iastore, 1) := by decide +kernel
theorem dX5_tryWide_26 : decode cX5_tryWide 26 = .ok (.aload_n 0, 1) := by decide +kernel
theorem dX5_tryWide_27 : decode cX5_tryWide 27 = .ok (.getfield 37, 3) := by decide +kernel
theorem dX5_tryWide_30 : decode cX5_tryWide 30 = .ok (.aload_n 0, 1) := by decide +kernel
theorem dX5_tryWide_31 : decode cX5_tryWide 31 = .ok (.getfield 26, 3) := by decide +kernel
theorem dX5_tryWide_34 : decode cX5_tryWide 34 = .ok (.invokevirtual 209, 3) := by decide +kernel
theorem dX5_tryWide_37 : decode cX5_tryWide 37 = .ok (.aload_n 0, 1) := by decide +kernel
theorem dX5_tryWide_38 : decode cX5_tryWide 38 = .ok (.getfield 26, 3) := by decide +kernel
theorem dX5_tryWide_41 : decode cX5_tryWide 41 = .ok (.getfield 95, 3) := by decide +kernel
theorem dX5_tryWide_44 : decode cX5_tryWide 44 = .ok (.getfield 107, 3) := by decide +kernel
theorem dX5_tryWide_47 : decode cX5_tryWide 47 = .ok (.iload_n 1, 1) := by decide +kernel
theorem dX5_tryWide_48 : decode cX5_tryWide 48 = .ok (.iload_n 3, 1) := by decide +kernel
theorem dX5_tryWide_49 : decode cX5_tryWide 49 = .ok (.iastore, 1) := by decide +kernel
theorem dX5_tryWide_50 : decode cX5_tryWide 50 = .ok (.return_, 1) := by decide +kernel
theorem dX5_comesOut_0 : decode cX5_comesOut 0 = .ok (.iconst 0, 1) := by decide +kernel
theorem dX5_comesOut_1 : decode cX5_comesOut 1 = .ok (.istore_n 2, 1) := by decide +kernel
theorem dX5_comesOut_2 : decode cX5_comesOut 2 = .ok (.iload_n 2, 1) := by decide +kernel
theorem dX5_comesOut_3 : decode cX5_comesOut 3 = .ok (.aload_n 0, 1) := by decide +kernel
theorem dX5_comesOut_4 : decode cX5_comesOut 4 = .ok (.getfield 216, 3) := by decide +kernel
theorem dX5_comesOut_7 : decode cX5_comesOut 7 = .ok (.if_icmp .ge 49, 3) := by decide +kernel
theorem dX5_comesOut_10 : decode cX5_comesOut 10 = .ok (.aload_n 0, 1) := by decide +kernel
theorem dX5_comesOut_11 : decode cX5_comesOut 11 = .ok (.aload_n 0, 1) := by decide +kernel
theorem dX5_comesOut_12 : decode cX5_comesOut 12 = .ok (.getfield 53, 3) := by decide +kernel
theorem dX5_comesOut_15 : decode cX5_comesOut 15 = .ok (.iload_n 2, 1) := by decide +kernel
theorem dX5_comesOut_16 : decode cX5_comesOut 16 = .ok (.iaload, 1) := by decide +kernel
theorem dX5_comesOut_17 : decode cX5_comesOut 17 = .ok (.invokevirtual 91, 3) := by decide +kernel
theorem dX5_comesOut_20 : decode cX5_comesOut 20 = .ok (.ifCond .eq 28, 3) := by decide +kernel
theorem dX5_comesOut_23 : decode cX5_comesOut 23 = .ok (.aload_n 1, 1) := by decide +kernel
theorem dX5_comesOut_24 : decode cX5_comesOut 24 = .ok (.aload_n 0, 1) := by decide +kernel
theorem dX5_comesOut_25 : decode cX5_comesOut 25 = .ok (.getfield 50, 3) := by decide +kernel
theorem dX5_comesOut_28 : decode cX5_comesOut 28 = .ok (.iload_n 2, 1) := by decide +kernel
theorem dX5_comesOut_29 : decode cX5_comesOut 29 = .ok (.iaload, 1) := by decide +kernel
theorem dX5_comesOut_30 : decode cX5_comesOut 30 = .ok (.aload_n 0, 1) := by decide +kernel
theorem dX5_comesOut_31 : decode cX5_comesOut 31 = .ok (.getfield 53, 3) := by decide +kernel
theorem dX5_comesOut_34 : decode cX5_comesOut 34 = .ok (.iload_n 2, 1) := by decide +kernel
theorem dX5_comesOut_35 : decode cX5_comesOut 35 = .ok (.iaload, 1) := by decide +kernel
theorem dX5_comesOut_36 : decode cX5_comesOut 36 = .ok (.invokevirtual 184, 3) := by decide +kernel
theorem dX5_comesOut_39 : decode cX5_comesOut 39 = .ok (.aload_n 0, 1) := by decide +kernel
theorem dX5_comesOut_40 : decode cX5_comesOut 40 = .ok (.getfield 56, 3) := by decide +kernel
theorem dX5_comesOut_43 : decode cX5_comesOut 43 = .ok (.iload_n 2, 1) := by decide +kernel
theorem dX5_comesOut_44 : decode cX5_comesOut 44 = .ok (.iaload, 1) := by decide +kernel
theorem dX5_comesOut_45 : decode cX5_comesOut 45 = .ok (.if_icmp .eq 5, 3) := by decide +kernel
theorem dX5_comesOut_48 : decode cX5_comesOut 48 = .ok (.iconst 0, 1) := by decide +kernel
theorem dX5_comesOut_49 : decode cX5_comesOut 49 = .ok (.ireturn, 1) := by decide +kernel
theorem dX5_comesOut_50 : decode cX5_comesOut 50 = .ok (.iinc 2 1, 3) := by decide +kernel
theorem dX5_comesOut_53 : decode cX5_comesOut 53 = .ok (.goto (-51), 3) := by decide +kernel
theorem dX5_comesOut_56 : decode cX5_comesOut 56 = .ok (.iconst 1, 1) := by decide +kernel
theorem dX5_comesOut_57 : decode cX5_comesOut 57 = .ok (.ireturn, 1) := by decide +kernel
theorem dX5_possibleStarts_0 : decode cX5_possibleStarts 0 = .ok (.aload_n 0, 1) := by decide +kernel
theorem dX5_possibleStarts_1 : decode cX5_possibleStarts 1 = .ok (.getfield 26, 3) := by decide +kernel
theorem dX5_possibleStarts_4 : decode cX5_possibleStarts 4 = .ok (.getfield 123, 3) := by decide +kernel
theorem dX5_possibleStarts_7 : decode cX5_possibleStarts 7 = .ok (.istore_n 1, 1) := by decide +kernel
theorem dX5_possibleStarts_8 : decode cX5_possibleStarts 8 = .ok (.lconst 0, 1) := by decide +kernel
theorem dX5_possibleStarts_9 : decode cX5_possibleStarts 9 = .ok (.lstore_n 2, 1) := by decide +kernel
theorem dX5_possibleStarts_10 : decode cX5_possibleStarts 10 = .ok (.iconst 0, 1) := by decide +kernel
theorem dX5_possibleStarts_11 : decode cX5_possibleStarts 11 = .ok (.istore 4, 2) := by decide +kernel
theorem dX5_possibleStarts_13 : decode cX5_possibleStarts 13 = .ok (.iload 4, 2) := by decide +kernel
theorem dX5_possibleStarts_15 : decode cX5_possibleStarts 15 = .ok (.bipush 60, 2) := by decide +kernel
theorem dX5_possibleStarts_17 : decode cX5_possibleStarts 17 = .ok (.if_icmp .gt 47, 3) := by decide +kernel
theorem dX5_possibleStarts_20 : decode cX5_possibleStarts 20 = .ok (.aload_n 0, 1) := by decide +kernel
theorem dX5_possibleStarts_21 : decode cX5_possibleStarts 21 = .ok (.getfield 26, 3) := by decide +kernel
theorem dX5_possibleStarts_24 : decode cX5_possibleStarts 24 = .ok (.iload 4, 2) := by decide +kernel
theorem dX5_possibleStarts_26 : decode cX5_possibleStarts 26 = .ok (.putfield 123, 3) := by decide +kernel
theorem dX5_possibleStarts_29 : decode cX5_possibleStarts 29 = .ok (.aload_n 0, 1) := by decide +kernel
theorem dX5_possibleStarts_30 : decode cX5_possibleStarts 30 = .ok (.getfield 37, 3) := by decide +kernel
theorem dX5_possibleStarts_33 : decode cX5_possibleStarts 33 = .ok (.aload_n 0, 1) := by decide +kernel
theorem dX5_possibleStarts_34 : decode cX5_possibleStarts 34 = .ok (.getfield 26, 3) := by decide +kernel
theorem dX5_possibleStarts_37 : decode cX5_possibleStarts 37 = .ok (.invokevirtual 209, 3) := by decide +kernel
theorem dX5_possibleStarts_40 : decode cX5_possibleStarts 40 = .ok (.aload_n 0, 1) := by decide +kernel
theorem dX5_possibleStarts_41 : decode cX5_possibleStarts 41 = .ok (.aload_n 0, 1) := by decide +kernel
theorem dX5_possibleStarts_42 : decode cX5_possibleStarts 42 = .ok (.getfield 37, 3) := by decide +kernel
theorem dX5_possibleStarts_45 : decode cX5_possibleStarts 45 = .ok (.invokevirtual 222, 3) := by decide +kernel
theorem dX5_possibleStarts_48 : decode cX5_possibleStarts 48 = .ok (.ifCond .eq 10, 3) := by decide +kernel
theorem dX5_possibleStarts_51 : decode cX5_possibleStarts 51 = .ok (.lload_n 2, 1) := by decide +kernel
theorem dX5_possibleStarts_52 : decode cX5_possibleStarts 52 = .ok (.lconst 1, 1) := by decide +kernel
theorem dX5_possibleStarts_53 : decode cX5_possibleStarts 53 = .ok (.iload 4, 2) := by decide +kernel
theorem dX5_possibleStarts_55 : decode cX5_possibleStarts 55 = .ok (.lshl, 1) := by decide +kernel
theorem dX5_possibleStarts_56 : decode cX5_possibleStarts 56 = .ok (.lor, 1) := by decide +kernel
theorem dX5_possibleStarts_57 : decode cX5_possibleStarts 57 = .ok (.lstore_n 2, 1) := by decide +kernel
theorem dX5_possibleStarts_58 : decode cX5_possibleStarts 58 = .ok (.iinc 4 1, 3) := by decide +kernel
theorem dX5_possibleStarts_61 : decode cX5_possibleStarts 61 = .ok (.goto (-48), 3) := by decide +kernel
theorem dX5_possibleStarts_64 : decode cX5_possibleStarts 64 = .ok (.aload_n 0, 1) := by decide +kernel
theorem dX5_possibleStarts_65 : decode cX5_possibleStarts 65 = .ok (.getfield 26, 3) := by decide +kernel
theorem dX5_possibleStarts_68 : decode cX5_possibleStarts 68 = .ok (.iload_n 1, 1) := by decide +kernel
theorem dX5_possibleStarts_69 : decode cX5_possibleStarts 69 = .ok (.putfield 123, 3) := by decide +kernel
theorem dX5_possibleStarts_72 : decode cX5_possibleStarts 72 = .ok (.lload_n 2, 1) := by decide +kernel
theorem dX5_possibleStarts_73 : decode cX5_possibleStarts 73 = .ok (.lreturn, 1) := by decide +kernel
theorem dX5_startsPart_0 : decode cX5_startsPart 0 = .ok (.iload_n 2, 1) := by decide +kernel
theorem dX5_startsPart_1 : decode cX5_startsPart 1 = .ok (.ifCond .ne 8, 3) := by decide +kernel
theorem dX5_startsPart_4 : decode cX5_startsPart 4 = .ok (.lload_n 0, 1) := by decide +kernel
theorem dX5_startsPart_5 : decode cX5_startsPart 5 = .ok (.invokestatic 387, 3) := by decide +kernel
theorem dX5_startsPart_8 : decode cX5_startsPart 8 = .ok (.ireturn, 1) := by decide +kernel
theorem dX5_startsPart_9 : decode cX5_startsPart 9 = .ok (.lload_n 0, 1) := by decide +kernel
theorem dX5_startsPart_10 : decode cX5_startsPart 10 = .ok (.lconst 0, 1) := by decide +kernel
theorem dX5_startsPart_11 : decode cX5_startsPart 11 = .ok (.lcmp, 1) := by decide +kernel
theorem dX5_startsPart_12 : decode cX5_startsPart 12 = .ok (.ifCond .ne 5, 3) := by decide +kernel
theorem dX5_startsPart_15 : decode cX5_startsPart 15 = .ok (.iconst (-1), 1) := by decide +kernel
theorem dX5_startsPart_16 : decode cX5_startsPart 16 = .ok (.ireturn, 1) := by decide +kernel
theorem dX5_startsPart_17 : decode cX5_startsPart 17 = .ok (.iload_n 2, 1) := by decide +kernel
theorem dX5_startsPart_18 : decode cX5_startsPart 18 = .ok (.iconst 1, 1) := by decide +kernel
theorem dX5_startsPart_19 : decode cX5_startsPart 19 = .ok (.if_icmp .ne 10, 3) := by decide +kernel
theorem dX5_startsPart_22 : decode cX5_startsPart 22 = .ok (.lload_n 0, 1) := by decide +kernel
theorem dX5_startsPart_23 : decode cX5_startsPart 23 = .ok (.invokestatic 391, 3) := by decide +kernel
theorem dX5_startsPart_26 : decode cX5_startsPart 26 = .ok (.goto 10, 3) := by decide +kernel
theorem dX5_startsPart_29 : decode cX5_startsPart 29 = .ok (.bipush 63, 2) := by decide +kernel
theorem dX5_startsPart_31 : decode cX5_startsPart 31 = .ok (.lload_n 0, 1) := by decide +kernel
theorem dX5_startsPart_32 : decode cX5_startsPart 32 = .ok (.invokestatic 394, 3) := by decide +kernel
theorem dX5_startsPart_35 : decode cX5_startsPart 35 = .ok (.isub, 1) := by decide +kernel
theorem dX5_startsPart_36 : decode cX5_startsPart 36 = .ok (.ireturn, 1) := by decide +kernel
theorem dX5_tallyWidths_0 : decode cX5_tallyWidths 0 = .ok (.iconst 0, 1) := by decide +kernel
theorem dX5_tallyWidths_1 : decode cX5_tallyWidths 1 = .ok (.istore_n 2, 1) := by decide +kernel
theorem dX5_tallyWidths_2 : decode cX5_tallyWidths 2 = .ok (.iload_n 2, 1) := by decide +kernel
theorem dX5_tallyWidths_3 : decode cX5_tallyWidths 3 = .ok (.aload_n 0, 1) := by decide +kernel
theorem dX5_tallyWidths_4 : decode cX5_tallyWidths 4 = .ok (.getfield 47, 3) := by decide +kernel
theorem dX5_tallyWidths_7 : decode cX5_tallyWidths 7 = .ok (.arraylength, 1) := by decide +kernel
theorem dX5_tallyWidths_8 : decode cX5_tallyWidths 8 = .ok (.if_icmp .ge 16, 3) := by decide +kernel
theorem dX5_tallyWidths_11 : decode cX5_tallyWidths 11 = .ok (.aload_n 0, 1) := by decide +kernel
theorem dX5_tallyWidths_12 : decode cX5_tallyWidths 12 = .ok (.getfield 47, 3) := by decide +kernel
theorem dX5_tallyWidths_15 : decode cX5_tallyWidths 15 = .ok (.iload_n 2, 1) := by decide +kernel
theorem dX5_tallyWidths_16 : decode cX5_tallyWidths 16 = .ok (.iconst 0, 1) := by decide +kernel
theorem dX5_tallyWidths_17 : decode cX5_tallyWidths 17 = .ok (.iastore, 1) := by decide +kernel
theorem dX5_tallyWidths_18 : decode cX5_tallyWidths 18 = .ok (.iinc 2 1, 3) := by decide +kernel
theorem dX5_tallyWidths_21 : decode cX5_tallyWidths 21 = .ok (.goto (-19), 3) := by decide +kernel
theorem dX5_tallyWidths_24 : decode cX5_tallyWidths 24 = .ok (.iconst 1, 1) := by decide +kernel
theorem dX5_tallyWidths_25 : decode cX5_tallyWidths 25 = .ok (.istore_n 2, 1) := by decide +kernel
theorem dX5_tallyWidths_26 : decode cX5_tallyWidths 26 = .ok (.iload_n 2, 1) := by decide +kernel
theorem dX5_tallyWidths_27 : decode cX5_tallyWidths 27 = .ok (.bipush 9, 2) := by decide +kernel
theorem dX5_tallyWidths_29 : decode cX5_tallyWidths 29 = .ok (.if_icmp .gt 31, 3) := by decide +kernel
theorem dX5_tallyWidths_32 : decode cX5_tallyWidths 32 = .ok (.aload_n 0, 1) := by decide +kernel
theorem dX5_tallyWidths_33 : decode cX5_tallyWidths 33 = .ok (.iload_n 1, 1) := by decide +kernel
theorem dX5_tallyWidths_34 : decode cX5_tallyWidths 34 = .ok (.iload_n 2, 1) := by decide +kernel
theorem dX5_tallyWidths_35 : decode cX5_tallyWidths 35 = .ok (.invokevirtual 226, 3) := by decide +kernel
theorem dX5_tallyWidths_38 : decode cX5_tallyWidths 38 = .ok (.aload_n 0, 1) := by decide +kernel
theorem dX5_tallyWidths_39 : decode cX5_tallyWidths 39 = .ok (.aload_n 0, 1) := by decide +kernel
theorem dX5_tallyWidths_40 : decode cX5_tallyWidths 40 = .ok (.getfield 37, 3) := by decide +kernel
theorem dX5_tallyWidths_43 : decode cX5_tallyWidths 43 = .ok (.invokevirtual 222, 3) := by decide +kernel
theorem dX5_tallyWidths_46 : decode cX5_tallyWidths 46 = .ok (.ifCond .eq 8, 3) := by decide +kernel
theorem dX5_tallyWidths_49 : decode cX5_tallyWidths 49 = .ok (.aload_n 0, 1) := by decide +kernel
theorem dX5_tallyWidths_50 : decode cX5_tallyWidths 50 = .ok (.iload_n 1, 1) := by decide +kernel
theorem dX5_tallyWidths_51 : decode cX5_tallyWidths 51 = .ok (.invokevirtual 397, 3) := by decide +kernel
theorem dX5_tallyWidths_54 : decode cX5_tallyWidths 54 = .ok (.iinc 2 1, 3) := by decide +kernel
theorem dX5_tallyWidths_57 : decode cX5_tallyWidths 57 = .ok (.goto (-31), 3) := by decide +kernel
theorem dX5_tallyWidths_60 : decode cX5_tallyWidths 60 = .ok (.return_, 1) := by decide +kernel
theorem dX5_tallyHours_0 : decode cX5_tallyHours 0 = .ok (.iconst 0, 1) := by decide +kernel
theorem dX5_tallyHours_1 : decode cX5_tallyHours 1 = .ok (.istore_n 2, 1) := by decide +kernel
theorem dX5_tallyHours_2 : decode cX5_tallyHours 2 = .ok (.iload_n 2, 1) := by decide +kernel
theorem dX5_tallyHours_3 : decode cX5_tallyHours 3 = .ok (.bipush 40, 2) := by decide +kernel
theorem dX5_tallyHours_5 : decode cX5_tallyHours 5 = .ok (.if_icmp .ge 42, 3) := by decide +kernel
theorem dX5_tallyHours_8 : decode cX5_tallyHours 8 = .ok (.aload_n 0, 1) := by decide +kernel
theorem dX5_tallyHours_9 : decode cX5_tallyHours 9 = .ok (.getfield 37, 3) := by decide +kernel
theorem dX5_tallyHours_12 : decode cX5_tallyHours 12 = .ok (.iload_n 2, 1) := by decide +kernel
theorem dX5_tallyHours_13 : decode cX5_tallyHours 13 = .ok (.iload_n 1, 1) := by decide +kernel
theorem dX5_tallyHours_14 : decode cX5_tallyHours 14 = .ok (.invokevirtual 184, 3) := by decide +kernel
theorem dX5_tallyHours_17 : decode cX5_tallyHours 17 = .ok (.istore_n 3, 1) := by decide +kernel
theorem dX5_tallyHours_18 : decode cX5_tallyHours 18 = .ok (.iload_n 3, 1) := by decide +kernel
theorem dX5_tallyHours_19 : decode cX5_tallyHours 19 = .ok (.iconst 0, 1) := by decide +kernel
theorem dX5_tallyHours_20 : decode cX5_tallyHours 20 = .ok (.iconst 4, 1) := by decide +kernel
theorem dX5_tallyHours_21 : decode cX5_tallyHours 21 = .ok (.invokestatic 66, 3) := by decide +kernel
theorem dX5_tallyHours_24 : decode cX5_tallyHours 24 = .ok (.ifCond .eq 17, 3) := by decide +kernel
theorem dX5_tallyHours_27 : decode cX5_tallyHours 27 = .ok (.aload_n 0, 1) := by decide +kernel
theorem dX5_tallyHours_28 : decode cX5_tallyHours 28 = .ok (.getfield 47, 3) := by decide +kernel
theorem dX5_tallyHours_31 : decode cX5_tallyHours 31 = .ok (.iload_n 2, 1) := by decide +kernel
theorem dX5_tallyHours_32 : decode cX5_tallyHours 32 = .ok (.iconst 5, 1) := by decide +kernel
theorem dX5_tallyHours_33 : decode cX5_tallyHours 33 = .ok (.imul, 1) := by decide +kernel
theorem dX5_tallyHours_34 : decode cX5_tallyHours 34 = .ok (.iload_n 3, 1) := by decide +kernel
theorem dX5_tallyHours_35 : decode cX5_tallyHours 35 = .ok (.iadd, 1) := by decide +kernel
theorem dX5_tallyHours_36 : decode cX5_tallyHours 36 = .ok (.dup2, 1) := by decide +kernel
theorem dX5_tallyHours_37 : decode cX5_tallyHours 37 = .ok (.iaload, 1) := by decide +kernel
theorem dX5_tallyHours_38 : decode cX5_tallyHours 38 = .ok (.iconst 1, 1) := by decide +kernel
theorem dX5_tallyHours_39 : decode cX5_tallyHours 39 = .ok (.iadd, 1) := by decide +kernel
theorem dX5_tallyHours_40 : decode cX5_tallyHours 40 = .ok (.iastore, 1) := by decide +kernel
theorem dX5_tallyHours_41 : decode cX5_tallyHours 41 = .ok (.iinc 2 1, 3) := by decide +kernel
theorem dX5_tallyHours_44 : decode cX5_tallyHours 44 = .ok (.goto (-42), 3) := by decide +kernel
theorem dX5_tallyHours_47 : decode cX5_tallyHours 47 = .ok (.return_, 1) := by decide +kernel
theorem dX5_greatestAlike_0 : decode cX5_greatestAlike 0 = .ok (.iconst 0, 1) := by decide +kernel
theorem dX5_greatestAlike_1 : decode cX5_greatestAlike 1 = .ok (.istore_n 2, 1) := by decide +kernel
theorem dX5_greatestAlike_2 : decode cX5_greatestAlike 2 = .ok (.iconst 0, 1) := by decide +kernel
theorem dX5_greatestAlike_3 : decode cX5_greatestAlike 3 = .ok (.istore_n 3, 1) := by decide +kernel
theorem dX5_greatestAlike_4 : decode cX5_greatestAlike 4 = .ok (.iload_n 3, 1) := by decide +kernel
theorem dX5_greatestAlike_5 : decode cX5_greatestAlike 5 = .ok (.iconst 4, 1) := by decide +kernel
theorem dX5_greatestAlike_6 : decode cX5_greatestAlike 6 = .ok (.if_icmp .gt 24, 3) := by decide +kernel
theorem dX5_greatestAlike_9 : decode cX5_greatestAlike 9 = .ok (.iload_n 2, 1) := by decide +kernel
theorem dX5_greatestAlike_10 : decode cX5_greatestAlike 10 = .ok (.aload_n 0, 1) := by decide +kernel
theorem dX5_greatestAlike_11 : decode cX5_greatestAlike 11 = .ok (.getfield 47, 3) := by decide +kernel
theorem dX5_greatestAlike_14 : decode cX5_greatestAlike 14 = .ok (.iload_n 1, 1) := by decide +kernel
theorem dX5_greatestAlike_15 : decode cX5_greatestAlike 15 = .ok (.iconst 5, 1) := by decide +kernel
theorem dX5_greatestAlike_16 : decode cX5_greatestAlike 16 = .ok (.imul, 1) := by decide +kernel
theorem dX5_greatestAlike_17 : decode cX5_greatestAlike 17 = .ok (.iload_n 3, 1) := by decide +kernel
theorem dX5_greatestAlike_18 : decode cX5_greatestAlike 18 = .ok (.iadd, 1) := by decide +kernel
theorem dX5_greatestAlike_19 : decode cX5_greatestAlike 19 = .ok (.iaload, 1) := by decide +kernel
theorem dX5_greatestAlike_20 : decode cX5_greatestAlike 20 = .ok (.invokestatic 400, 3) := by decide +kernel
theorem dX5_greatestAlike_23 : decode cX5_greatestAlike 23 = .ok (.istore_n 2, 1) := by decide +kernel
theorem dX5_greatestAlike_24 : decode cX5_greatestAlike 24 = .ok (.iinc 3 1, 3) := by decide +kernel
theorem dX5_greatestAlike_27 : decode cX5_greatestAlike 27 = .ok (.goto (-23), 3) := by decide +kernel
theorem dX5_greatestAlike_30 : decode cX5_greatestAlike 30 = .ok (.iload_n 2, 1) := by decide +kernel
theorem dX5_greatestAlike_31 : decode cX5_greatestAlike 31 = .ok (.ireturn, 1) := by decide +kernel
theorem dX5_tryEachChoiceOfLeaks_0 : decode cX5_tryEachChoiceOfLeaks 0 = .ok (.iconst 1, 1) := by decide +kernel
theorem dX5_tryEachChoiceOfLeaks_1 : decode cX5_tryEachChoiceOfLeaks 1 = .ok (.aload_n 0, 1) := by decide +kernel
theorem dX5_tryEachChoiceOfLeaks_2 : decode cX5_tryEachChoiceOfLeaks 2 = .ok (.getfield 26, 3) := by decide +kernel
theorem dX5_tryEachChoiceOfLeaks_5 : decode cX5_tryEachChoiceOfLeaks 5 = .ok (.getfield 135, 3) := by decide +kernel
theorem dX5_tryEachChoiceOfLeaks_8 : decode cX5_tryEachChoiceOfLeaks 8 = .ok (.ishl, 1) := by decide +kernel
theorem dX5_tryEachChoiceOfLeaks_9 : decode cX5_tryEachChoiceOfLeaks 9 = .ok (.istore_n 1, 1) := by decide +kernel
theorem dX5_tryEachChoiceOfLeaks_10 : decode cX5_tryEachChoiceOfLeaks 10 = .ok (.iconst 0, 1) := by decide +kernel
theorem dX5_tryEachChoiceOfLeaks_11 : decode cX5_tryEachChoiceOfLeaks 11 = .ok (.istore_n 2, 1) := by decide +kernel
theorem dX5_tryEachChoiceOfLeaks_12 : decode cX5_tryEachChoiceOfLeaks 12 = .ok (.iload_n 2, 1) := by decide +kernel
theorem dX5_tryEachChoiceOfLeaks_13 : decode cX5_tryEachChoiceOfLeaks 13 = .ok (.iload_n 1, 1) := by decide +kernel
theorem dX5_tryEachChoiceOfLeaks_14 : decode cX5_tryEachChoiceOfLeaks 14 = .ok (.if_icmp .ge 50, 3) := by decide +kernel
theorem dX5_tryEachChoiceOfLeaks_17 : decode cX5_tryEachChoiceOfLeaks 17 = .ok (.iload_n 2, 1) := by decide +kernel
theorem dX5_tryEachChoiceOfLeaks_18 : decode cX5_tryEachChoiceOfLeaks 18 = .ok (.aload_n 0, 1) := by decide +kernel
theorem dX5_tryEachChoiceOfLeaks_19 : decode cX5_tryEachChoiceOfLeaks 19 = .ok (.getfield 40, 3) := by decide +kernel
theorem dX5_tryEachChoiceOfLeaks_22 : decode cX5_tryEachChoiceOfLeaks 22 = .ok (.arraylength, 1) := by decide +kernel
theorem dX5_tryEachChoiceOfLeaks_23 : decode cX5_tryEachChoiceOfLeaks 23 = .ok (.if_icmp .ge 41, 3) := by decide +kernel
theorem dX5_tryEachChoiceOfLeaks_26 : decode cX5_tryEachChoiceOfLeaks 26 = .ok (.aload_n 0, 1) := by decide +kernel
theorem dX5_tryEachChoiceOfLeaks_27 : decode cX5_tryEachChoiceOfLeaks 27 = .ok (.getfield 26, 3) := by decide +kernel
theorem dX5_tryEachChoiceOfLeaks_30 : decode cX5_tryEachChoiceOfLeaks 30 = .ok (.iload_n 2, 1) := by decide +kernel
theorem dX5_tryEachChoiceOfLeaks_31 : decode cX5_tryEachChoiceOfLeaks 31 = .ok (.putfield 384, 3) := by decide +kernel
theorem dX5_tryEachChoiceOfLeaks_34 : decode cX5_tryEachChoiceOfLeaks 34 = .ok (.aload_n 0, 1) := by decide +kernel
theorem dX5_tryEachChoiceOfLeaks_35 : decode cX5_tryEachChoiceOfLeaks 35 = .ok (.getfield 37, 3) := by decide +kernel
theorem dX5_tryEachChoiceOfLeaks_38 : decode cX5_tryEachChoiceOfLeaks 38 = .ok (.aload_n 0, 1) := by decide +kernel
theorem dX5_tryEachChoiceOfLeaks_39 : decode cX5_tryEachChoiceOfLeaks 39 = .ok (.getfield 26, 3) := by decide +kernel
theorem dX5_tryEachChoiceOfLeaks_42 : decode cX5_tryEachChoiceOfLeaks 42 = .ok (.invokevirtual 209, 3) := by decide +kernel
theorem dX5_tryEachChoiceOfLeaks_45 : decode cX5_tryEachChoiceOfLeaks 45 = .ok (.aload_n 0, 1) := by decide +kernel
theorem dX5_tryEachChoiceOfLeaks_46 : decode cX5_tryEachChoiceOfLeaks 46 = .ok (.getfield 40, 3) := by decide +kernel
theorem dX5_tryEachChoiceOfLeaks_49 : decode cX5_tryEachChoiceOfLeaks 49 = .ok (.iload_n 2, 1) := by decide +kernel
theorem dX5_tryEachChoiceOfLeaks_50 : decode cX5_tryEachChoiceOfLeaks 50 = .ok (.aload_n 0, 1) := by decide +kernel
theorem dX5_tryEachChoiceOfLeaks_51 : decode cX5_tryEachChoiceOfLeaks 51 = .ok (.getfield 37, 3) := by decide +kernel
theorem dX5_tryEachChoiceOfLeaks_54 : decode cX5_tryEachChoiceOfLeaks 54 = .ok (.invokevirtual 403, 3) := by decide +kernel
theorem dX5_tryEachChoiceOfLeaks_57 : decode cX5_tryEachChoiceOfLeaks 57 = .ok (.iastore, 1) := by decide +kernel
theorem dX5_tryEachChoiceOfLeaks_58 : decode cX5_tryEachChoiceOfLeaks 58 = .ok (.iinc 2 1, 3) := by decide +kernel
theorem dX5_tryEachChoiceOfLeaks_61 : decode cX5_tryEachChoiceOfLeaks 61 = .ok (.goto (-49), 3) := by decide +kernel
theorem dX5_tryEachChoiceOfLeaks_64 : decode cX5_tryEachChoiceOfLeaks 64 = .ok (.aload_n 0, 1) := by decide +kernel
theorem dX5_tryEachChoiceOfLeaks_65 : decode cX5_tryEachChoiceOfLeaks 65 = .ok (.getfield 26, 3) := by decide +kernel
theorem dX5_tryEachChoiceOfLeaks_68 : decode cX5_tryEachChoiceOfLeaks 68 = .ok (.iconst (-1), 1) := by decide +kernel
theorem dX5_tryEachChoiceOfLeaks_69 : decode cX5_tryEachChoiceOfLeaks 69 = .ok (.putfield 384, 3) := by decide +kernel
theorem dX5_tryEachChoiceOfLeaks_72 : decode cX5_tryEachChoiceOfLeaks 72 = .ok (.aload_n 0, 1) := by decide +kernel
theorem dX5_tryEachChoiceOfLeaks_73 : decode cX5_tryEachChoiceOfLeaks 73 = .ok (.iconst 1, 1) := by decide +kernel
theorem dX5_tryEachChoiceOfLeaks_74 : decode cX5_tryEachChoiceOfLeaks 74 = .ok (.putfield 378, 3) := by decide +kernel
theorem dX5_tryEachChoiceOfLeaks_77 : decode cX5_tryEachChoiceOfLeaks 77 = .ok (.return_, 1) := by decide +kernel
theorem dX5_chanceOfNeverShort_0 : decode cX5_chanceOfNeverShort 0 = .ok (.aload_n 0, 1) := by decide +kernel
theorem dX5_chanceOfNeverShort_1 : decode cX5_chanceOfNeverShort 1 = .ok (.getfield 378, 3) := by decide +kernel
theorem dX5_chanceOfNeverShort_4 : decode cX5_chanceOfNeverShort 4 = .ok (.ifCond .ne 7, 3) := by decide +kernel
theorem dX5_chanceOfNeverShort_7 : decode cX5_chanceOfNeverShort 7 = .ok (.aload_n 0, 1) := by decide +kernel
theorem dX5_chanceOfNeverShort_8 : decode cX5_chanceOfNeverShort 8 = .ok (.invokevirtual 406, 3) := by decide +kernel
theorem dX5_chanceOfNeverShort_11 : decode cX5_chanceOfNeverShort 11 = .ok (.lconst 0, 1) := by decide +kernel
theorem dX5_chanceOfNeverShort_12 : decode cX5_chanceOfNeverShort 12 = .ok (.lstore_n 3, 1) := by decide +kernel
theorem dX5_chanceOfNeverShort_13 : decode cX5_chanceOfNeverShort 13 = .ok (.iconst 1, 1) := by decide +kernel
theorem dX5_chanceOfNeverShort_14 : decode cX5_chanceOfNeverShort 14 = .ok (.aload_n 0, 1) := by decide +kernel
theorem dX5_chanceOfNeverShort_15 : decode cX5_chanceOfNeverShort 15 = .ok (.getfield 26, 3) := by decide +kernel
theorem dX5_chanceOfNeverShort_18 : decode cX5_chanceOfNeverShort 18 = .ok (.getfield 135, 3) := by decide +kernel
theorem dX5_chanceOfNeverShort_21 : decode cX5_chanceOfNeverShort 21 = .ok (.ishl, 1) := by decide +kernel
theorem dX5_chanceOfNeverShort_22 : decode cX5_chanceOfNeverShort 22 = .ok (.istore 5, 2) := by decide +kernel
theorem dX5_chanceOfNeverShort_24 : decode cX5_chanceOfNeverShort 24 = .ok (.iconst 0, 1) := by decide +kernel
theorem dX5_chanceOfNeverShort_25 : decode cX5_chanceOfNeverShort 25 = .ok (.istore 6, 2) := by decide +kernel
theorem dX5_chanceOfNeverShort_27 : decode cX5_chanceOfNeverShort 27 = .ok (.iload 6, 2) := by decide +kernel
theorem dX5_chanceOfNeverShort_29 : decode cX5_chanceOfNeverShort 29 = .ok (.iload 5, 2) := by decide +kernel
theorem dX5_chanceOfNeverShort_31 : decode cX5_chanceOfNeverShort 31 = .ok (.if_icmp .ge 43, 3) := by decide +kernel
theorem dX5_chanceOfNeverShort_34 : decode cX5_chanceOfNeverShort 34 = .ok (.iload 6, 2) := by decide +kernel
theorem dX5_chanceOfNeverShort_36 : decode cX5_chanceOfNeverShort 36 = .ok (.aload_n 0, 1) := by decide +kernel
theorem dX5_chanceOfNeverShort_37 : decode cX5_chanceOfNeverShort 37 = .ok (.getfield 40, 3) := by decide +kernel
theorem dX5_chanceOfNeverShort_40 : decode cX5_chanceOfNeverShort 40 = .ok (.arraylength, 1) := by decide +kernel
theorem dX5_chanceOfNeverShort_41 : decode cX5_chanceOfNeverShort 41 = .ok (.if_icmp .ge 33, 3) := by decide +kernel
theorem dX5_chanceOfNeverShort_44 : decode cX5_chanceOfNeverShort 44 = .ok (.aload_n 0, 1) := by decide +kernel
theorem dX5_chanceOfNeverShort_45 : decode cX5_chanceOfNeverShort 45 = .ok (.getfield 40, 3) := by decide +kernel
theorem dX5_chanceOfNeverShort_48 : decode cX5_chanceOfNeverShort 48 = .ok (.iload 6, 2) := by decide +kernel
theorem dX5_chanceOfNeverShort_50 : decode cX5_chanceOfNeverShort 50 = .ok (.iaload, 1) := by decide +kernel
theorem dX5_chanceOfNeverShort_51 : decode cX5_chanceOfNeverShort 51 = .ok (.iload_n 2, 1) := by decide +kernel
theorem dX5_chanceOfNeverShort_52 : decode cX5_chanceOfNeverShort 52 = .ok (.ishr, 1) := by decide +kernel
theorem dX5_chanceOfNeverShort_53 : decode cX5_chanceOfNeverShort 53 = .ok (.iconst 1, 1) := by decide +kernel
theorem dX5_chanceOfNeverShort_54 : decode cX5_chanceOfNeverShort 54 = .ok (.iand, 1) := by decide +kernel
theorem dX5_chanceOfNeverShort_55 : decode cX5_chanceOfNeverShort 55 = .ok (.ifCond .ne 13, 3) := by decide +kernel
theorem dX5_chanceOfNeverShort_58 : decode cX5_chanceOfNeverShort 58 = .ok (.lload_n 3, 1) := by decide +kernel
theorem dX5_chanceOfNeverShort_59 : decode cX5_chanceOfNeverShort 59 = .ok (.aload_n 0, 1) := by decide +kernel
theorem dX5_chanceOfNeverShort_60 : decode cX5_chanceOfNeverShort 60 = .ok (.iload 6, 2) := by decide +kernel
theorem dX5_chanceOfNeverShort_62 : decode cX5_chanceOfNeverShort 62 = .ok (.iload_n 1, 1) := by decide +kernel
theorem dX5_chanceOfNeverShort_63 : decode cX5_chanceOfNeverShort 63 = .ok (.invokevirtual 409, 3) := by decide +kernel
theorem dX5_chanceOfNeverShort_66 : decode cX5_chanceOfNeverShort 66 = .ok (.ladd, 1) := by decide +kernel
theorem dX5_chanceOfNeverShort_67 : decode cX5_chanceOfNeverShort 67 = .ok (.lstore_n 3, 1) := by decide +kernel
theorem dX5_chanceOfNeverShort_68 : decode cX5_chanceOfNeverShort 68 = .ok (.iinc 6 1, 3) := by decide +kernel
theorem dX5_chanceOfNeverShort_71 : decode cX5_chanceOfNeverShort 71 = .ok (.goto (-44), 3) := by decide +kernel
theorem dX5_chanceOfNeverShort_74 : decode cX5_chanceOfNeverShort 74 = .ok (.lload_n 3, 1) := by decide +kernel
theorem dX5_chanceOfNeverShort_75 : decode cX5_chanceOfNeverShort 75 = .ok (.lreturn, 1) := by decide +kernel
theorem dX5_weightOf_0 : decode cX5_weightOf 0 = .ok (.lconst 1, 1) := by decide +kernel
theorem dX5_weightOf_1 : decode cX5_weightOf 1 = .ok (.lstore_n 3, 1) := by decide +kernel
theorem dX5_weightOf_2 : decode cX5_weightOf 2 = .ok (.iconst 0, 1) := by decide +kernel
theorem dX5_weightOf_3 : decode cX5_weightOf 3 = .ok (.istore 5, 2) := by decide +kernel
theorem dX5_weightOf_5 : decode cX5_weightOf 5 = .ok (.iload 5, 2) := by decide +kernel
theorem dX5_weightOf_7 : decode cX5_weightOf 7 = .ok (.aload_n 0, 1) := by decide +kernel
theorem dX5_weightOf_8 : decode cX5_weightOf 8 = .ok (.getfield 26, 3) := by decide +kernel
theorem dX5_weightOf_11 : decode cX5_weightOf 11 = .ok (.getfield 135, 3) := by decide +kernel
theorem dX5_weightOf_14 : decode cX5_weightOf 14 = .ok (.if_icmp .ge 32, 3) := by decide +kernel
theorem dX5_weightOf_17 : decode cX5_weightOf 17 = .ok (.lload_n 3, 1) := by decide +kernel
theorem dX5_weightOf_18 : decode cX5_weightOf 18 = .ok (.iload_n 1, 1) := by decide +kernel
theorem dX5_weightOf_19 : decode cX5_weightOf 19 = .ok (.iload 5, 2) := by decide +kernel
theorem dX5_weightOf_21 : decode cX5_weightOf 21 = .ok (.ishr, 1) := by decide +kernel
theorem dX5_weightOf_22 : decode cX5_weightOf 22 = .ok (.iconst 1, 1) := by decide +kernel
theorem dX5_weightOf_23 : decode cX5_weightOf 23 = .ok (.iand, 1) := by decide +kernel
theorem dX5_weightOf_24 : decode cX5_weightOf 24 = .ok (.iconst 1, 1) := by decide +kernel
theorem dX5_weightOf_25 : decode cX5_weightOf 25 = .ok (.if_icmp .ne 8, 3) := by decide +kernel
theorem dX5_weightOf_28 : decode cX5_weightOf 28 = .ok (.iload_n 2, 1) := by decide +kernel
theorem dX5_weightOf_29 : decode cX5_weightOf 29 = .ok (.i2l, 1) := by decide +kernel
theorem dX5_weightOf_30 : decode cX5_weightOf 30 = .ok (.goto 8, 3) := by decide +kernel
theorem dX5_weightOf_33 : decode cX5_weightOf 33 = .ok (.bipush 16, 2) := by decide +kernel
theorem dX5_weightOf_35 : decode cX5_weightOf 35 = .ok (.iload_n 2, 1) := by decide +kernel
theorem dX5_weightOf_36 : decode cX5_weightOf 36 = .ok (.isub, 1) := by decide +kernel
theorem dX5_weightOf_37 : decode cX5_weightOf 37 = .ok (.i2l, 1) := by decide +kernel
theorem dX5_weightOf_38 : decode cX5_weightOf 38 = .ok (.lmul, 1) := by decide +kernel
theorem dX5_weightOf_39 : decode cX5_weightOf 39 = .ok (.lstore_n 3, 1) := by decide +kernel
theorem dX5_weightOf_40 : decode cX5_weightOf 40 = .ok (.iinc 5 1, 3) := by decide +kernel
theorem dX5_weightOf_43 : decode cX5_weightOf 43 = .ok (.goto (-38), 3) := by decide +kernel
theorem dX5_weightOf_46 : decode cX5_weightOf 46 = .ok (.lload_n 3, 1) := by decide +kernel
theorem dX5_weightOf_47 : decode cX5_weightOf 47 = .ok (.lreturn, 1) := by decide +kernel
theorem dX5_drawLots_0 : decode cX5_drawLots 0 = .ok (.iload_n 1, 1) := by decide +kernel
theorem dX5_drawLots_1 : decode cX5_drawLots 1 = .ok (.istore_n 3, 1) := by decide +kernel
theorem dX5_drawLots_2 : decode cX5_drawLots 2 = .ok (.iconst 0, 1) := by decide +kernel
theorem dX5_drawLots_3 : decode cX5_drawLots 3 = .ok (.istore 4, 2) := by decide +kernel
theorem dX5_drawLots_5 : decode cX5_drawLots 5 = .ok (.iload 4, 2) := by decide +kernel
theorem dX5_drawLots_7 : decode cX5_drawLots 7 = .ok (.bipush 40, 2) := by decide +kernel
theorem dX5_drawLots_9 : decode cX5_drawLots 9 = .ok (.if_icmp .ge 50, 3) := by decide +kernel
theorem dX5_drawLots_12 : decode cX5_drawLots 12 = .ok (.iload 4, 2) := by decide +kernel
theorem dX5_drawLots_14 : decode cX5_drawLots 14 = .ok (.iload_n 2, 1) := by decide +kernel
theorem dX5_drawLots_15 : decode cX5_drawLots 15 = .ok (.if_icmp .ge 30, 3) := by decide +kernel
theorem dX5_drawLots_18 : decode cX5_drawLots 18 = .ok (.ldc_w 412, 3) := by decide +kernel
theorem dX5_drawLots_21 : decode cX5_drawLots 21 = .ok (.iload_n 3, 1) := by decide +kernel
theorem dX5_drawLots_22 : decode cX5_drawLots 22 = .ok (.imul, 1) := by decide +kernel
theorem dX5_drawLots_23 : decode cX5_drawLots 23 = .ok (.sipush 12345, 3) := by decide +kernel
theorem dX5_drawLots_26 : decode cX5_drawLots 26 = .ok (.iadd, 1) := by decide +kernel
theorem dX5_drawLots_27 : decode cX5_drawLots 27 = .ok (.istore_n 3, 1) := by decide +kernel
theorem dX5_drawLots_28 : decode cX5_drawLots 28 = .ok (.aload_n 0, 1) := by decide +kernel
theorem dX5_drawLots_29 : decode cX5_drawLots 29 = .ok (.getfield 44, 3) := by decide +kernel
theorem dX5_drawLots_32 : decode cX5_drawLots 32 = .ok (.iload 4, 2) := by decide +kernel
theorem dX5_drawLots_34 : decode cX5_drawLots 34 = .ok (.iload_n 3, 1) := by decide +kernel
theorem dX5_drawLots_35 : decode cX5_drawLots 35 = .ok (.bipush 16, 2) := by decide +kernel
theorem dX5_drawLots_37 : decode cX5_drawLots 37 = .ok (.iushr, 1) := by decide +kernel
theorem dX5_drawLots_38 : decode cX5_drawLots 38 = .ok (.bipush 10, 2) := by decide +kernel
theorem dX5_drawLots_40 : decode cX5_drawLots 40 = .ok (.irem, 1) := by decide +kernel
theorem dX5_drawLots_41 : decode cX5_drawLots 41 = .ok (.iastore, 1) := by decide +kernel
theorem dX5_drawLots_42 : decode cX5_drawLots 42 = .ok (.goto 11, 3) := by decide +kernel
theorem dX5_drawLots_45 : decode cX5_drawLots 45 = .ok (.aload_n 0, 1) := by decide +kernel
theorem dX5_drawLots_46 : decode cX5_drawLots 46 = .ok (.getfield 44, 3) := by decide +kernel
theorem dX5_drawLots_49 : decode cX5_drawLots 49 = .ok (.iload 4, 2) := by decide +kernel
theorem dX5_drawLots_51 : decode cX5_drawLots 51 = .ok (.iconst 3, 1) := by decide +kernel
theorem dX5_drawLots_52 : decode cX5_drawLots 52 = .ok (.iastore, 1) := by decide +kernel
theorem dX5_drawLots_53 : decode cX5_drawLots 53 = .ok (.iinc 4 1, 3) := by decide +kernel
theorem dX5_drawLots_56 : decode cX5_drawLots 56 = .ok (.goto (-51), 3) := by decide +kernel
theorem dX5_drawLots_59 : decode cX5_drawLots 59 = .ok (.return_, 1) := by decide +kernel
end
section
theorem dX6_init_0 : decode cX6_init 0 = .ok (.aload_n 0, 1) := by decide +kernel
theorem dX6_init_1 : decode cX6_init 1 = .ok (.invokespecial 1, 3) := by decide +kernel
theorem dX6_init_4 : decode cX6_init 4 = .ok (.aload_n 0, 1) := by decide +kernel
theorem dX6_init_5 : decode cX6_init 5 = .ok (.iconst 2, 1) := by decide +kernel
theorem dX6_init_6 : decode cX6_init 6 = .ok (.newarray .int, 2) := by decide +kernel
theorem dX6_init_8 : decode cX6_init 8 = .ok (.putfield 7, 3) := by decide +kernel
theorem dX6_init_11 : decode cX6_init 11 = .ok (.aload_n 0, 1) := by decide +kernel
theorem dX6_init_12 : decode cX6_init 12 = .ok (.bipush 110, 2) := by decide +kernel
theorem dX6_init_14 : decode cX6_init 14 = .ok (.newarray .int, 2) := by decide +kernel
theorem dX6_init_16 : decode cX6_init 16 = .ok (.putfield 13, 3) := by decide +kernel
theorem dX6_init_19 : decode cX6_init 19 = .ok (.aload_n 0, 1) := by decide +kernel
theorem dX6_init_20 : decode cX6_init 20 = .ok (.bipush 9, 2) := by decide +kernel
theorem dX6_init_22 : decode cX6_init 22 = .ok (.newarray .int, 2) := by decide +kernel
theorem dX6_init_24 : decode cX6_init 24 = .ok (.putfield 16, 3) := by decide +kernel
theorem dX6_init_27 : decode cX6_init 27 = .ok (.aload_n 0, 1) := by decide +kernel
theorem dX6_init_28 : decode cX6_init 28 = .ok (.bipush 9, 2) := by decide +kernel
theorem dX6_init_30 : decode cX6_init 30 = .ok (.newarray .int, 2) := by decide +kernel
theorem dX6_init_32 : decode cX6_init 32 = .ok (.putfield 19, 3) := by decide +kernel
theorem dX6_init_35 : decode cX6_init 35 = .ok (.aload_n 0, 1) := by decide +kernel
theorem dX6_init_36 : decode cX6_init 36 = .ok (.bipush 9, 2) := by decide +kernel
theorem dX6_init_38 : decode cX6_init 38 = .ok (.newarray .int, 2) := by decide +kernel
theorem dX6_init_40 : decode cX6_init 40 = .ok (.putfield 22, 3) := by decide +kernel
theorem dX6_init_43 : decode cX6_init 43 = .ok (.aload_n 0, 1) := by decide +kernel
theorem dX6_init_44 : decode cX6_init 44 = .ok (.bipush 9, 2) := by decide +kernel
theorem dX6_init_46 : decode cX6_init 46 = .ok (.newarray .int, 2) := by decide +kernel
theorem dX6_init_48 : decode cX6_init 48 = .ok (.putfield 25, 3) := by decide +kernel
theorem dX6_init_51 : decode cX6_init 51 = .ok (.aload_n 0, 1) := by decide +kernel
theorem dX6_init_52 : decode cX6_init 52 = .ok (.bipush 27, 2) := by decide +kernel
theorem dX6_init_54 : decode cX6_init 54 = .ok (.newarray .int, 2) := by decide +kernel
theorem dX6_init_56 : decode cX6_init 56 = .ok (.putfield 28, 3) := by decide +kernel
theorem dX6_init_59 : decode cX6_init 59 = .ok (.aload_n 0, 1) := by decide +kernel
theorem dX6_init_60 : decode cX6_init 60 = .ok (.bipush 40, 2) := by decide +kernel
theorem dX6_init_62 : decode cX6_init 62 = .ok (.newarray .int, 2) := by decide +kernel
theorem dX6_init_64 : decode cX6_init 64 = .ok (.putfield 31, 3) := by decide +kernel
theorem dX6_init_67 : decode cX6_init 67 = .ok (.aload_n 0, 1) := by decide +kernel
theorem dX6_init_68 : decode cX6_init 68 = .ok (.iconst 3, 1) := by decide +kernel
theorem dX6_init_69 : decode cX6_init 69 = .ok (.newarray .int, 2) := by decide +kernel
theorem dX6_init_71 : decode cX6_init 71 = .ok (.putfield 34, 3) := by decide +kernel
theorem dX6_init_74 : decode cX6_init 74 = .ok (.aload_n 0, 1) := by decide +kernel
theorem dX6_init_75 : decode cX6_init 75 = .ok (.bipush 6, 2) := by decide +kernel
theorem dX6_init_77 : decode cX6_init 77 = .ok (.newarray .int, 2) := by decide +kernel
theorem dX6_init_79 : decode cX6_init 79 = .ok (.putfield 37, 3) := by decide +kernel
theorem dX6_init_82 : decode cX6_init 82 = .ok (.aload_n 0, 1) := by decide +kernel
theorem dX6_init_83 : decode cX6_init 83 = .ok (.bipush 6, 2) := by decide +kernel
theorem dX6_init_85 : decode cX6_init 85 = .ok (.newarray .int, 2) := by decide +kernel
theorem dX6_init_87 : decode cX6_init 87 = .ok (.putfield 40, 3) := by decide +kernel
theorem dX6_init_90 : decode cX6_init 90 = .ok (.aload_n 0, 1) := by decide +kernel
theorem dX6_init_91 : decode cX6_init 91 = .ok (.bipush 6, 2) := by decide +kernel
theorem dX6_init_93 : decode cX6_init 93 = .ok (.newarray .int, 2) := by decide +kernel
theorem dX6_init_95 : decode cX6_init 95 = .ok (.putfield 43, 3) := by decide +kernel
theorem dX6_init_98 : decode cX6_init 98 = .ok (.aload_n 0, 1) := by decide +kernel
theorem dX6_init_99 : decode cX6_init 99 = .ok (.bipush 6, 2) := by decide +kernel
theorem dX6_init_101 : decode cX6_init 101 = .ok (.newarray .int, 2) := by decide +kernel
theorem dX6_init_103 : decode cX6_init 103 = .ok (.putfield 46, 3) := by decide +kernel
theorem dX6_init_106 : decode cX6_init 106 = .ok (.aload_n 0, 1) := by decide +kernel
theorem dX6_init_107 : decode cX6_init 107 = .ok (.bipush 6, 2) := by decide +kernel
theorem dX6_init_109 : decode cX6_init 109 = .ok (.newarray .int, 2) := by decide +kernel
theorem dX6_init_111 : decode cX6_init 111 = .ok (.putfield 49, 3) := by decide +kernel
theorem dX6_init_114 : decode cX6_init 114 = .ok (.aload_n 0, 1) := by decide +kernel
theorem dX6_init_115 : decode cX6_init 115 = .ok (.bipush 40, 2) := by decide +kernel
theorem dX6_init_117 : decode cX6_init 117 = .ok (.newarray .int, 2) := by decide +kernel
theorem dX6_init_119 : decode cX6_init 119 = .ok (.putfield 52, 3) := by decide +kernel
theorem dX6_init_122 : decode cX6_init 122 = .ok (.aload_n 0, 1) := by decide +kernel
theorem dX6_init_123 : decode cX6_init 123 = .ok (.bipush 8, 2) := by decide +kernel
theorem dX6_init_125 : decode cX6_init 125 = .ok (.newarray .int, 2) := by decide +kernel
theorem dX6_init_127 : decode cX6_init 127 = .ok (.putfield 55, 3) := by decide +kernel
theorem dX6_init_130 : decode cX6_init 130 = .ok (.aload_n 0, 1) := by decide +kernel
theorem dX6_init_131 : decode cX6_init 131 = .ok (.bipush 40, 2) := by decide +kernel
theorem dX6_init_133 : decode cX6_init 133 = .ok (.newarray .int, 2) := by decide +kernel
theorem dX6_init_135 : decode cX6_init 135 = .ok (.putfield 58, 3) := by decide +kernel
theorem dX6_init_138 : decode cX6_init 138 = .ok (.aload_n 0, 1) := by decide +kernel
theorem dX6_init_139 : decode cX6_init 139 = .ok (.bipush 40, 2) := by decide +kernel
theorem dX6_init_141 : decode cX6_init 141 = .ok (.newarray .int, 2) := by decide +kernel
theorem dX6_init_143 : decode cX6_init 143 = .ok (.putfield 61, 3) := by decide +kernel
theorem dX6_init_146 : decode cX6_init 146 = .ok (.aload_n 0, 1) := by decide +kernel
theorem dX6_init_147 : decode cX6_init 147 = .ok (.bipush 40, 2) := by decide +kernel
theorem dX6_init_149 : decode cX6_init 149 = .ok (.newarray .int, 2) := by decide +kernel
theorem dX6_init_151 : decode cX6_init 151 = .ok (.putfield 64, 3) := by decide +kernel
theorem dX6_init_154 : decode cX6_init 154 = .ok (.aload_n 0, 1) := by decide +kernel
theorem dX6_init_155 : decode cX6_init 155 = .ok (.bipush 40, 2) := by decide +kernel
theorem dX6_init_157 : decode cX6_init 157 = .ok (.newarray .int, 2) := by decide +kernel
theorem dX6_init_159 : decode cX6_init 159 = .ok (.putfield 67, 3) := by decide +kernel
theorem dX6_init_162 : decode cX6_init 162 = .ok (.aload_n 0, 1) := by decide +kernel
theorem dX6_init_163 : decode cX6_init 163 = .ok (.sipush 320, 3) := by decide +kernel
theorem dX6_init_166 : decode cX6_init 166 = .ok (.newarray .int, 2) := by decide +kernel
theorem dX6_init_168 : decode cX6_init 168 = .ok (.putfield 70, 3) := by decide +kernel
theorem dX6_init_171 : decode cX6_init 171 = .ok (.aload_n 0, 1) := by decide +kernel
theorem dX6_init_172 : decode cX6_init 172 = .ok (.bipush 8, 2) := by decide +kernel
theorem dX6_init_174 : decode cX6_init 174 = .ok (.newarray .int, 2) := by decide +kernel
theorem dX6_init_176 : decode cX6_init 176 = .ok (.putfield 73, 3) := by decide +kernel
theorem dX6_init_179 : decode cX6_init 179 = .ok (.aload_n 0, 1) := by decide +kernel
theorem dX6_init_180 : decode cX6_init 180 = .ok (.bipush 8, 2) := by decide +kernel
theorem dX6_init_182 : decode cX6_init 182 = .ok (.newarray .int, 2) := by decide +kernel
theorem dX6_init_184 : decode cX6_init 184 = .ok (.putfield 76, 3) := by decide +kernel
theorem dX6_init_187 : decode cX6_init 187 = .ok (.aload_n 0, 1) := by decide +kernel
theorem dX6_init_188 : decode cX6_init 188 = .ok (.bipush 8, 2) := by decide +kernel
theorem dX6_init_190 : decode cX6_init 190 = .ok (.newarray .int, 2) := by decide +kernel
theorem dX6_init_192 : decode cX6_init 192 = .ok (.putfield 79, 3) := by decide +kernel
theorem dX6_init_195 : decode cX6_init 195 = .ok (.aload_n 0, 1) := by decide +kernel
theorem dX6_init_196 : decode cX6_init 196 = .ok (.sipush 400, 3) := by decide +kernel
theorem dX6_init_199 : decode cX6_init 199 = .ok (.newarray .int, 2) := by decide +kernel
theorem dX6_init_201 : decode cX6_init 201 = .ok (.putfield 82, 3) := by decide +kernel
theorem dX6_init_204 : decode cX6_init 204 = .ok (.aload_n 0, 1) := by decide +kernel
theorem dX6_init_205 : decode cX6_init 205 = .ok (.iconst 4, 1) := by decide +kernel
theorem dX6_init_206 : decode cX6_init 206 = .ok (.newarray .boolean, 2) := by decide +kernel
theorem dX6_init_208 : decode cX6_init 208 = .ok (.putfield 85, 3) := by decide +kernel
theorem dX6_init_211 : decode cX6_init 211 = .ok (.aload_n 0, 1) := by decide +kernel
theorem dX6_init_212 : decode cX6_init 212 = .ok (.iconst 4, 1) := by decide +kernel
theorem dX6_init_213 : decode cX6_init 213 = .ok (.newarray .int, 2) := by decide +kernel
theorem dX6_init_215 : decode cX6_init 215 = .ok (.putfield 89, 3) := by decide +kernel
theorem dX6_init_218 : decode cX6_init 218 = .ok (.aload_n 0, 1) := by decide +kernel
theorem dX6_init_219 : decode cX6_init 219 = .ok (.iconst 4, 1) := by decide +kernel
theorem dX6_init_220 : decode cX6_init 220 = .ok (.newarray .int, 2) := by decide +kernel
theorem dX6_init_222 : decode cX6_init 222 = .ok (.putfield 92, 3) := by decide +kernel
theorem dX6_init_225 : decode cX6_init 225 = .ok (.aload_n 0, 1) := by decide +kernel
theorem dX6_init_226 : decode cX6_init 226 = .ok (.sipush 240, 3) := by decide +kernel
theorem dX6_init_229 : decode cX6_init 229 = .ok (.newarray .int, 2) := by decide +kernel
theorem dX6_init_231 : decode cX6_init 231 = .ok (.putfield 95, 3) := by decide +kernel
theorem dX6_init_234 : decode cX6_init 234 = .ok (.aload_n 0, 1) := by decide +kernel
theorem dX6_init_235 : decode cX6_init 235 = .ok (.bipush 60, 2) := by decide +kernel
theorem dX6_init_237 : decode cX6_init 237 = .ok (.newarray .int, 2) := by decide +kernel
theorem dX6_init_239 : decode cX6_init 239 = .ok (.putfield 98, 3) := by decide +kernel
theorem dX6_init_242 : decode cX6_init 242 = .ok (.aload_n 0, 1) := by decide +kernel
theorem dX6_init_243 : decode cX6_init 243 = .ok (.getfield 34, 3) := by decide +kernel
theorem dX6_init_246 : decode cX6_init 246 = .ok (.iconst 0, 1) := by decide +kernel
theorem dX6_init_247 : decode cX6_init 247 = .ok (.bipush 30, 2) := by decide +kernel
theorem dX6_init_249 : decode cX6_init 249 = .ok (.iastore, 1) := by decide +kernel
theorem dX6_init_250 : decode cX6_init 250 = .ok (.aload_n 0, 1) := by decide +kernel
theorem dX6_init_251 : decode cX6_init 251 = .ok (.getfield 34, 3) := by decide +kernel
theorem dX6_init_254 : decode cX6_init 254 = .ok (.iconst 1, 1) := by decide +kernel
theorem dX6_init_255 : decode cX6_init 255 = .ok (.bipush 60, 2) := by decide +kernel
theorem dX6_init_257 : decode cX6_init 257 = .ok (.iastore, 1) := by decide +kernel
theorem dX6_init_258 : decode cX6_init 258 = .ok (.aload_n 0, 1) := by decide +kernel
theorem dX6_init_259 : decode cX6_init 259 = .ok (.getfield 34, 3) := by decide +kernel
theorem dX6_init_262 : decode cX6_init 262 = .ok (.iconst 2, 1) := by decide +kernel
theorem dX6_init_263 : decode cX6_init 263 = .ok (.iconst 4, 1) := by decide +kernel
theorem dX6_init_264 : decode cX6_init 264 = .ok (.iastore, 1) := by decide +kernel
theorem dX6_init_265 : decode cX6_init 265 = .ok (.return_, 1) := by decide +kernel
theorem dX6_in_0 : decode cX6_in 0 = .ok (.iload_n 0, 1) := by decide +kernel
theorem dX6_in_1 : decode cX6_in 1 = .ok (.iload_n 1, 1) := by decide +kernel
theorem dX6_in_2 : decode cX6_in 2 = .ok (.if_icmp .lt 12, 3) := by decide +kernel
theorem dX6_in_5 : decode cX6_in 5 = .ok (.iload_n 0, 1) := by decide +kernel
theorem dX6_in_6 : decode cX6_in 6 = .ok (.iload_n 2, 1) := by decide +kernel
theorem dX6_in_7 : decode cX6_in 7 = .ok (.if_icmp .gt 7, 3) := by decide +kernel
theorem dX6_in_10 : decode cX6_in 10 = .ok (.iconst 1, 1) := by decide +kernel
theorem dX6_in_11 : decode cX6_in 11 = .ok (.goto 4, 3) := by decide +kernel
theorem dX6_in_14 : decode cX6_in 14 = .ok (.iconst 0, 1) := by decide +kernel
theorem dX6_in_15 : decode cX6_in 15 = .ok (.ireturn, 1) := by decide +kernel
theorem dX6_isIn_0 : decode cX6_isIn 0 = .ok (.iload_n 0, 1) := by decide +kernel
theorem dX6_isIn_1 : decode cX6_isIn 1 = .ok (.iload_n 1, 1) := by decide +kernel
theorem dX6_isIn_2 : decode cX6_isIn 2 = .ok (.ishr, 1) := by decide +kernel
theorem dX6_isIn_3 : decode cX6_isIn 3 = .ok (.iconst 1, 1) := by decide +kernel
theorem dX6_isIn_4 : decode cX6_isIn 4 = .ok (.iand, 1) := by decide +kernel
theorem dX6_isIn_5 : decode cX6_isIn 5 = .ok (.iconst 1, 1) := by decide +kernel
theorem dX6_isIn_6 : decode cX6_isIn 6 = .ok (.if_icmp .ne 7, 3) := by decide +kernel
theorem dX6_isIn_9 : decode cX6_isIn 9 = .ok (.iconst 1, 1) := by decide +kernel
theorem dX6_isIn_10 : decode cX6_isIn 10 = .ok (.goto 4, 3) := by decide +kernel
theorem dX6_isIn_13 : decode cX6_isIn 13 = .ok (.iconst 0, 1) := by decide +kernel
theorem dX6_isIn_14 : decode cX6_isIn 14 = .ok (.ireturn, 1) := by decide +kernel
theorem dX6_no_0 : decode cX6_no 0 = .ok (.ldc2_w 101, 3) := by decide +kernel
theorem dX6_no_3 : decode cX6_no 3 = .ok (.iload_n 0, 1) := by decide +kernel
theorem dX6_no_4 : decode cX6_no 4 = .ok (.i2l, 1) := by decide +kernel
theorem dX6_no_5 : decode cX6_no 5 = .ok (.lsub, 1) := by decide +kernel
theorem dX6_no_6 : decode cX6_no 6 = .ok (.lreturn, 1) := by decide +kernel
theorem dX6_lowest_0 : decode cX6_lowest 0 = .ok (.lload_n 0, 1) := by decide +kernel
theorem dX6_lowest_1 : decode cX6_lowest 1 = .ok (.lstore 5, 2) := by decide +kernel
theorem dX6_lowest_3 : decode cX6_lowest 3 = .ok (.lload_n 2, 1) := by decide +kernel
theorem dX6_lowest_4 : decode cX6_lowest 4 = .ok (.lstore 7, 2) := by decide +kernel
theorem dX6_lowest_6 : decode cX6_lowest 6 = .ok (.lload 7, 2) := by decide +kernel
theorem dX6_lowest_8 : decode cX6_lowest 8 = .ok (.lconst 0, 1) := by decide +kernel
theorem dX6_lowest_9 : decode cX6_lowest 9 = .ok (.lcmp, 1) := by decide +kernel
theorem dX6_lowest_10 : decode cX6_lowest 10 = .ok (.ifCond .eq 21, 3) := by decide +kernel
theorem dX6_lowest_13 : decode cX6_lowest 13 = .ok (.lload 5, 2) := by decide +kernel
theorem dX6_lowest_15 : decode cX6_lowest 15 = .ok (.lload 7, 2) := by decide +kernel
theorem dX6_lowest_17 : decode cX6_lowest 17 = .ok (.lrem, 1) := by decide +kernel
theorem dX6_lowest_18 : decode cX6_lowest 18 = .ok (.lstore 9, 2) := by decide +kernel
theorem dX6_lowest_20 : decode cX6_lowest 20 = .ok (.lload 7, 2) := by decide +kernel
theorem dX6_lowest_22 : decode cX6_lowest 22 = .ok (.lstore 5, 2) := by decide +kernel
theorem dX6_lowest_24 : decode cX6_lowest 24 = .ok (.lload 9, 2) := by decide +kernel
theorem dX6_lowest_26 : decode cX6_lowest 26 = .ok (.lstore 7, 2) := by decide +kernel
theorem dX6_lowest_28 : decode cX6_lowest 28 = .ok (.goto (-22), 3) := by decide +kernel
theorem dX6_lowest_31 : decode cX6_lowest 31 = .ok (.iload 4, 2) := by decide +kernel
theorem dX6_lowest_33 : decode cX6_lowest 33 = .ok (.ifCond .ne 10, 3) := by decide +kernel
theorem dX6_lowest_36 : decode cX6_lowest 36 = .ok (.lload_n 0, 1) := by decide +kernel
theorem dX6_lowest_37 : decode cX6_lowest 37 = .ok (.lload 5, 2) := by decide +kernel
theorem dX6_lowest_39 : decode cX6_lowest 39 = .ok (.ldiv, 1) := by decide +kernel
theorem dX6_lowest_40 : decode cX6_lowest 40 = .ok (.goto 7, 3) := by decide +kernel
theorem dX6_lowest_43 : decode cX6_lowest 43 = .ok (.lload_n 2, 1) := by decide +kernel
theorem dX6_lowest_44 : decode cX6_lowest 44 = .ok (.lload 5, 2) := by decide +kernel
theorem dX6_lowest_46 : decode cX6_lowest 46 = .ok (.ldiv, 1) := by decide +kernel
theorem dX6_lowest_47 : decode cX6_lowest 47 = .ok (.lreturn, 1) := by decide +kernel
theorem dX6_isText_0 : decode cX6_isText 0 = .ok (.iload_n 0, 1) := by decide +kernel
theorem dX6_isText_1 : decode cX6_isText 1 = .ok (.iconst 0, 1) := by decide +kernel
theorem dX6_isText_2 : decode cX6_isText 2 = .ok (.iconst 1, 1) := by decide +kernel
theorem dX6_isText_3 : decode cX6_isText 3 = .ok (.invokestatic 103, 3) := by decide +kernel
theorem dX6_isText_6 : decode cX6_isText 6 = .ok (.ireturn, 1) := by decide +kernel
theorem dX6_isHour_0 : decode cX6_isHour 0 = .ok (.iload_n 0, 1) := by decide +kernel
theorem dX6_isHour_1 : decode cX6_isHour 1 = .ok (.iconst 0, 1) := by decide +kernel
theorem dX6_isHour_2 : decode cX6_isHour 2 = .ok (.bipush 39, 2) := by decide +kernel
theorem dX6_isHour_4 : decode cX6_isHour 4 = .ok (.invokestatic 103, 3) := by decide +kernel
theorem dX6_isHour_7 : decode cX6_isHour 7 = .ok (.ireturn, 1) := by decide +kernel
theorem dX6_type_0 : decode cX6_type 0 = .ok (.iload_n 1, 1) := by decide +kernel
theorem dX6_type_1 : decode cX6_type 1 = .ok (.invokestatic 107, 3) := by decide +kernel
theorem dX6_type_4 : decode cX6_type 4 = .ok (.ifCond .eq 14, 3) := by decide +kernel
theorem dX6_type_7 : decode cX6_type 7 = .ok (.iload_n 2, 1) := by decide +kernel
theorem dX6_type_8 : decode cX6_type 8 = .ok (.iconst 0, 1) := by decide +kernel
theorem dX6_type_9 : decode cX6_type 9 = .ok (.sipush 255, 3) := by decide +kernel
theorem dX6_type_12 : decode cX6_type 12 = .ok (.invokestatic 103, 3) := by decide +kernel
theorem dX6_type_15 : decode cX6_type 15 = .ok (.ifCond .ne 6, 3) := by decide +kernel
theorem dX6_type_18 : decode cX6_type 18 = .ok (.bipush (-2), 2) := by decide +kernel
theorem dX6_type_20 : decode cX6_type 20 = .ok (.ireturn, 1) := by decide +kernel
theorem dX6_type_21 : decode cX6_type 21 = .ok (.aload_n 0, 1) := by decide +kernel
theorem dX6_type_22 : decode cX6_type 22 = .ok (.getfield 7, 3) := by decide +kernel
theorem dX6_type_25 : decode cX6_type 25 = .ok (.iload_n 1, 1) := by decide +kernel
theorem dX6_type_26 : decode cX6_type 26 = .ok (.iaload, 1) := by decide +kernel
theorem dX6_type_27 : decode cX6_type 27 = .ok (.iload_n 1, 1) := by decide +kernel
theorem dX6_type_28 : decode cX6_type 28 = .ok (.ifCond .ne 8, 3) := by decide +kernel
theorem dX6_type_31 : decode cX6_type 31 = .ok (.bipush 55, 2) := by decide +kernel
theorem dX6_type_33 : decode cX6_type 33 = .ok (.goto 5, 3) := by decide +kernel
theorem dX6_type_36 : decode cX6_type 36 = .ok (.bipush 40, 2) := by decide +kernel
theorem dX6_type_38 : decode cX6_type 38 = .ok (.if_icmp .ne 6, 3) := by decide +kernel
theorem dX6_type_41 : decode cX6_type 41 = .ok (.bipush (-4), 2) := by decide +kernel
theorem dX6_type_43 : decode cX6_type 43 = .ok (.ireturn, 1) := by decide +kernel
theorem dX6_type_44 : decode cX6_type 44 = .ok (.aload_n 0, 1) := by decide +kernel
theorem dX6_type_45 : decode cX6_type 45 = .ok (.getfield 13, 3) := by decide +kernel
theorem dX6_type_48 : decode cX6_type 48 = .ok (.bipush 55, 2) := by decide +kernel
theorem dX6_type_50 : decode cX6_type 50 = .ok (.iload_n 1, 1) := by decide +kernel
theorem dX6_type_51 : decode cX6_type 51 = .ok (.imul, 1) := by decide +kernel
theorem dX6_type_52 : decode cX6_type 52 = .ok (.aload_n 0, 1) := by decide +kernel
theorem dX6_type_53 : decode cX6_type 53 = .ok (.getfield 7, 3) := by decide +kernel
theorem dX6_type_56 : decode cX6_type 56 = .ok (.iload_n 1, 1) := by decide +kernel
theorem dX6_type_57 : decode cX6_type 57 = .ok (.iaload, 1) := by decide +kernel
theorem dX6_type_58 : decode cX6_type 58 = .ok (.iadd, 1) := by decide +kernel
theorem dX6_type_59 : decode cX6_type 59 = .ok (.iload_n 2, 1) := by decide +kernel
theorem dX6_type_60 : decode cX6_type 60 = .ok (.iastore, 1) := by decide +kernel
theorem dX6_type_61 : decode cX6_type 61 = .ok (.aload_n 0, 1) := by decide +kernel
theorem dX6_type_62 : decode cX6_type 62 = .ok (.getfield 7, 3) := by decide +kernel
theorem dX6_type_65 : decode cX6_type 65 = .ok (.iload_n 1, 1) := by decide +kernel
theorem dX6_type_66 : decode cX6_type 66 = .ok (.dup2, 1) := by decide +kernel
theorem dX6_type_67 : decode cX6_type 67 = .ok (.iaload, 1) := by decide +kernel
theorem dX6_type_68 : decode cX6_type 68 = .ok (.iconst 1, 1) := by decide +kernel
theorem dX6_type_69 : decode cX6_type 69 = .ok (.iadd, 1) := by decide +kernel
theorem dX6_type_70 : decode cX6_type 70 = .ok (.iastore, 1) := by decide +kernel
theorem dX6_type_71 : decode cX6_type 71 = .ok (.aload_n 0, 1) := by decide +kernel
theorem dX6_type_72 : decode cX6_type 72 = .ok (.getfield 7, 3) := by decide +kernel
theorem dX6_type_75 : decode cX6_type 75 = .ok (.iload_n 1, 1) := by decide +kernel
theorem dX6_type_76 : decode cX6_type 76 = .ok (.iaload, 1) := by decide +kernel
theorem dX6_type_77 : decode cX6_type 77 = .ok (.ireturn, 1) := by decide +kernel
theorem dX6_wipe_0 : decode cX6_wipe 0 = .ok (.iload_n 1, 1) := by decide +kernel
theorem dX6_wipe_1 : decode cX6_wipe 1 = .ok (.invokestatic 107, 3) := by decide +kernel
theorem dX6_wipe_4 : decode cX6_wipe 4 = .ok (.ifCond .ne 6, 3) := by decide +kernel
theorem dX6_wipe_7 : decode cX6_wipe 7 = .ok (.bipush (-2), 2) := by decide +kernel
theorem dX6_wipe_9 : decode cX6_wipe 9 = .ok (.ireturn, 1) := by decide +kernel
theorem dX6_wipe_10 : decode cX6_wipe 10 = .ok (.aload_n 0, 1) := by decide +kernel
theorem dX6_wipe_11 : decode cX6_wipe 11 = .ok (.getfield 7, 3) := by decide +kernel
theorem dX6_wipe_14 : decode cX6_wipe 14 = .ok (.iload_n 1, 1) := by decide +kernel
theorem dX6_wipe_15 : decode cX6_wipe 15 = .ok (.iaload, 1) := by decide +kernel
theorem dX6_wipe_16 : decode cX6_wipe 16 = .ok (.istore_n 2, 1) := by decide +kernel
theorem dX6_wipe_17 : decode cX6_wipe 17 = .ok (.aload_n 0, 1) := by decide +kernel
theorem dX6_wipe_18 : decode cX6_wipe 18 = .ok (.getfield 7, 3) := by decide +kernel
theorem dX6_wipe_21 : decode cX6_wipe 21 = .ok (.iload_n 1, 1) := by decide +kernel
theorem dX6_wipe_22 : decode cX6_wipe 22 = .ok (.iconst 0, 1) := by decide +kernel
theorem dX6_wipe_23 : decode cX6_wipe 23 = .ok (.iastore, 1) := by decide +kernel
theorem dX6_wipe_24 : decode cX6_wipe 24 = .ok (.iload_n 2, 1) := by decide +kernel
theorem dX6_wipe_25 : decode cX6_wipe 25 = .ok (.ireturn, 1) := by decide +kernel
theorem dX6_undo_0 : decode cX6_undo 0 = .ok (.iload_n 1, 1) := by decide +kernel
theorem dX6_undo_1 : decode cX6_undo 1 = .ok (.invokestatic 107, 3) := by decide +kernel
theorem dX6_undo_4 : decode cX6_undo 4 = .ok (.ifCond .ne 6, 3) := by decide +kernel
theorem dX6_undo_7 : decode cX6_undo 7 = .ok (.bipush (-2), 2) := by decide +kernel
theorem dX6_undo_9 : decode cX6_undo 9 = .ok (.ireturn, 1) := by decide +kernel
theorem dX6_undo_10 : decode cX6_undo 10 = .ok (.aload_n 0, 1) := by decide +kernel
theorem dX6_undo_11 : decode cX6_undo 11 = .ok (.getfield 7, 3) := by decide +kernel
theorem dX6_undo_14 : decode cX6_undo 14 = .ok (.iload_n 1, 1) := by decide +kernel
theorem dX6_undo_15 : decode cX6_undo 15 = .ok (.iaload, 1) := by decide +kernel
theorem dX6_undo_16 : decode cX6_undo 16 = .ok (.ifCond .ne 6, 3) := by decide +kernel
theorem dX6_undo_19 : decode cX6_undo 19 = .ok (.bipush (-3), 2) := by decide +kernel
theorem dX6_undo_21 : decode cX6_undo 21 = .ok (.ireturn, 1) := by decide +kernel
theorem dX6_undo_22 : decode cX6_undo 22 = .ok (.aload_n 0, 1) := by decide +kernel
theorem dX6_undo_23 : decode cX6_undo 23 = .ok (.getfield 7, 3) := by decide +kernel
theorem dX6_undo_26 : decode cX6_undo 26 = .ok (.iload_n 1, 1) := by decide +kernel
theorem dX6_undo_27 : decode cX6_undo 27 = .ok (.dup2, 1) := by decide +kernel
theorem dX6_undo_28 : decode cX6_undo 28 = .ok (.iaload, 1) := by decide +kernel
theorem dX6_undo_29 : decode cX6_undo 29 = .ok (.iconst 1, 1) := by decide +kernel
theorem dX6_undo_30 : decode cX6_undo 30 = .ok (.isub, 1) := by decide +kernel
theorem dX6_undo_31 : decode cX6_undo 31 = .ok (.iastore, 1) := by decide +kernel
theorem dX6_undo_32 : decode cX6_undo 32 = .ok (.aload_n 0, 1) := by decide +kernel
theorem dX6_undo_33 : decode cX6_undo 33 = .ok (.getfield 7, 3) := by decide +kernel
theorem dX6_undo_36 : decode cX6_undo 36 = .ok (.iload_n 1, 1) := by decide +kernel
theorem dX6_undo_37 : decode cX6_undo 37 = .ok (.iaload, 1) := by decide +kernel
theorem dX6_undo_38 : decode cX6_undo 38 = .ok (.ireturn, 1) := by decide +kernel
theorem dX6_byteAt_0 : decode cX6_byteAt 0 = .ok (.iload_n 1, 1) := by decide +kernel
theorem dX6_byteAt_1 : decode cX6_byteAt 1 = .ok (.aload_n 0, 1) := by decide +kernel
theorem dX6_byteAt_2 : decode cX6_byteAt 2 = .ok (.getfield 7, 3) := by decide +kernel
theorem dX6_byteAt_5 : decode cX6_byteAt 5 = .ok (.iconst 0, 1) := by decide +kernel
theorem dX6_byteAt_6 : decode cX6_byteAt 6 = .ok (.iaload, 1) := by decide +kernel
theorem dX6_byteAt_7 : decode cX6_byteAt 7 = .ok (.if_icmp .ge 12, 3) := by decide +kernel
theorem dX6_byteAt_10 : decode cX6_byteAt 10 = .ok (.aload_n 0, 1) := by decide +kernel
theorem dX6_byteAt_11 : decode cX6_byteAt 11 = .ok (.getfield 13, 3) := by decide +kernel
theorem dX6_byteAt_14 : decode cX6_byteAt 14 = .ok (.iload_n 1, 1) := by decide +kernel
theorem dX6_byteAt_15 : decode cX6_byteAt 15 = .ok (.iaload, 1) := by decide +kernel
theorem dX6_byteAt_16 : decode cX6_byteAt 16 = .ok (.goto 4, 3) := by decide +kernel
theorem dX6_byteAt_19 : decode cX6_byteAt 19 = .ok (.iconst (-1), 1) := by decide +kernel
theorem dX6_byteAt_20 : decode cX6_byteAt 20 = .ok (.ireturn, 1) := by decide +kernel
theorem dX6_doneAt_0 : decode cX6_doneAt 0 = .ok (.aload_n 0, 1) := by decide +kernel
theorem dX6_doneAt_1 : decode cX6_doneAt 1 = .ok (.iload_n 1, 1) := by decide +kernel
theorem dX6_doneAt_2 : decode cX6_doneAt 2 = .ok (.invokevirtual 111, 3) := by decide +kernel
theorem dX6_doneAt_5 : decode cX6_doneAt 5 = .ok (.istore_n 2, 1) := by decide +kernel
theorem dX6_doneAt_6 : decode cX6_doneAt 6 = .ok (.iload_n 2, 1) := by decide +kernel
theorem dX6_doneAt_7 : decode cX6_doneAt 7 = .ok (.bipush 115, 2) := by decide +kernel
theorem dX6_doneAt_9 : decode cX6_doneAt 9 = .ok (.if_icmp .ne 7, 3) := by decide +kernel
theorem dX6_doneAt_12 : decode cX6_doneAt 12 = .ok (.iconst 0, 1) := by decide +kernel
theorem dX6_doneAt_13 : decode cX6_doneAt 13 = .ok (.goto 24, 3) := by decide +kernel
theorem dX6_doneAt_16 : decode cX6_doneAt 16 = .ok (.iload_n 2, 1) := by decide +kernel
theorem dX6_doneAt_17 : decode cX6_doneAt 17 = .ok (.bipush 119, 2) := by decide +kernel
theorem dX6_doneAt_19 : decode cX6_doneAt 19 = .ok (.if_icmp .ne 7, 3) := by decide +kernel
theorem dX6_doneAt_22 : decode cX6_doneAt 22 = .ok (.iconst 1, 1) := by decide +kernel
theorem dX6_doneAt_23 : decode cX6_doneAt 23 = .ok (.goto 14, 3) := by decide +kernel
theorem dX6_doneAt_26 : decode cX6_doneAt 26 = .ok (.iload_n 2, 1) := by decide +kernel
theorem dX6_doneAt_27 : decode cX6_doneAt 27 = .ok (.bipush 114, 2) := by decide +kernel
theorem dX6_doneAt_29 : decode cX6_doneAt 29 = .ok (.if_icmp .ne 7, 3) := by decide +kernel
theorem dX6_doneAt_32 : decode cX6_doneAt 32 = .ok (.iconst 2, 1) := by decide +kernel
theorem dX6_doneAt_33 : decode cX6_doneAt 33 = .ok (.goto 4, 3) := by decide +kernel
theorem dX6_doneAt_36 : decode cX6_doneAt 36 = .ok (.iconst (-1), 1) := by decide +kernel
theorem dX6_doneAt_37 : decode cX6_doneAt 37 = .ok (.ireturn, 1) := by decide +kernel
theorem dX6_readsHouse_0 : decode cX6_readsHouse 0 = .ok (.aload_n 0, 1) := by decide +kernel
theorem dX6_readsHouse_1 : decode cX6_readsHouse 1 = .ok (.iload_n 2, 1) := by decide +kernel
theorem dX6_readsHouse_2 : decode cX6_readsHouse 2 = .ok (.invokevirtual 111, 3) := by decide +kernel
theorem dX6_readsHouse_5 : decode cX6_readsHouse 5 = .ok (.istore_n 3, 1) := by decide +kernel
theorem dX6_readsHouse_6 : decode cX6_readsHouse 6 = .ok (.iload_n 3, 1) := by decide +kernel
theorem dX6_readsHouse_7 : decode cX6_readsHouse 7 = .ok (.bipush 46, 2) := by decide +kernel
theorem dX6_readsHouse_9 : decode cX6_readsHouse 9 = .ok (.if_icmp .eq 18, 3) := by decide +kernel
theorem dX6_readsHouse_12 : decode cX6_readsHouse 12 = .ok (.iload_n 3, 1) := by decide +kernel
theorem dX6_readsHouse_13 : decode cX6_readsHouse 13 = .ok (.bipush 97, 2) := by decide +kernel
theorem dX6_readsHouse_15 : decode cX6_readsHouse 15 = .ok (.bipush 97, 2) := by decide +kernel
theorem dX6_readsHouse_17 : decode cX6_readsHouse 17 = .ok (.iload_n 1, 1) := by decide +kernel
theorem dX6_readsHouse_18 : decode cX6_readsHouse 18 = .ok (.iadd, 1) := by decide +kernel
theorem dX6_readsHouse_19 : decode cX6_readsHouse 19 = .ok (.iconst 1, 1) := by decide +kernel
theorem dX6_readsHouse_20 : decode cX6_readsHouse 20 = .ok (.isub, 1) := by decide +kernel
theorem dX6_readsHouse_21 : decode cX6_readsHouse 21 = .ok (.invokestatic 103, 3) := by decide +kernel
theorem dX6_readsHouse_24 : decode cX6_readsHouse 24 = .ok (.ifCond .eq 7, 3) := by decide +kernel
theorem dX6_readsHouse_27 : decode cX6_readsHouse 27 = .ok (.iconst 1, 1) := by decide +kernel
theorem dX6_readsHouse_28 : decode cX6_readsHouse 28 = .ok (.goto 4, 3) := by decide +kernel
theorem dX6_readsHouse_31 : decode cX6_readsHouse 31 = .ok (.iconst 0, 1) := by decide +kernel
theorem dX6_readsHouse_32 : decode cX6_readsHouse 32 = .ok (.istore 4, 2) := by decide +kernel
theorem dX6_readsHouse_34 : decode cX6_readsHouse 34 = .ok (.iload_n 1, 1) := by decide +kernel
theorem dX6_readsHouse_35 : decode cX6_readsHouse 35 = .ok (.bipush 8, 2) := by decide +kernel
theorem dX6_readsHouse_37 : decode cX6_readsHouse 37 = .ok (.if_icmp .eq 8, 3) := by decide +kernel
theorem dX6_readsHouse_40 : decode cX6_readsHouse 40 = .ok (.iload 4, 2) := by decide +kernel
theorem dX6_readsHouse_42 : decode cX6_readsHouse 42 = .ok (.ifCond .ne 5, 3) := by decide +kernel
theorem dX6_readsHouse_45 : decode cX6_readsHouse 45 = .ok (.iconst (-1), 1) := by decide +kernel
theorem dX6_readsHouse_46 : decode cX6_readsHouse 46 = .ok (.ireturn, 1) := by decide +kernel
theorem dX6_readsHouse_47 : decode cX6_readsHouse 47 = .ok (.aload_n 0, 1) := by decide +kernel
theorem dX6_readsHouse_48 : decode cX6_readsHouse 48 = .ok (.iload_n 2, 1) := by decide +kernel
theorem dX6_readsHouse_49 : decode cX6_readsHouse 49 = .ok (.iconst 1, 1) := by decide +kernel
theorem dX6_readsHouse_50 : decode cX6_readsHouse 50 = .ok (.iadd, 1) := by decide +kernel
theorem dX6_readsHouse_51 : decode cX6_readsHouse 51 = .ok (.invokevirtual 111, 3) := by decide +kernel
theorem dX6_readsHouse_54 : decode cX6_readsHouse 54 = .ok (.bipush 97, 2) := by decide +kernel
theorem dX6_readsHouse_56 : decode cX6_readsHouse 56 = .ok (.bipush 103, 2) := by decide +kernel
theorem dX6_readsHouse_58 : decode cX6_readsHouse 58 = .ok (.invokestatic 103, 3) := by decide +kernel
theorem dX6_readsHouse_61 : decode cX6_readsHouse 61 = .ok (.ifCond .ne 6, 3) := by decide +kernel
theorem dX6_readsHouse_64 : decode cX6_readsHouse 64 = .ok (.bipush (-2), 2) := by decide +kernel
theorem dX6_readsHouse_66 : decode cX6_readsHouse 66 = .ok (.ireturn, 1) := by decide +kernel
theorem dX6_readsHouse_67 : decode cX6_readsHouse 67 = .ok (.aload_n 0, 1) := by decide +kernel
theorem dX6_readsHouse_68 : decode cX6_readsHouse 68 = .ok (.iload_n 2, 1) := by decide +kernel
theorem dX6_readsHouse_69 : decode cX6_readsHouse 69 = .ok (.iconst 2, 1) := by decide +kernel
theorem dX6_readsHouse_70 : decode cX6_readsHouse 70 = .ok (.iadd, 1) := by decide +kernel
theorem dX6_readsHouse_71 : decode cX6_readsHouse 71 = .ok (.invokevirtual 111, 3) := by decide +kernel
theorem dX6_readsHouse_74 : decode cX6_readsHouse 74 = .ok (.bipush 49, 2) := by decide +kernel
theorem dX6_readsHouse_76 : decode cX6_readsHouse 76 = .ok (.bipush 57, 2) := by decide +kernel
theorem dX6_readsHouse_78 : decode cX6_readsHouse 78 = .ok (.invokestatic 103, 3) := by decide +kernel
theorem dX6_readsHouse_81 : decode cX6_readsHouse 81 = .ok (.ifCond .ne 6, 3) := by decide +kernel
theorem dX6_readsHouse_84 : decode cX6_readsHouse 84 = .ok (.bipush (-3), 2) := by decide +kernel
theorem dX6_readsHouse_86 : decode cX6_readsHouse 86 = .ok (.ireturn, 1) := by decide +kernel
theorem dX6_readsHouse_87 : decode cX6_readsHouse 87 = .ok (.aload_n 0, 1) := by decide +kernel
theorem dX6_readsHouse_88 : decode cX6_readsHouse 88 = .ok (.iload_n 2, 1) := by decide +kernel
theorem dX6_readsHouse_89 : decode cX6_readsHouse 89 = .ok (.iconst 3, 1) := by decide +kernel
theorem dX6_readsHouse_90 : decode cX6_readsHouse 90 = .ok (.iadd, 1) := by decide +kernel
theorem dX6_readsHouse_91 : decode cX6_readsHouse 91 = .ok (.invokevirtual 115, 3) := by decide +kernel
theorem dX6_readsHouse_94 : decode cX6_readsHouse 94 = .ok (.iconst (-1), 1) := by decide +kernel
theorem dX6_readsHouse_95 : decode cX6_readsHouse 95 = .ok (.if_icmp .ne 6, 3) := by decide +kernel
theorem dX6_readsHouse_98 : decode cX6_readsHouse 98 = .ok (.bipush (-4), 2) := by decide +kernel
theorem dX6_readsHouse_100 : decode cX6_readsHouse 100 = .ok (.ireturn, 1) := by decide +kernel
theorem dX6_readsHouse_101 : decode cX6_readsHouse 101 = .ok (.iconst 0, 1) := by decide +kernel
theorem dX6_readsHouse_102 : decode cX6_readsHouse 102 = .ok (.istore 5, 2) := by decide +kernel
theorem dX6_readsHouse_104 : decode cX6_readsHouse 104 = .ok (.iload 5, 2) := by decide +kernel
theorem dX6_readsHouse_106 : decode cX6_readsHouse 106 = .ok (.iconst 3, 1) := by decide +kernel
theorem dX6_readsHouse_107 : decode cX6_readsHouse 107 = .ok (.if_icmp .ge 44, 3) := by decide +kernel
theorem dX6_readsHouse_110 : decode cX6_readsHouse 110 = .ok (.aload_n 0, 1) := by decide +kernel
theorem dX6_readsHouse_111 : decode cX6_readsHouse 111 = .ok (.iload_n 2, 1) := by decide +kernel
theorem dX6_readsHouse_112 : decode cX6_readsHouse 112 = .ok (.iconst 3, 1) := by decide +kernel
theorem dX6_readsHouse_113 : decode cX6_readsHouse 113 = .ok (.iadd, 1) := by decide +kernel
theorem dX6_readsHouse_114 : decode cX6_readsHouse 114 = .ok (.iload 5, 2) := by decide +kernel
theorem dX6_readsHouse_116 : decode cX6_readsHouse 116 = .ok (.iadd, 1) := by decide +kernel
theorem dX6_readsHouse_117 : decode cX6_readsHouse 117 = .ok (.invokevirtual 115, 3) := by decide +kernel
theorem dX6_readsHouse_120 : decode cX6_readsHouse 120 = .ok (.iconst (-1), 1) := by decide +kernel
theorem dX6_readsHouse_121 : decode cX6_readsHouse 121 = .ok (.if_icmp .eq 30, 3) := by decide +kernel
theorem dX6_readsHouse_124 : decode cX6_readsHouse 124 = .ok (.aload_n 0, 1) := by decide +kernel
theorem dX6_readsHouse_125 : decode cX6_readsHouse 125 = .ok (.getfield 28, 3) := by decide +kernel
theorem dX6_readsHouse_128 : decode cX6_readsHouse 128 = .ok (.iconst 3, 1) := by decide +kernel
theorem dX6_readsHouse_129 : decode cX6_readsHouse 129 = .ok (.iload_n 1, 1) := by decide +kernel
theorem dX6_readsHouse_130 : decode cX6_readsHouse 130 = .ok (.imul, 1) := by decide +kernel
theorem dX6_readsHouse_131 : decode cX6_readsHouse 131 = .ok (.iload 5, 2) := by decide +kernel
theorem dX6_readsHouse_133 : decode cX6_readsHouse 133 = .ok (.iadd, 1) := by decide +kernel
theorem dX6_readsHouse_134 : decode cX6_readsHouse 134 = .ok (.aload_n 0, 1) := by decide +kernel
theorem dX6_readsHouse_135 : decode cX6_readsHouse 135 = .ok (.iload_n 2, 1) := by decide +kernel
theorem dX6_readsHouse_136 : decode cX6_readsHouse 136 = .ok (.iconst 3, 1) := by decide +kernel
theorem dX6_readsHouse_137 : decode cX6_readsHouse 137 = .ok (.iadd, 1) := by decide +kernel
theorem dX6_readsHouse_138 : decode cX6_readsHouse 138 = .ok (.iload 5, 2) := by decide +kernel
theorem dX6_readsHouse_140 : decode cX6_readsHouse 140 = .ok (.iadd, 1) := by decide +kernel
theorem dX6_readsHouse_141 : decode cX6_readsHouse 141 = .ok (.invokevirtual 115, 3) := by decide +kernel
theorem dX6_readsHouse_144 : decode cX6_readsHouse 144 = .ok (.iastore, 1) := by decide +kernel
theorem dX6_readsHouse_145 : decode cX6_readsHouse 145 = .ok (.iinc 5 1, 3) := by decide +kernel
theorem dX6_readsHouse_148 : decode cX6_readsHouse 148 = .ok (.goto (-44), 3) := by decide +kernel
theorem dX6_readsHouse_151 : decode cX6_readsHouse 151 = .ok (.aload_n 0, 1) := by decide +kernel
theorem dX6_readsHouse_152 : decode cX6_readsHouse 152 = .ok (.getfield 16, 3) := by decide +kernel
theorem dX6_readsHouse_155 : decode cX6_readsHouse 155 = .ok (.iload_n 1, 1) := by decide +kernel
theorem dX6_readsHouse_156 : decode cX6_readsHouse 156 = .ok (.iload_n 3, 1) := by decide +kernel
theorem dX6_readsHouse_157 : decode cX6_readsHouse 157 = .ok (.bipush 46, 2) := by decide +kernel
theorem dX6_readsHouse_159 : decode cX6_readsHouse 159 = .ok (.if_icmp .ne 7, 3) := by decide +kernel
theorem dX6_readsHouse_162 : decode cX6_readsHouse 162 = .ok (.iconst (-1), 1) := by decide +kernel
theorem dX6_readsHouse_163 : decode cX6_readsHouse 163 = .ok (.goto 7, 3) := by decide +kernel
theorem dX6_readsHouse_166 : decode cX6_readsHouse 166 = .ok (.iload_n 3, 1) := by decide +kernel
theorem dX6_readsHouse_167 : decode cX6_readsHouse 167 = .ok (.bipush 97, 2) := by decide +kernel
theorem dX6_readsHouse_169 : decode cX6_readsHouse 169 = .ok (.isub, 1) := by decide +kernel
theorem dX6_readsHouse_170 : decode cX6_readsHouse 170 = .ok (.iastore, 1) := by decide +kernel
theorem dX6_readsHouse_171 : decode cX6_readsHouse 171 = .ok (.aload_n 0, 1) := by decide +kernel
theorem dX6_readsHouse_172 : decode cX6_readsHouse 172 = .ok (.getfield 19, 3) := by decide +kernel
theorem dX6_readsHouse_175 : decode cX6_readsHouse 175 = .ok (.iload_n 1, 1) := by decide +kernel
theorem dX6_readsHouse_176 : decode cX6_readsHouse 176 = .ok (.aload_n 0, 1) := by decide +kernel
theorem dX6_readsHouse_177 : decode cX6_readsHouse 177 = .ok (.iload_n 2, 1) := by decide +kernel
theorem dX6_readsHouse_178 : decode cX6_readsHouse 178 = .ok (.iconst 1, 1) := by decide +kernel
theorem dX6_readsHouse_179 : decode cX6_readsHouse 179 = .ok (.iadd, 1) := by decide +kernel
theorem dX6_readsHouse_180 : decode cX6_readsHouse 180 = .ok (.invokevirtual 111, 3) := by decide +kernel
theorem dX6_readsHouse_183 : decode cX6_readsHouse 183 = .ok (.bipush 97, 2) := by decide +kernel
theorem dX6_readsHouse_185 : decode cX6_readsHouse 185 = .ok (.isub, 1) := by decide +kernel
theorem dX6_readsHouse_186 : decode cX6_readsHouse 186 = .ok (.iastore, 1) := by decide +kernel
theorem dX6_readsHouse_187 : decode cX6_readsHouse 187 = .ok (.aload_n 0, 1) := by decide +kernel
theorem dX6_readsHouse_188 : decode cX6_readsHouse 188 = .ok (.getfield 22, 3) := by decide +kernel
theorem dX6_readsHouse_191 : decode cX6_readsHouse 191 = .ok (.iload_n 1, 1) := by decide +kernel
theorem dX6_readsHouse_192 : decode cX6_readsHouse 192 = .ok (.aload_n 0, 1) := by decide +kernel
theorem dX6_readsHouse_193 : decode cX6_readsHouse 193 = .ok (.iload_n 2, 1) := by decide +kernel
theorem dX6_readsHouse_194 : decode cX6_readsHouse 194 = .ok (.iconst 2, 1) := by decide +kernel
theorem dX6_readsHouse_195 : decode cX6_readsHouse 195 = .ok (.iadd, 1) := by decide +kernel
theorem dX6_readsHouse_196 : decode cX6_readsHouse 196 = .ok (.invokevirtual 111, 3) := by decide +kernel
theorem dX6_readsHouse_199 : decode cX6_readsHouse 199 = .ok (.bipush 48, 2) := by decide +kernel
theorem dX6_readsHouse_201 : decode cX6_readsHouse 201 = .ok (.isub, 1) := by decide +kernel
theorem dX6_readsHouse_202 : decode cX6_readsHouse 202 = .ok (.iastore, 1) := by decide +kernel
theorem dX6_readsHouse_203 : decode cX6_readsHouse 203 = .ok (.aload_n 0, 1) := by decide +kernel
theorem dX6_readsHouse_204 : decode cX6_readsHouse 204 = .ok (.getfield 25, 3) := by decide +kernel
theorem dX6_readsHouse_207 : decode cX6_readsHouse 207 = .ok (.iload_n 1, 1) := by decide +kernel
theorem dX6_readsHouse_208 : decode cX6_readsHouse 208 = .ok (.iload 5, 2) := by decide +kernel
theorem dX6_readsHouse_210 : decode cX6_readsHouse 210 = .ok (.iastore, 1) := by decide +kernel
theorem dX6_readsHouse_211 : decode cX6_readsHouse 211 = .ok (.iconst 3, 1) := by decide +kernel
theorem dX6_readsHouse_212 : decode cX6_readsHouse 212 = .ok (.iload 5, 2) := by decide +kernel
theorem dX6_readsHouse_214 : decode cX6_readsHouse 214 = .ok (.iadd, 1) := by decide +kernel
theorem dX6_readsHouse_215 : decode cX6_readsHouse 215 = .ok (.ireturn, 1) := by decide +kernel
theorem dX6_readsHouses_0 : decode cX6_readsHouses 0 = .ok (.iconst 0, 1) := by decide +kernel
theorem dX6_readsHouses_1 : decode cX6_readsHouses 1 = .ok (.istore_n 1, 1) := by decide +kernel
theorem dX6_readsHouses_2 : decode cX6_readsHouses 2 = .ok (.iconst 0, 1) := by decide +kernel
theorem dX6_readsHouses_3 : decode cX6_readsHouses 3 = .ok (.istore_n 2, 1) := by decide +kernel
theorem dX6_readsHouses_4 : decode cX6_readsHouses 4 = .ok (.aload_n 0, 1) := by decide +kernel
theorem dX6_readsHouses_5 : decode cX6_readsHouses 5 = .ok (.iconst 0, 1) := by decide +kernel
theorem dX6_readsHouses_6 : decode cX6_readsHouses 6 = .ok (.putfield 118, 3) := by decide +kernel
theorem dX6_readsHouses_9 : decode cX6_readsHouses 9 = .ok (.iload_n 2, 1) := by decide +kernel
theorem dX6_readsHouses_10 : decode cX6_readsHouses 10 = .ok (.aload_n 0, 1) := by decide +kernel
theorem dX6_readsHouses_11 : decode cX6_readsHouses 11 = .ok (.getfield 7, 3) := by decide +kernel
theorem dX6_readsHouses_14 : decode cX6_readsHouses 14 = .ok (.iconst 0, 1) := by decide +kernel
theorem dX6_readsHouses_15 : decode cX6_readsHouses 15 = .ok (.iaload, 1) := by decide +kernel
theorem dX6_readsHouses_16 : decode cX6_readsHouses 16 = .ok (.if_icmp .lt 7, 3) := by decide +kernel
theorem dX6_readsHouses_19 : decode cX6_readsHouses 19 = .ok (.iload_n 2, 1) := by decide +kernel
theorem dX6_readsHouses_20 : decode cX6_readsHouses 20 = .ok (.ifCond .le 62, 3) := by decide +kernel
theorem dX6_readsHouses_23 : decode cX6_readsHouses 23 = .ok (.aload_n 0, 1) := by decide +kernel
theorem dX6_readsHouses_24 : decode cX6_readsHouses 24 = .ok (.iload_n 1, 1) := by decide +kernel
theorem dX6_readsHouses_25 : decode cX6_readsHouses 25 = .ok (.iload_n 2, 1) := by decide +kernel
theorem dX6_readsHouses_26 : decode cX6_readsHouses 26 = .ok (.invokevirtual 122, 3) := by decide +kernel
theorem dX6_readsHouses_29 : decode cX6_readsHouses 29 = .ok (.istore_n 3, 1) := by decide +kernel
theorem dX6_readsHouses_30 : decode cX6_readsHouses 30 = .ok (.iload_n 3, 1) := by decide +kernel
theorem dX6_readsHouses_31 : decode cX6_readsHouses 31 = .ok (.ifCond .ge 9, 3) := by decide +kernel
theorem dX6_readsHouses_34 : decode cX6_readsHouses 34 = .ok (.iload_n 2, 1) := by decide +kernel
theorem dX6_readsHouses_35 : decode cX6_readsHouses 35 = .ok (.iload_n 3, 1) := by decide +kernel
theorem dX6_readsHouses_36 : decode cX6_readsHouses 36 = .ok (.isub, 1) := by decide +kernel
theorem dX6_readsHouses_37 : decode cX6_readsHouses 37 = .ok (.iconst 1, 1) := by decide +kernel
theorem dX6_readsHouses_38 : decode cX6_readsHouses 38 = .ok (.isub, 1) := by decide +kernel
theorem dX6_readsHouses_39 : decode cX6_readsHouses 39 = .ok (.ireturn, 1) := by decide +kernel
theorem dX6_readsHouses_40 : decode cX6_readsHouses 40 = .ok (.iinc 1 1, 3) := by decide +kernel
theorem dX6_readsHouses_43 : decode cX6_readsHouses 43 = .ok (.iload_n 2, 1) := by decide +kernel
theorem dX6_readsHouses_44 : decode cX6_readsHouses 44 = .ok (.iload_n 3, 1) := by decide +kernel
theorem dX6_readsHouses_45 : decode cX6_readsHouses 45 = .ok (.iadd, 1) := by decide +kernel
theorem dX6_readsHouses_46 : decode cX6_readsHouses 46 = .ok (.istore_n 2, 1) := by decide +kernel
theorem dX6_readsHouses_47 : decode cX6_readsHouses 47 = .ok (.iload_n 2, 1) := by decide +kernel
theorem dX6_readsHouses_48 : decode cX6_readsHouses 48 = .ok (.aload_n 0, 1) := by decide +kernel
theorem dX6_readsHouses_49 : decode cX6_readsHouses 49 = .ok (.getfield 7, 3) := by decide +kernel
theorem dX6_readsHouses_52 : decode cX6_readsHouses 52 = .ok (.iconst 0, 1) := by decide +kernel
theorem dX6_readsHouses_53 : decode cX6_readsHouses 53 = .ok (.iaload, 1) := by decide +kernel
theorem dX6_readsHouses_54 : decode cX6_readsHouses 54 = .ok (.if_icmp .ne 10, 3) := by decide +kernel
theorem dX6_readsHouses_57 : decode cX6_readsHouses 57 = .ok (.aload_n 0, 1) := by decide +kernel
theorem dX6_readsHouses_58 : decode cX6_readsHouses 58 = .ok (.iload_n 1, 1) := by decide +kernel
theorem dX6_readsHouses_59 : decode cX6_readsHouses 59 = .ok (.putfield 118, 3) := by decide +kernel
theorem dX6_readsHouses_62 : decode cX6_readsHouses 62 = .ok (.iconst (-1), 1) := by decide +kernel
theorem dX6_readsHouses_63 : decode cX6_readsHouses 63 = .ok (.ireturn, 1) := by decide +kernel
theorem dX6_readsHouses_64 : decode cX6_readsHouses 64 = .ok (.aload_n 0, 1) := by decide +kernel
theorem dX6_readsHouses_65 : decode cX6_readsHouses 65 = .ok (.iload_n 2, 1) := by decide +kernel
theorem dX6_readsHouses_66 : decode cX6_readsHouses 66 = .ok (.invokevirtual 111, 3) := by decide +kernel
theorem dX6_readsHouses_69 : decode cX6_readsHouses 69 = .ok (.bipush 59, 2) := by decide +kernel
theorem dX6_readsHouses_71 : decode cX6_readsHouses 71 = .ok (.if_icmp .eq 5, 3) := by decide +kernel
theorem dX6_readsHouses_74 : decode cX6_readsHouses 74 = .ok (.iload_n 2, 1) := by decide +kernel
theorem dX6_readsHouses_75 : decode cX6_readsHouses 75 = .ok (.ireturn, 1) := by decide +kernel
theorem dX6_readsHouses_76 : decode cX6_readsHouses 76 = .ok (.iinc 2 1, 3) := by decide +kernel
theorem dX6_readsHouses_79 : decode cX6_readsHouses 79 = .ok (.goto (-70), 3) := by decide +kernel
theorem dX6_readsHouses_82 : decode cX6_readsHouses 82 = .ok (.iconst (-1), 1) := by decide +kernel
theorem dX6_readsHouses_83 : decode cX6_readsHouses 83 = .ok (.ireturn, 1) := by decide +kernel
theorem dX6_readsElbows_0 : decode cX6_readsElbows 0 = .ok (.aload_n 0, 1) := by decide +kernel
theorem dX6_readsElbows_1 : decode cX6_readsElbows 1 = .ok (.iconst 0, 1) := by decide +kernel
theorem dX6_readsElbows_2 : decode cX6_readsElbows 2 = .ok (.putfield 126, 3) := by decide +kernel
theorem dX6_readsElbows_5 : decode cX6_readsElbows 5 = .ok (.iconst 0, 1) := by decide +kernel
theorem dX6_readsElbows_6 : decode cX6_readsElbows 6 = .ok (.istore_n 1, 1) := by decide +kernel
theorem dX6_readsElbows_7 : decode cX6_readsElbows 7 = .ok (.iload_n 1, 1) := by decide +kernel
theorem dX6_readsElbows_8 : decode cX6_readsElbows 8 = .ok (.bipush 40, 2) := by decide +kernel
theorem dX6_readsElbows_10 : decode cX6_readsElbows 10 = .ok (.if_icmp .ge 16, 3) := by decide +kernel
theorem dX6_readsElbows_13 : decode cX6_readsElbows 13 = .ok (.aload_n 0, 1) := by decide +kernel
theorem dX6_readsElbows_14 : decode cX6_readsElbows 14 = .ok (.getfield 31, 3) := by decide +kernel
theorem dX6_readsElbows_17 : decode cX6_readsElbows 17 = .ok (.iload_n 1, 1) := by decide +kernel
theorem dX6_readsElbows_18 : decode cX6_readsElbows 18 = .ok (.iconst 3, 1) := by decide +kernel
theorem dX6_readsElbows_19 : decode cX6_readsElbows 19 = .ok (.iastore, 1) := by decide +kernel
theorem dX6_readsElbows_20 : decode cX6_readsElbows 20 = .ok (.iinc 1 1, 3) := by decide +kernel
theorem dX6_readsElbows_23 : decode cX6_readsElbows 23 = .ok (.goto (-16), 3) := by decide +kernel
theorem dX6_readsElbows_26 : decode cX6_readsElbows 26 = .ok (.iconst 0, 1) := by decide +kernel
theorem dX6_readsElbows_27 : decode cX6_readsElbows 27 = .ok (.istore_n 1, 1) := by decide +kernel
theorem dX6_readsElbows_28 : decode cX6_readsElbows 28 = .ok (.iload_n 1, 1) := by decide +kernel
theorem dX6_readsElbows_29 : decode cX6_readsElbows 29 = .ok (.aload_n 0, 1) := by decide +kernel
theorem dX6_readsElbows_30 : decode cX6_readsElbows 30 = .ok (.getfield 7, 3) := by decide +kernel
theorem dX6_readsElbows_33 : decode cX6_readsElbows 33 = .ok (.iconst 1, 1) := by decide +kernel
theorem dX6_readsElbows_34 : decode cX6_readsElbows 34 = .ok (.iaload, 1) := by decide +kernel
theorem dX6_readsElbows_35 : decode cX6_readsElbows 35 = .ok (.if_icmp .ge 30, 3) := by decide +kernel
theorem dX6_readsElbows_38 : decode cX6_readsElbows 38 = .ok (.aload_n 0, 1) := by decide +kernel
theorem dX6_readsElbows_39 : decode cX6_readsElbows 39 = .ok (.getfield 13, 3) := by decide +kernel
theorem dX6_readsElbows_42 : decode cX6_readsElbows 42 = .ok (.bipush 55, 2) := by decide +kernel
theorem dX6_readsElbows_44 : decode cX6_readsElbows 44 = .ok (.iload_n 1, 1) := by decide +kernel
theorem dX6_readsElbows_45 : decode cX6_readsElbows 45 = .ok (.iadd, 1) := by decide +kernel
theorem dX6_readsElbows_46 : decode cX6_readsElbows 46 = .ok (.iaload, 1) := by decide +kernel
theorem dX6_readsElbows_47 : decode cX6_readsElbows 47 = .ok (.bipush 48, 2) := by decide +kernel
theorem dX6_readsElbows_49 : decode cX6_readsElbows 49 = .ok (.bipush 57, 2) := by decide +kernel
theorem dX6_readsElbows_51 : decode cX6_readsElbows 51 = .ok (.invokestatic 103, 3) := by decide +kernel
theorem dX6_readsElbows_54 : decode cX6_readsElbows 54 = .ok (.ifCond .ne 5, 3) := by decide +kernel
theorem dX6_readsElbows_57 : decode cX6_readsElbows 57 = .ok (.iload_n 1, 1) := by decide +kernel
theorem dX6_readsElbows_58 : decode cX6_readsElbows 58 = .ok (.ireturn, 1) := by decide +kernel
theorem dX6_readsElbows_59 : decode cX6_readsElbows 59 = .ok (.iinc 1 1, 3) := by decide +kernel
theorem dX6_readsElbows_62 : decode cX6_readsElbows 62 = .ok (.goto (-34), 3) := by decide +kernel
theorem dX6_readsElbows_65 : decode cX6_readsElbows 65 = .ok (.iconst 0, 1) := by decide +kernel
theorem dX6_readsElbows_66 : decode cX6_readsElbows 66 = .ok (.istore_n 1, 1) := by decide +kernel
theorem dX6_readsElbows_67 : decode cX6_readsElbows 67 = .ok (.iload_n 1, 1) := by decide +kernel
theorem dX6_readsElbows_68 : decode cX6_readsElbows 68 = .ok (.aload_n 0, 1) := by decide +kernel
theorem dX6_readsElbows_69 : decode cX6_readsElbows 69 = .ok (.getfield 7, 3) := by decide +kernel
theorem dX6_readsElbows_72 : decode cX6_readsElbows 72 = .ok (.iconst 1, 1) := by decide +kernel
theorem dX6_readsElbows_73 : decode cX6_readsElbows 73 = .ok (.iaload, 1) := by decide +kernel
theorem dX6_readsElbows_74 : decode cX6_readsElbows 74 = .ok (.if_icmp .ge 27, 3) := by decide +kernel
theorem dX6_readsElbows_77 : decode cX6_readsElbows 77 = .ok (.aload_n 0, 1) := by decide +kernel
theorem dX6_readsElbows_78 : decode cX6_readsElbows 78 = .ok (.getfield 31, 3) := by decide +kernel
theorem dX6_readsElbows_81 : decode cX6_readsElbows 81 = .ok (.iload_n 1, 1) := by decide +kernel
theorem dX6_readsElbows_82 : decode cX6_readsElbows 82 = .ok (.aload_n 0, 1) := by decide +kernel
theorem dX6_readsElbows_83 : decode cX6_readsElbows 83 = .ok (.getfield 13, 3) := by decide +kernel
theorem dX6_readsElbows_86 : decode cX6_readsElbows 86 = .ok (.bipush 55, 2) := by decide +kernel
theorem dX6_readsElbows_88 : decode cX6_readsElbows 88 = .ok (.iload_n 1, 1) := by decide +kernel
theorem dX6_readsElbows_89 : decode cX6_readsElbows 89 = .ok (.iadd, 1) := by decide +kernel
theorem dX6_readsElbows_90 : decode cX6_readsElbows 90 = .ok (.iaload, 1) := by decide +kernel
theorem dX6_readsElbows_91 : decode cX6_readsElbows 91 = .ok (.bipush 48, 2) := by decide +kernel
theorem dX6_readsElbows_93 : decode cX6_readsElbows 93 = .ok (.isub, 1) := by decide +kernel
theorem dX6_readsElbows_94 : decode cX6_readsElbows 94 = .ok (.iastore, 1) := by decide +kernel
theorem dX6_readsElbows_95 : decode cX6_readsElbows 95 = .ok (.iinc 1 1, 3) := by decide +kernel
theorem dX6_readsElbows_98 : decode cX6_readsElbows 98 = .ok (.goto (-31), 3) := by decide +kernel
theorem dX6_readsElbows_101 : decode cX6_readsElbows 101 = .ok (.aload_n 0, 1) := by decide +kernel
theorem dX6_readsElbows_102 : decode cX6_readsElbows 102 = .ok (.aload_n 0, 1) := by decide +kernel
theorem dX6_readsElbows_103 : decode cX6_readsElbows 103 = .ok (.getfield 7, 3) := by decide +kernel
theorem dX6_readsElbows_106 : decode cX6_readsElbows 106 = .ok (.iconst 1, 1) := by decide +kernel
theorem dX6_readsElbows_107 : decode cX6_readsElbows 107 = .ok (.iaload, 1) := by decide +kernel
theorem dX6_readsElbows_108 : decode cX6_readsElbows 108 = .ok (.putfield 126, 3) := by decide +kernel
theorem dX6_readsElbows_111 : decode cX6_readsElbows 111 = .ok (.iconst (-1), 1) := by decide +kernel
theorem dX6_readsElbows_112 : decode cX6_readsElbows 112 = .ok (.ireturn, 1) := by decide +kernel
theorem dX6_faultOf_0 : decode cX6_faultOf 0 = .ok (.aload_n 0, 1) := by decide +kernel
theorem dX6_faultOf_1 : decode cX6_faultOf 1 = .ok (.invokevirtual 129, 3) := by decide +kernel
theorem dX6_faultOf_4 : decode cX6_faultOf 4 = .ok (.istore_n 2, 1) := by decide +kernel
theorem dX6_faultOf_5 : decode cX6_faultOf 5 = .ok (.aload_n 0, 1) := by decide +kernel
theorem dX6_faultOf_6 : decode cX6_faultOf 6 = .ok (.invokevirtual 133, 3) := by decide +kernel
theorem dX6_faultOf_9 : decode cX6_faultOf 9 = .ok (.istore_n 3, 1) := by decide +kernel
theorem dX6_faultOf_10 : decode cX6_faultOf 10 = .ok (.iload_n 1, 1) := by decide +kernel
theorem dX6_faultOf_11 : decode cX6_faultOf 11 = .ok (.ifCond .ne 7, 3) := by decide +kernel
theorem dX6_faultOf_14 : decode cX6_faultOf 14 = .ok (.iload_n 2, 1) := by decide +kernel
theorem dX6_faultOf_15 : decode cX6_faultOf 15 = .ok (.goto 4, 3) := by decide +kernel
theorem dX6_faultOf_18 : decode cX6_faultOf 18 = .ok (.iload_n 3, 1) := by decide +kernel
theorem dX6_faultOf_19 : decode cX6_faultOf 19 = .ok (.ireturn, 1) := by decide +kernel
theorem dX6_reads_0 : decode cX6_reads 0 = .ok (.aload_n 0, 1) := by decide +kernel
theorem dX6_reads_1 : decode cX6_reads 1 = .ok (.iconst 0, 1) := by decide +kernel
theorem dX6_reads_2 : decode cX6_reads 2 = .ok (.invokevirtual 136, 3) := by decide +kernel
theorem dX6_reads_5 : decode cX6_reads 5 = .ok (.istore_n 1, 1) := by decide +kernel
theorem dX6_reads_6 : decode cX6_reads 6 = .ok (.return_, 1) := by decide +kernel
theorem dX6_fault_0 : decode cX6_fault 0 = .ok (.iload_n 1, 1) := by decide +kernel
theorem dX6_fault_1 : decode cX6_fault 1 = .ok (.invokestatic 107, 3) := by decide +kernel
theorem dX6_fault_4 : decode cX6_fault 4 = .ok (.ifCond .eq 11, 3) := by decide +kernel
theorem dX6_fault_7 : decode cX6_fault 7 = .ok (.aload_n 0, 1) := by decide +kernel
theorem dX6_fault_8 : decode cX6_fault 8 = .ok (.iload_n 1, 1) := by decide +kernel
theorem dX6_fault_9 : decode cX6_fault 9 = .ok (.invokevirtual 136, 3) := by decide +kernel
theorem dX6_fault_12 : decode cX6_fault 12 = .ok (.goto 5, 3) := by decide +kernel
theorem dX6_fault_15 : decode cX6_fault 15 = .ok (.bipush (-2), 2) := by decide +kernel
theorem dX6_fault_17 : decode cX6_fault 17 = .ok (.ireturn, 1) := by decide +kernel
theorem dX6_isHouse_0 : decode cX6_isHouse 0 = .ok (.aload_n 0, 1) := by decide +kernel
theorem dX6_isHouse_1 : decode cX6_isHouse 1 = .ok (.invokevirtual 139, 3) := by decide +kernel
theorem dX6_isHouse_4 : decode cX6_isHouse 4 = .ok (.iload_n 1, 1) := by decide +kernel
theorem dX6_isHouse_5 : decode cX6_isHouse 5 = .ok (.iconst 0, 1) := by decide +kernel
theorem dX6_isHouse_6 : decode cX6_isHouse 6 = .ok (.aload_n 0, 1) := by decide +kernel
theorem dX6_isHouse_7 : decode cX6_isHouse 7 = .ok (.getfield 118, 3) := by decide +kernel
theorem dX6_isHouse_10 : decode cX6_isHouse 10 = .ok (.iconst 1, 1) := by decide +kernel
theorem dX6_isHouse_11 : decode cX6_isHouse 11 = .ok (.isub, 1) := by decide +kernel
theorem dX6_isHouse_12 : decode cX6_isHouse 12 = .ok (.invokestatic 103, 3) := by decide +kernel
theorem dX6_isHouse_15 : decode cX6_isHouse 15 = .ok (.ireturn, 1) := by decide +kernel
theorem dX6_houseOf_0 : decode cX6_houseOf 0 = .ok (.iload_n 2, 1) := by decide +kernel
theorem dX6_houseOf_1 : decode cX6_houseOf 1 = .ok (.ifCond .ne 12, 3) := by decide +kernel
theorem dX6_houseOf_4 : decode cX6_houseOf 4 = .ok (.aload_n 0, 1) := by decide +kernel
theorem dX6_houseOf_5 : decode cX6_houseOf 5 = .ok (.getfield 16, 3) := by decide +kernel
theorem dX6_houseOf_8 : decode cX6_houseOf 8 = .ok (.iload_n 1, 1) := by decide +kernel
theorem dX6_houseOf_9 : decode cX6_houseOf 9 = .ok (.iaload, 1) := by decide +kernel
theorem dX6_houseOf_10 : decode cX6_houseOf 10 = .ok (.goto 73, 3) := by decide +kernel
theorem dX6_houseOf_13 : decode cX6_houseOf 13 = .ok (.iload_n 2, 1) := by decide +kernel
theorem dX6_houseOf_14 : decode cX6_houseOf 14 = .ok (.iconst 1, 1) := by decide +kernel
theorem dX6_houseOf_15 : decode cX6_houseOf 15 = .ok (.if_icmp .ne 12, 3) := by decide +kernel
theorem dX6_houseOf_18 : decode cX6_houseOf 18 = .ok (.aload_n 0, 1) := by decide +kernel
theorem dX6_houseOf_19 : decode cX6_houseOf 19 = .ok (.getfield 19, 3) := by decide +kernel
theorem dX6_houseOf_22 : decode cX6_houseOf 22 = .ok (.iload_n 1, 1) := by decide +kernel
theorem dX6_houseOf_23 : decode cX6_houseOf 23 = .ok (.iaload, 1) := by decide +kernel
theorem dX6_houseOf_24 : decode cX6_houseOf 24 = .ok (.goto 59, 3) := by decide +kernel
theorem dX6_houseOf_27 : decode cX6_houseOf 27 = .ok (.iload_n 2, 1) := by decide +kernel
theorem dX6_houseOf_28 : decode cX6_houseOf 28 = .ok (.iconst 2, 1) := by decide +kernel
theorem dX6_houseOf_29 : decode cX6_houseOf 29 = .ok (.if_icmp .ne 12, 3) := by decide +kernel
theorem dX6_houseOf_32 : decode cX6_houseOf 32 = .ok (.aload_n 0, 1) := by decide +kernel
theorem dX6_houseOf_33 : decode cX6_houseOf 33 = .ok (.getfield 22, 3) := by decide +kernel
theorem dX6_houseOf_36 : decode cX6_houseOf 36 = .ok (.iload_n 1, 1) := by decide +kernel
theorem dX6_houseOf_37 : decode cX6_houseOf 37 = .ok (.iaload, 1) := by decide +kernel
theorem dX6_houseOf_38 : decode cX6_houseOf 38 = .ok (.goto 45, 3) := by decide +kernel
theorem dX6_houseOf_41 : decode cX6_houseOf 41 = .ok (.iload_n 2, 1) := by decide +kernel
theorem dX6_houseOf_42 : decode cX6_houseOf 42 = .ok (.iconst 3, 1) := by decide +kernel
theorem dX6_houseOf_43 : decode cX6_houseOf 43 = .ok (.if_icmp .ne 12, 3) := by decide +kernel
theorem dX6_houseOf_46 : decode cX6_houseOf 46 = .ok (.aload_n 0, 1) := by decide +kernel
theorem dX6_houseOf_47 : decode cX6_houseOf 47 = .ok (.getfield 25, 3) := by decide +kernel
theorem dX6_houseOf_50 : decode cX6_houseOf 50 = .ok (.iload_n 1, 1) := by decide +kernel
theorem dX6_houseOf_51 : decode cX6_houseOf 51 = .ok (.iaload, 1) := by decide +kernel
theorem dX6_houseOf_52 : decode cX6_houseOf 52 = .ok (.goto 31, 3) := by decide +kernel
theorem dX6_houseOf_55 : decode cX6_houseOf 55 = .ok (.iload_n 2, 1) := by decide +kernel
theorem dX6_houseOf_56 : decode cX6_houseOf 56 = .ok (.iconst 4, 1) := by decide +kernel
theorem dX6_houseOf_57 : decode cX6_houseOf 57 = .ok (.isub, 1) := by decide +kernel
theorem dX6_houseOf_58 : decode cX6_houseOf 58 = .ok (.aload_n 0, 1) := by decide +kernel
theorem dX6_houseOf_59 : decode cX6_houseOf 59 = .ok (.getfield 25, 3) := by decide +kernel
theorem dX6_houseOf_62 : decode cX6_houseOf 62 = .ok (.iload_n 1, 1) := by decide +kernel
theorem dX6_houseOf_63 : decode cX6_houseOf 63 = .ok (.iaload, 1) := by decide +kernel
theorem dX6_houseOf_64 : decode cX6_houseOf 64 = .ok (.if_icmp .ge 18, 3) := by decide +kernel
theorem dX6_houseOf_67 : decode cX6_houseOf 67 = .ok (.aload_n 0, 1) := by decide +kernel
theorem dX6_houseOf_68 : decode cX6_houseOf 68 = .ok (.getfield 28, 3) := by decide +kernel
theorem dX6_houseOf_71 : decode cX6_houseOf 71 = .ok (.iconst 3, 1) := by decide +kernel
theorem dX6_houseOf_72 : decode cX6_houseOf 72 = .ok (.iload_n 1, 1) := by decide +kernel
theorem dX6_houseOf_73 : decode cX6_houseOf 73 = .ok (.imul, 1) := by decide +kernel
theorem dX6_houseOf_74 : decode cX6_houseOf 74 = .ok (.iload_n 2, 1) := by decide +kernel
theorem dX6_houseOf_75 : decode cX6_houseOf 75 = .ok (.iadd, 1) := by decide +kernel
theorem dX6_houseOf_76 : decode cX6_houseOf 76 = .ok (.iconst 4, 1) := by decide +kernel
theorem dX6_houseOf_77 : decode cX6_houseOf 77 = .ok (.isub, 1) := by decide +kernel
theorem dX6_houseOf_78 : decode cX6_houseOf 78 = .ok (.iaload, 1) := by decide +kernel
theorem dX6_houseOf_79 : decode cX6_houseOf 79 = .ok (.goto 4, 3) := by decide +kernel
theorem dX6_houseOf_82 : decode cX6_houseOf 82 = .ok (.iconst (-1), 1) := by decide +kernel
theorem dX6_houseOf_83 : decode cX6_houseOf 83 = .ok (.ireturn, 1) := by decide +kernel
theorem dX6_house_0 : decode cX6_house 0 = .ok (.aload_n 0, 1) := by decide +kernel
theorem dX6_house_1 : decode cX6_house 1 = .ok (.iload_n 1, 1) := by decide +kernel
theorem dX6_house_2 : decode cX6_house 2 = .ok (.invokevirtual 142, 3) := by decide +kernel
theorem dX6_house_5 : decode cX6_house 5 = .ok (.ifCond .eq 22, 3) := by decide +kernel
theorem dX6_house_8 : decode cX6_house 8 = .ok (.iload_n 2, 1) := by decide +kernel
theorem dX6_house_9 : decode cX6_house 9 = .ok (.iconst 0, 1) := by decide +kernel
theorem dX6_house_10 : decode cX6_house 10 = .ok (.bipush 6, 2) := by decide +kernel
theorem dX6_house_12 : decode cX6_house 12 = .ok (.invokestatic 103, 3) := by decide +kernel
theorem dX6_house_15 : decode cX6_house 15 = .ok (.ifCond .eq 12, 3) := by decide +kernel
theorem dX6_house_18 : decode cX6_house 18 = .ok (.aload_n 0, 1) := by decide +kernel
theorem dX6_house_19 : decode cX6_house 19 = .ok (.iload_n 1, 1) := by decide +kernel
theorem dX6_house_20 : decode cX6_house 20 = .ok (.iload_n 2, 1) := by decide +kernel
theorem dX6_house_21 : decode cX6_house 21 = .ok (.invokevirtual 145, 3) := by decide +kernel
theorem dX6_house_24 : decode cX6_house 24 = .ok (.goto 5, 3) := by decide +kernel
theorem dX6_house_27 : decode cX6_house 27 = .ok (.bipush (-2), 2) := by decide +kernel
theorem dX6_house_29 : decode cX6_house 29 = .ok (.ireturn, 1) := by decide +kernel
theorem dX6_elbowsOf_0 : decode cX6_elbowsOf 0 = .ok (.aload_n 0, 1) := by decide +kernel
theorem dX6_elbowsOf_1 : decode cX6_elbowsOf 1 = .ok (.invokevirtual 139, 3) := by decide +kernel
theorem dX6_elbowsOf_4 : decode cX6_elbowsOf 4 = .ok (.aload_n 0, 1) := by decide +kernel
theorem dX6_elbowsOf_5 : decode cX6_elbowsOf 5 = .ok (.getfield 31, 3) := by decide +kernel
theorem dX6_elbowsOf_8 : decode cX6_elbowsOf 8 = .ok (.iload_n 1, 1) := by decide +kernel
theorem dX6_elbowsOf_9 : decode cX6_elbowsOf 9 = .ok (.iaload, 1) := by decide +kernel
theorem dX6_elbowsOf_10 : decode cX6_elbowsOf 10 = .ok (.ireturn, 1) := by decide +kernel
theorem dX6_elbows_0 : decode cX6_elbows 0 = .ok (.iload_n 1, 1) := by decide +kernel
theorem dX6_elbows_1 : decode cX6_elbows 1 = .ok (.invokestatic 148, 3) := by decide +kernel
theorem dX6_elbows_4 : decode cX6_elbows 4 = .ok (.ifCond .eq 11, 3) := by decide +kernel
theorem dX6_elbows_7 : decode cX6_elbows 7 = .ok (.aload_n 0, 1) := by decide +kernel
theorem dX6_elbows_8 : decode cX6_elbows 8 = .ok (.iload_n 1, 1) := by decide +kernel
theorem dX6_elbows_9 : decode cX6_elbows 9 = .ok (.invokevirtual 151, 3) := by decide +kernel
theorem dX6_elbows_12 : decode cX6_elbows 12 = .ok (.goto 5, 3) := by decide +kernel
theorem dX6_elbows_15 : decode cX6_elbows 15 = .ok (.bipush (-2), 2) := by decide +kernel
theorem dX6_elbows_17 : decode cX6_elbows 17 = .ok (.ireturn, 1) := by decide +kernel
theorem dX6_set_0 : decode cX6_set 0 = .ok (.iload_n 1, 1) := by decide +kernel
theorem dX6_set_1 : decode cX6_set 1 = .ok (.iconst 0, 1) := by decide +kernel
theorem dX6_set_2 : decode cX6_set 2 = .ok (.iconst 2, 1) := by decide +kernel
theorem dX6_set_3 : decode cX6_set 3 = .ok (.invokestatic 103, 3) := by decide +kernel
theorem dX6_set_6 : decode cX6_set 6 = .ok (.ifCond .eq 40, 3) := by decide +kernel
theorem dX6_set_9 : decode cX6_set 9 = .ok (.iload_n 2, 1) := by decide +kernel
theorem dX6_set_10 : decode cX6_set 10 = .ok (.iload_n 1, 1) := by decide +kernel
theorem dX6_set_11 : decode cX6_set 11 = .ok (.ifCond .ne 7, 3) := by decide +kernel
theorem dX6_set_14 : decode cX6_set 14 = .ok (.iconst 0, 1) := by decide +kernel
theorem dX6_set_15 : decode cX6_set 15 = .ok (.goto 4, 3) := by decide +kernel
theorem dX6_set_18 : decode cX6_set 18 = .ok (.iconst 1, 1) := by decide +kernel
theorem dX6_set_19 : decode cX6_set 19 = .ok (.iload_n 1, 1) := by decide +kernel
theorem dX6_set_20 : decode cX6_set 20 = .ok (.ifCond .ne 8, 3) := by decide +kernel
theorem dX6_set_23 : decode cX6_set 23 = .ok (.bipush 60, 2) := by decide +kernel
theorem dX6_set_25 : decode cX6_set 25 = .ok (.goto 15, 3) := by decide +kernel
theorem dX6_set_28 : decode cX6_set 28 = .ok (.iload_n 1, 1) := by decide +kernel
theorem dX6_set_29 : decode cX6_set 29 = .ok (.iconst 1, 1) := by decide +kernel
theorem dX6_set_30 : decode cX6_set 30 = .ok (.if_icmp .ne 8, 3) := by decide +kernel
theorem dX6_set_33 : decode cX6_set 33 = .ok (.bipush 99, 2) := by decide +kernel
theorem dX6_set_35 : decode cX6_set 35 = .ok (.goto 5, 3) := by decide +kernel
theorem dX6_set_38 : decode cX6_set 38 = .ok (.bipush 9, 2) := by decide +kernel
theorem dX6_set_40 : decode cX6_set 40 = .ok (.invokestatic 103, 3) := by decide +kernel
theorem dX6_set_43 : decode cX6_set 43 = .ok (.ifCond .ne 6, 3) := by decide +kernel
theorem dX6_set_46 : decode cX6_set 46 = .ok (.bipush (-2), 2) := by decide +kernel
theorem dX6_set_48 : decode cX6_set 48 = .ok (.ireturn, 1) := by decide +kernel
theorem dX6_set_49 : decode cX6_set 49 = .ok (.aload_n 0, 1) := by decide +kernel
theorem dX6_set_50 : decode cX6_set 50 = .ok (.getfield 34, 3) := by decide +kernel
theorem dX6_set_53 : decode cX6_set 53 = .ok (.iload_n 1, 1) := by decide +kernel
theorem dX6_set_54 : decode cX6_set 54 = .ok (.iaload, 1) := by decide +kernel
theorem dX6_set_55 : decode cX6_set 55 = .ok (.istore_n 3, 1) := by decide +kernel
theorem dX6_set_56 : decode cX6_set 56 = .ok (.aload_n 0, 1) := by decide +kernel
theorem dX6_set_57 : decode cX6_set 57 = .ok (.getfield 34, 3) := by decide +kernel
theorem dX6_set_60 : decode cX6_set 60 = .ok (.iload_n 1, 1) := by decide +kernel
theorem dX6_set_61 : decode cX6_set 61 = .ok (.iload_n 2, 1) := by decide +kernel
theorem dX6_set_62 : decode cX6_set 62 = .ok (.iastore, 1) := by decide +kernel
theorem dX6_set_63 : decode cX6_set 63 = .ok (.iload_n 3, 1) := by decide +kernel
theorem dX6_set_64 : decode cX6_set 64 = .ok (.ireturn, 1) := by decide +kernel
theorem dX6_leak_0 : decode cX6_leak 0 = .ok (.iload_n 1, 1) := by decide +kernel
theorem dX6_leak_1 : decode cX6_leak 1 = .ok (.invokestatic 148, 3) := by decide +kernel
theorem dX6_leak_4 : decode cX6_leak 4 = .ok (.ifCond .eq 20, 3) := by decide +kernel
theorem dX6_leak_7 : decode cX6_leak 7 = .ok (.iload_n 2, 1) := by decide +kernel
theorem dX6_leak_8 : decode cX6_leak 8 = .ok (.iconst 1, 1) := by decide +kernel
theorem dX6_leak_9 : decode cX6_leak 9 = .ok (.bipush 9, 2) := by decide +kernel
theorem dX6_leak_11 : decode cX6_leak 11 = .ok (.invokestatic 103, 3) := by decide +kernel
theorem dX6_leak_14 : decode cX6_leak 14 = .ok (.ifCond .eq 10, 3) := by decide +kernel
theorem dX6_leak_17 : decode cX6_leak 17 = .ok (.iload_n 3, 1) := by decide +kernel
theorem dX6_leak_18 : decode cX6_leak 18 = .ok (.invokestatic 148, 3) := by decide +kernel
theorem dX6_leak_21 : decode cX6_leak 21 = .ok (.ifCond .ne 6, 3) := by decide +kernel
theorem dX6_leak_24 : decode cX6_leak 24 = .ok (.bipush (-2), 2) := by decide +kernel
theorem dX6_leak_26 : decode cX6_leak 26 = .ok (.ireturn, 1) := by decide +kernel
theorem dX6_leak_27 : decode cX6_leak 27 = .ok (.aload_n 0, 1) := by decide +kernel
theorem dX6_leak_28 : decode cX6_leak 28 = .ok (.getfield 154, 3) := by decide +kernel
theorem dX6_leak_31 : decode cX6_leak 31 = .ok (.bipush 6, 2) := by decide +kernel
theorem dX6_leak_33 : decode cX6_leak 33 = .ok (.if_icmp .ne 6, 3) := by decide +kernel
theorem dX6_leak_36 : decode cX6_leak 36 = .ok (.bipush (-4), 2) := by decide +kernel
theorem dX6_leak_38 : decode cX6_leak 38 = .ok (.ireturn, 1) := by decide +kernel
theorem dX6_leak_39 : decode cX6_leak 39 = .ok (.aload_n 0, 1) := by decide +kernel
theorem dX6_leak_40 : decode cX6_leak 40 = .ok (.getfield 37, 3) := by decide +kernel
theorem dX6_leak_43 : decode cX6_leak 43 = .ok (.aload_n 0, 1) := by decide +kernel
theorem dX6_leak_44 : decode cX6_leak 44 = .ok (.getfield 154, 3) := by decide +kernel
theorem dX6_leak_47 : decode cX6_leak 47 = .ok (.iload_n 1, 1) := by decide +kernel
theorem dX6_leak_48 : decode cX6_leak 48 = .ok (.iastore, 1) := by decide +kernel
theorem dX6_leak_49 : decode cX6_leak 49 = .ok (.aload_n 0, 1) := by decide +kernel
theorem dX6_leak_50 : decode cX6_leak 50 = .ok (.getfield 40, 3) := by decide +kernel
theorem dX6_leak_53 : decode cX6_leak 53 = .ok (.aload_n 0, 1) := by decide +kernel
theorem dX6_leak_54 : decode cX6_leak 54 = .ok (.getfield 154, 3) := by decide +kernel
theorem dX6_leak_57 : decode cX6_leak 57 = .ok (.iload_n 2, 1) := by decide +kernel
theorem dX6_leak_58 : decode cX6_leak 58 = .ok (.iastore, 1) := by decide +kernel
theorem dX6_leak_59 : decode cX6_leak 59 = .ok (.aload_n 0, 1) := by decide +kernel
theorem dX6_leak_60 : decode cX6_leak 60 = .ok (.getfield 43, 3) := by decide +kernel
theorem dX6_leak_63 : decode cX6_leak 63 = .ok (.aload_n 0, 1) := by decide +kernel
theorem dX6_leak_64 : decode cX6_leak 64 = .ok (.getfield 154, 3) := by decide +kernel
theorem dX6_leak_67 : decode cX6_leak 67 = .ok (.iload_n 3, 1) := by decide +kernel
theorem dX6_leak_68 : decode cX6_leak 68 = .ok (.iastore, 1) := by decide +kernel
theorem dX6_leak_69 : decode cX6_leak 69 = .ok (.aload_n 0, 1) := by decide +kernel
theorem dX6_leak_70 : decode cX6_leak 70 = .ok (.dup, 1) := by decide +kernel
theorem dX6_leak_71 : decode cX6_leak 71 = .ok (.getfield 154, 3) := by decide +kernel
theorem dX6_leak_74 : decode cX6_leak 74 = .ok (.iconst 1, 1) := by decide +kernel
theorem dX6_leak_75 : decode cX6_leak 75 = .ok (.iadd, 1) := by decide +kernel
theorem dX6_leak_76 : decode cX6_leak 76 = .ok (.putfield 154, 3) := by decide +kernel
theorem dX6_leak_79 : decode cX6_leak 79 = .ok (.aload_n 0, 1) := by decide +kernel
theorem dX6_leak_80 : decode cX6_leak 80 = .ok (.getfield 154, 3) := by decide +kernel
theorem dX6_leak_83 : decode cX6_leak 83 = .ok (.ireturn, 1) := by decide +kernel
theorem dX6_pinch_0 : decode cX6_pinch 0 = .ok (.iload_n 1, 1) := by decide +kernel
theorem dX6_pinch_1 : decode cX6_pinch 1 = .ok (.invokestatic 148, 3) := by decide +kernel
theorem dX6_pinch_4 : decode cX6_pinch 4 = .ok (.ifCond .eq 13, 3) := by decide +kernel
theorem dX6_pinch_7 : decode cX6_pinch 7 = .ok (.iload_n 2, 1) := by decide +kernel
theorem dX6_pinch_8 : decode cX6_pinch 8 = .ok (.iconst 0, 1) := by decide +kernel
theorem dX6_pinch_9 : decode cX6_pinch 9 = .ok (.bipush 7, 2) := by decide +kernel
theorem dX6_pinch_11 : decode cX6_pinch 11 = .ok (.invokestatic 103, 3) := by decide +kernel
theorem dX6_pinch_14 : decode cX6_pinch 14 = .ok (.ifCond .ne 6, 3) := by decide +kernel
theorem dX6_pinch_17 : decode cX6_pinch 17 = .ok (.bipush (-2), 2) := by decide +kernel
theorem dX6_pinch_19 : decode cX6_pinch 19 = .ok (.ireturn, 1) := by decide +kernel
theorem dX6_pinch_20 : decode cX6_pinch 20 = .ok (.aload_n 0, 1) := by decide +kernel
theorem dX6_pinch_21 : decode cX6_pinch 21 = .ok (.getfield 157, 3) := by decide +kernel
theorem dX6_pinch_24 : decode cX6_pinch 24 = .ok (.bipush 6, 2) := by decide +kernel
theorem dX6_pinch_26 : decode cX6_pinch 26 = .ok (.if_icmp .ne 6, 3) := by decide +kernel
theorem dX6_pinch_29 : decode cX6_pinch 29 = .ok (.bipush (-4), 2) := by decide +kernel
theorem dX6_pinch_31 : decode cX6_pinch 31 = .ok (.ireturn, 1) := by decide +kernel
theorem dX6_pinch_32 : decode cX6_pinch 32 = .ok (.aload_n 0, 1) := by decide +kernel
theorem dX6_pinch_33 : decode cX6_pinch 33 = .ok (.getfield 46, 3) := by decide +kernel
theorem dX6_pinch_36 : decode cX6_pinch 36 = .ok (.aload_n 0, 1) := by decide +kernel
theorem dX6_pinch_37 : decode cX6_pinch 37 = .ok (.getfield 157, 3) := by decide +kernel
theorem dX6_pinch_40 : decode cX6_pinch 40 = .ok (.iload_n 1, 1) := by decide +kernel
theorem dX6_pinch_41 : decode cX6_pinch 41 = .ok (.iastore, 1) := by decide +kernel
theorem dX6_pinch_42 : decode cX6_pinch 42 = .ok (.aload_n 0, 1) := by decide +kernel
theorem dX6_pinch_43 : decode cX6_pinch 43 = .ok (.getfield 49, 3) := by decide +kernel
theorem dX6_pinch_46 : decode cX6_pinch 46 = .ok (.aload_n 0, 1) := by decide +kernel
theorem dX6_pinch_47 : decode cX6_pinch 47 = .ok (.getfield 157, 3) := by decide +kernel
theorem dX6_pinch_50 : decode cX6_pinch 50 = .ok (.iload_n 2, 1) := by decide +kernel
theorem dX6_pinch_51 : decode cX6_pinch 51 = .ok (.iastore, 1) := by decide +kernel
theorem dX6_pinch_52 : decode cX6_pinch 52 = .ok (.aload_n 0, 1) := by decide +kernel
theorem dX6_pinch_53 : decode cX6_pinch 53 = .ok (.dup, 1) := by decide +kernel
theorem dX6_pinch_54 : decode cX6_pinch 54 = .ok (.getfield 157, 3) := by decide +kernel
theorem dX6_pinch_57 : decode cX6_pinch 57 = .ok (.iconst 1, 1) := by decide +kernel
theorem dX6_pinch_58 : decode cX6_pinch 58 = .ok (.iadd, 1) := by decide +kernel
theorem dX6_pinch_59 : decode cX6_pinch 59 = .ok (.putfield 157, 3) := by decide +kernel
theorem dX6_pinch_62 : decode cX6_pinch 62 = .ok (.aload_n 0, 1) := by decide +kernel
theorem dX6_pinch_63 : decode cX6_pinch 63 = .ok (.getfield 157, 3) := by decide +kernel
theorem dX6_pinch_66 : decode cX6_pinch 66 = .ok (.ireturn, 1) := by decide +kernel
theorem dX6_back_0 : decode cX6_back 0 = .ok (.iload_n 1, 1) := by decide +kernel
theorem dX6_back_1 : decode cX6_back 1 = .ok (.iconst 0, 1) := by decide +kernel
theorem dX6_back_2 : decode cX6_back 2 = .ok (.iconst 1, 1) := by decide +kernel
theorem dX6_back_3 : decode cX6_back 3 = .ok (.invokestatic 103, 3) := by decide +kernel
theorem dX6_back_6 : decode cX6_back 6 = .ok (.ifCond .ne 6, 3) := by decide +kernel
theorem dX6_back_9 : decode cX6_back 9 = .ok (.bipush (-2), 2) := by decide +kernel
theorem dX6_back_11 : decode cX6_back 11 = .ok (.ireturn, 1) := by decide +kernel
theorem dX6_back_12 : decode cX6_back 12 = .ok (.iload_n 1, 1) := by decide +kernel
theorem dX6_back_13 : decode cX6_back 13 = .ok (.ifCond .ne 10, 3) := by decide +kernel
theorem dX6_back_16 : decode cX6_back 16 = .ok (.aload_n 0, 1) := by decide +kernel
theorem dX6_back_17 : decode cX6_back 17 = .ok (.getfield 154, 3) := by decide +kernel
theorem dX6_back_20 : decode cX6_back 20 = .ok (.goto 7, 3) := by decide +kernel
theorem dX6_back_23 : decode cX6_back 23 = .ok (.aload_n 0, 1) := by decide +kernel
theorem dX6_back_24 : decode cX6_back 24 = .ok (.getfield 157, 3) := by decide +kernel
theorem dX6_back_27 : decode cX6_back 27 = .ok (.istore_n 2, 1) := by decide +kernel
theorem dX6_back_28 : decode cX6_back 28 = .ok (.iload_n 2, 1) := by decide +kernel
theorem dX6_back_29 : decode cX6_back 29 = .ok (.ifCond .ne 6, 3) := by decide +kernel
theorem dX6_back_32 : decode cX6_back 32 = .ok (.bipush (-3), 2) := by decide +kernel
theorem dX6_back_34 : decode cX6_back 34 = .ok (.ireturn, 1) := by decide +kernel
theorem dX6_back_35 : decode cX6_back 35 = .ok (.aload_n 0, 1) := by decide +kernel
theorem dX6_back_36 : decode cX6_back 36 = .ok (.dup, 1) := by decide +kernel
theorem dX6_back_37 : decode cX6_back 37 = .ok (.getfield 154, 3) := by decide +kernel
theorem dX6_back_40 : decode cX6_back 40 = .ok (.iload_n 1, 1) := by decide +kernel
theorem dX6_back_41 : decode cX6_back 41 = .ok (.ifCond .ne 7, 3) := by decide +kernel
theorem dX6_back_44 : decode cX6_back 44 = .ok (.iconst 1, 1) := by decide +kernel
theorem dX6_back_45 : decode cX6_back 45 = .ok (.goto 4, 3) := by decide +kernel
theorem dX6_back_48 : decode cX6_back 48 = .ok (.iconst 0, 1) := by decide +kernel
theorem dX6_back_49 : decode cX6_back 49 = .ok (.isub, 1) := by decide +kernel
theorem dX6_back_50 : decode cX6_back 50 = .ok (.putfield 154, 3) := by decide +kernel
theorem dX6_back_53 : decode cX6_back 53 = .ok (.aload_n 0, 1) := by decide +kernel
theorem dX6_back_54 : decode cX6_back 54 = .ok (.dup, 1) := by decide +kernel
theorem dX6_back_55 : decode cX6_back 55 = .ok (.getfield 157, 3) := by decide +kernel
theorem dX6_back_58 : decode cX6_back 58 = .ok (.iload_n 1, 1) := by decide +kernel
theorem dX6_back_59 : decode cX6_back 59 = .ok (.iconst 1, 1) := by decide +kernel
theorem dX6_back_60 : decode cX6_back 60 = .ok (.if_icmp .ne 7, 3) := by decide +kernel
theorem dX6_back_63 : decode cX6_back 63 = .ok (.iconst 1, 1) := by decide +kernel
theorem dX6_back_64 : decode cX6_back 64 = .ok (.goto 4, 3) := by decide +kernel
theorem dX6_back_67 : decode cX6_back 67 = .ok (.iconst 0, 1) := by decide +kernel
theorem dX6_back_68 : decode cX6_back 68 = .ok (.isub, 1) := by decide +kernel
theorem dX6_back_69 : decode cX6_back 69 = .ok (.putfield 157, 3) := by decide +kernel
theorem dX6_back_72 : decode cX6_back 72 = .ok (.iload_n 2, 1) := by decide +kernel
theorem dX6_back_73 : decode cX6_back 73 = .ok (.iconst 1, 1) := by decide +kernel
theorem dX6_back_74 : decode cX6_back 74 = .ok (.isub, 1) := by decide +kernel
theorem dX6_back_75 : decode cX6_back 75 = .ok (.ireturn, 1) := by decide +kernel
theorem dX6_read_0 : decode cX6_read 0 = .ok (.iload_n 1, 1) := by decide +kernel
theorem dX6_read_1 : decode cX6_read 1 = .ok (.invokestatic 160, 3) := by decide +kernel
theorem dX6_read_4 : decode cX6_read 4 = .ok (.ifCond .ne 6, 3) := by decide +kernel
theorem dX6_read_7 : decode cX6_read 7 = .ok (.bipush (-2), 2) := by decide +kernel
theorem dX6_read_9 : decode cX6_read 9 = .ok (.ireturn, 1) := by decide +kernel
theorem dX6_read_10 : decode cX6_read 10 = .ok (.aload_n 0, 1) := by decide +kernel
theorem dX6_read_11 : decode cX6_read 11 = .ok (.getfield 85, 3) := by decide +kernel
theorem dX6_read_14 : decode cX6_read 14 = .ok (.iload_n 1, 1) := by decide +kernel
theorem dX6_read_15 : decode cX6_read 15 = .ok (.baload, 1) := by decide +kernel
theorem dX6_read_16 : decode cX6_read 16 = .ok (.ifCond .ne 9, 3) := by decide +kernel
theorem dX6_read_19 : decode cX6_read 19 = .ok (.aload_n 0, 1) := by decide +kernel
theorem dX6_read_20 : decode cX6_read 20 = .ok (.iconst 1, 1) := by decide +kernel
theorem dX6_read_21 : decode cX6_read 21 = .ok (.invokevirtual 163, 3) := by decide +kernel
theorem dX6_read_24 : decode cX6_read 24 = .ok (.ireturn, 1) := by decide +kernel
theorem dX6_read_25 : decode cX6_read 25 = .ok (.iconst 0, 1) := by decide +kernel
theorem dX6_read_26 : decode cX6_read 26 = .ok (.istore_n 2, 1) := by decide +kernel
theorem dX6_read_27 : decode cX6_read 27 = .ok (.iconst 2, 1) := by decide +kernel
theorem dX6_read_28 : decode cX6_read 28 = .ok (.iload_n 2, 1) := by decide +kernel
theorem dX6_read_29 : decode cX6_read 29 = .ok (.imul, 1) := by decide +kernel
theorem dX6_read_30 : decode cX6_read 30 = .ok (.iconst 1, 1) := by decide +kernel
theorem dX6_read_31 : decode cX6_read 31 = .ok (.iadd, 1) := by decide +kernel
theorem dX6_read_32 : decode cX6_read 32 = .ok (.aload_n 0, 1) := by decide +kernel
theorem dX6_read_33 : decode cX6_read 33 = .ok (.getfield 92, 3) := by decide +kernel
theorem dX6_read_36 : decode cX6_read 36 = .ok (.iload_n 1, 1) := by decide +kernel
theorem dX6_read_37 : decode cX6_read 37 = .ok (.iaload, 1) := by decide +kernel
theorem dX6_read_38 : decode cX6_read 38 = .ok (.if_icmp .ge 44, 3) := by decide +kernel
theorem dX6_read_41 : decode cX6_read 41 = .ok (.aload_n 0, 1) := by decide +kernel
theorem dX6_read_42 : decode cX6_read 42 = .ok (.aload_n 0, 1) := by decide +kernel
theorem dX6_read_43 : decode cX6_read 43 = .ok (.getfield 95, 3) := by decide +kernel
theorem dX6_read_46 : decode cX6_read 46 = .ok (.bipush 60, 2) := by decide +kernel
theorem dX6_read_48 : decode cX6_read 48 = .ok (.iload_n 1, 1) := by decide +kernel
theorem dX6_read_49 : decode cX6_read 49 = .ok (.imul, 1) := by decide +kernel
theorem dX6_read_50 : decode cX6_read 50 = .ok (.iconst 2, 1) := by decide +kernel
theorem dX6_read_51 : decode cX6_read 51 = .ok (.iload_n 2, 1) := by decide +kernel
theorem dX6_read_52 : decode cX6_read 52 = .ok (.imul, 1) := by decide +kernel
theorem dX6_read_53 : decode cX6_read 53 = .ok (.iadd, 1) := by decide +kernel
theorem dX6_read_54 : decode cX6_read 54 = .ok (.iaload, 1) := by decide +kernel
theorem dX6_read_55 : decode cX6_read 55 = .ok (.aload_n 0, 1) := by decide +kernel
theorem dX6_read_56 : decode cX6_read 56 = .ok (.getfield 95, 3) := by decide +kernel
theorem dX6_read_59 : decode cX6_read 59 = .ok (.bipush 60, 2) := by decide +kernel
theorem dX6_read_61 : decode cX6_read 61 = .ok (.iload_n 1, 1) := by decide +kernel
theorem dX6_read_62 : decode cX6_read 62 = .ok (.imul, 1) := by decide +kernel
theorem dX6_read_63 : decode cX6_read 63 = .ok (.iconst 2, 1) := by decide +kernel
theorem dX6_read_64 : decode cX6_read 64 = .ok (.iload_n 2, 1) := by decide +kernel
theorem dX6_read_65 : decode cX6_read 65 = .ok (.imul, 1) := by decide +kernel
theorem dX6_read_66 : decode cX6_read 66 = .ok (.iadd, 1) := by decide +kernel
theorem dX6_read_67 : decode cX6_read 67 = .ok (.iconst 1, 1) := by decide +kernel
theorem dX6_read_68 : decode cX6_read 68 = .ok (.iadd, 1) := by decide +kernel
theorem dX6_read_69 : decode cX6_read 69 = .ok (.iaload, 1) := by decide +kernel
theorem dX6_read_70 : decode cX6_read 70 = .ok (.invokevirtual 166, 3) := by decide +kernel
theorem dX6_read_73 : decode cX6_read 73 = .ok (.ifCond .le 9, 3) := by decide +kernel
theorem dX6_read_76 : decode cX6_read 76 = .ok (.iinc 2 1, 3) := by decide +kernel
theorem dX6_read_79 : decode cX6_read 79 = .ok (.goto (-52), 3) := by decide +kernel
theorem dX6_read_82 : decode cX6_read 82 = .ok (.iload_n 2, 1) := by decide +kernel
theorem dX6_read_83 : decode cX6_read 83 = .ok (.ireturn, 1) := by decide +kernel
theorem dX6_asTold_0 : decode cX6_asTold 0 = .ok (.aload_n 0, 1) := by decide +kernel
theorem dX6_asTold_1 : decode cX6_asTold 1 = .ok (.invokevirtual 139, 3) := by decide +kernel
theorem dX6_asTold_4 : decode cX6_asTold 4 = .ok (.iconst 0, 1) := by decide +kernel
theorem dX6_asTold_5 : decode cX6_asTold 5 = .ok (.istore_n 1, 1) := by decide +kernel
theorem dX6_asTold_6 : decode cX6_asTold 6 = .ok (.iload_n 1, 1) := by decide +kernel
theorem dX6_asTold_7 : decode cX6_asTold 7 = .ok (.bipush 40, 2) := by decide +kernel
theorem dX6_asTold_9 : decode cX6_asTold 9 = .ok (.if_icmp .ge 21, 3) := by decide +kernel
theorem dX6_asTold_12 : decode cX6_asTold 12 = .ok (.aload_n 0, 1) := by decide +kernel
theorem dX6_asTold_13 : decode cX6_asTold 13 = .ok (.getfield 52, 3) := by decide +kernel
theorem dX6_asTold_16 : decode cX6_asTold 16 = .ok (.iload_n 1, 1) := by decide +kernel
theorem dX6_asTold_17 : decode cX6_asTold 17 = .ok (.aload_n 0, 1) := by decide +kernel
theorem dX6_asTold_18 : decode cX6_asTold 18 = .ok (.getfield 31, 3) := by decide +kernel
theorem dX6_asTold_21 : decode cX6_asTold 21 = .ok (.iload_n 1, 1) := by decide +kernel
theorem dX6_asTold_22 : decode cX6_asTold 22 = .ok (.iaload, 1) := by decide +kernel
theorem dX6_asTold_23 : decode cX6_asTold 23 = .ok (.iastore, 1) := by decide +kernel
theorem dX6_asTold_24 : decode cX6_asTold 24 = .ok (.iinc 1 1, 3) := by decide +kernel
theorem dX6_asTold_27 : decode cX6_asTold 27 = .ok (.goto (-21), 3) := by decide +kernel
theorem dX6_asTold_30 : decode cX6_asTold 30 = .ok (.aload_n 0, 1) := by decide +kernel
theorem dX6_asTold_31 : decode cX6_asTold 31 = .ok (.iconst 0, 1) := by decide +kernel
theorem dX6_asTold_32 : decode cX6_asTold 32 = .ok (.putfield 169, 3) := by decide +kernel
theorem dX6_asTold_35 : decode cX6_asTold 35 = .ok (.aload_n 0, 1) := by decide +kernel
theorem dX6_asTold_36 : decode cX6_asTold 36 = .ok (.iconst 0, 1) := by decide +kernel
theorem dX6_asTold_37 : decode cX6_asTold 37 = .ok (.putfield 172, 3) := by decide +kernel
theorem dX6_asTold_40 : decode cX6_asTold 40 = .ok (.aload_n 0, 1) := by decide +kernel
theorem dX6_asTold_41 : decode cX6_asTold 41 = .ok (.iconst (-1), 1) := by decide +kernel
theorem dX6_asTold_42 : decode cX6_asTold 42 = .ok (.putfield 175, 3) := by decide +kernel
theorem dX6_asTold_45 : decode cX6_asTold 45 = .ok (.aload_n 0, 1) := by decide +kernel
theorem dX6_asTold_46 : decode cX6_asTold 46 = .ok (.aload_n 0, 1) := by decide +kernel
theorem dX6_asTold_47 : decode cX6_asTold 47 = .ok (.getfield 34, 3) := by decide +kernel
theorem dX6_asTold_50 : decode cX6_asTold 50 = .ok (.iconst 0, 1) := by decide +kernel
theorem dX6_asTold_51 : decode cX6_asTold 51 = .ok (.iaload, 1) := by decide +kernel
theorem dX6_asTold_52 : decode cX6_asTold 52 = .ok (.putfield 178, 3) := by decide +kernel
theorem dX6_asTold_55 : decode cX6_asTold 55 = .ok (.return_, 1) := by decide +kernel
theorem dX6_doneIn_0 : decode cX6_doneIn 0 = .ok (.aload_n 0, 1) := by decide +kernel
theorem dX6_doneIn_1 : decode cX6_doneIn 1 = .ok (.getfield 28, 3) := by decide +kernel
theorem dX6_doneIn_4 : decode cX6_doneIn 4 = .ok (.iconst 3, 1) := by decide +kernel
theorem dX6_doneIn_5 : decode cX6_doneIn 5 = .ok (.iload_n 1, 1) := by decide +kernel
theorem dX6_doneIn_6 : decode cX6_doneIn 6 = .ok (.imul, 1) := by decide +kernel
theorem dX6_doneIn_7 : decode cX6_doneIn 7 = .ok (.iload_n 2, 1) := by decide +kernel
theorem dX6_doneIn_8 : decode cX6_doneIn 8 = .ok (.aload_n 0, 1) := by decide +kernel
theorem dX6_doneIn_9 : decode cX6_doneIn 9 = .ok (.getfield 25, 3) := by decide +kernel
theorem dX6_doneIn_12 : decode cX6_doneIn 12 = .ok (.iload_n 1, 1) := by decide +kernel
theorem dX6_doneIn_13 : decode cX6_doneIn 13 = .ok (.iaload, 1) := by decide +kernel
theorem dX6_doneIn_14 : decode cX6_doneIn 14 = .ok (.irem, 1) := by decide +kernel
theorem dX6_doneIn_15 : decode cX6_doneIn 15 = .ok (.iadd, 1) := by decide +kernel
theorem dX6_doneIn_16 : decode cX6_doneIn 16 = .ok (.iaload, 1) := by decide +kernel
theorem dX6_doneIn_17 : decode cX6_doneIn 17 = .ok (.ireturn, 1) := by decide +kernel
theorem dX6_needs_0 : decode cX6_needs 0 = .ok (.iconst 1, 1) := by decide +kernel
theorem dX6_needs_1 : decode cX6_needs 1 = .ok (.aload_n 0, 1) := by decide +kernel
theorem dX6_needs_2 : decode cX6_needs 2 = .ok (.iload_n 1, 1) := by decide +kernel
theorem dX6_needs_3 : decode cX6_needs 3 = .ok (.iload_n 2, 1) := by decide +kernel
theorem dX6_needs_4 : decode cX6_needs 4 = .ok (.invokevirtual 181, 3) := by decide +kernel
theorem dX6_needs_7 : decode cX6_needs 7 = .ok (.ishl, 1) := by decide +kernel
theorem dX6_needs_8 : decode cX6_needs 8 = .ok (.ireturn, 1) := by decide +kernel
theorem dX6_leaking_0 : decode cX6_leaking 0 = .ok (.iconst 0, 1) := by decide +kernel
theorem dX6_leaking_1 : decode cX6_leaking 1 = .ok (.istore_n 2, 1) := by decide +kernel
theorem dX6_leaking_2 : decode cX6_leaking 2 = .ok (.iconst 0, 1) := by decide +kernel
theorem dX6_leaking_3 : decode cX6_leaking 3 = .ok (.istore_n 3, 1) := by decide +kernel
theorem dX6_leaking_4 : decode cX6_leaking 4 = .ok (.iload_n 3, 1) := by decide +kernel
theorem dX6_leaking_5 : decode cX6_leaking 5 = .ok (.aload_n 0, 1) := by decide +kernel
theorem dX6_leaking_6 : decode cX6_leaking 6 = .ok (.getfield 154, 3) := by decide +kernel
theorem dX6_leaking_9 : decode cX6_leaking 9 = .ok (.if_icmp .ge 80, 3) := by decide +kernel
theorem dX6_leaking_12 : decode cX6_leaking 12 = .ok (.iload_n 1, 1) := by decide +kernel
theorem dX6_leaking_13 : decode cX6_leaking 13 = .ok (.aload_n 0, 1) := by decide +kernel
theorem dX6_leaking_14 : decode cX6_leaking 14 = .ok (.getfield 37, 3) := by decide +kernel
theorem dX6_leaking_17 : decode cX6_leaking 17 = .ok (.iload_n 3, 1) := by decide +kernel
theorem dX6_leaking_18 : decode cX6_leaking 18 = .ok (.iaload, 1) := by decide +kernel
theorem dX6_leaking_19 : decode cX6_leaking 19 = .ok (.if_icmp .lt 32, 3) := by decide +kernel
theorem dX6_leaking_22 : decode cX6_leaking 22 = .ok (.aload_n 0, 1) := by decide +kernel
theorem dX6_leaking_23 : decode cX6_leaking 23 = .ok (.getfield 43, 3) := by decide +kernel
theorem dX6_leaking_26 : decode cX6_leaking 26 = .ok (.iload_n 3, 1) := by decide +kernel
theorem dX6_leaking_27 : decode cX6_leaking 27 = .ok (.iaload, 1) := by decide +kernel
theorem dX6_leaking_28 : decode cX6_leaking 28 = .ok (.aload_n 0, 1) := by decide +kernel
theorem dX6_leaking_29 : decode cX6_leaking 29 = .ok (.getfield 37, 3) := by decide +kernel
theorem dX6_leaking_32 : decode cX6_leaking 32 = .ok (.iload_n 3, 1) := by decide +kernel
theorem dX6_leaking_33 : decode cX6_leaking 33 = .ok (.iaload, 1) := by decide +kernel
theorem dX6_leaking_34 : decode cX6_leaking 34 = .ok (.if_icmp .le 13, 3) := by decide +kernel
theorem dX6_leaking_37 : decode cX6_leaking 37 = .ok (.iload_n 1, 1) := by decide +kernel
theorem dX6_leaking_38 : decode cX6_leaking 38 = .ok (.aload_n 0, 1) := by decide +kernel
theorem dX6_leaking_39 : decode cX6_leaking 39 = .ok (.getfield 43, 3) := by decide +kernel
theorem dX6_leaking_42 : decode cX6_leaking 42 = .ok (.iload_n 3, 1) := by decide +kernel
theorem dX6_leaking_43 : decode cX6_leaking 43 = .ok (.iaload, 1) := by decide +kernel
theorem dX6_leaking_44 : decode cX6_leaking 44 = .ok (.if_icmp .ge 7, 3) := by decide +kernel
theorem dX6_leaking_47 : decode cX6_leaking 47 = .ok (.iconst 1, 1) := by decide +kernel
theorem dX6_leaking_48 : decode cX6_leaking 48 = .ok (.goto 4, 3) := by decide +kernel
theorem dX6_leaking_51 : decode cX6_leaking 51 = .ok (.iconst 0, 1) := by decide +kernel
theorem dX6_leaking_52 : decode cX6_leaking 52 = .ok (.istore 4, 2) := by decide +kernel
theorem dX6_leaking_54 : decode cX6_leaking 54 = .ok (.iload_n 2, 1) := by decide +kernel
theorem dX6_leaking_55 : decode cX6_leaking 55 = .ok (.iload 4, 2) := by decide +kernel
theorem dX6_leaking_57 : decode cX6_leaking 57 = .ok (.ifCond .eq 23, 3) := by decide +kernel
theorem dX6_leaking_60 : decode cX6_leaking 60 = .ok (.aload_n 0, 1) := by decide +kernel
theorem dX6_leaking_61 : decode cX6_leaking 61 = .ok (.getfield 169, 3) := by decide +kernel
theorem dX6_leaking_64 : decode cX6_leaking 64 = .ok (.iload_n 3, 1) := by decide +kernel
theorem dX6_leaking_65 : decode cX6_leaking 65 = .ok (.invokestatic 184, 3) := by decide +kernel
theorem dX6_leaking_68 : decode cX6_leaking 68 = .ok (.ifCond .ne 12, 3) := by decide +kernel
theorem dX6_leaking_71 : decode cX6_leaking 71 = .ok (.aload_n 0, 1) := by decide +kernel
theorem dX6_leaking_72 : decode cX6_leaking 72 = .ok (.getfield 40, 3) := by decide +kernel
theorem dX6_leaking_75 : decode cX6_leaking 75 = .ok (.iload_n 3, 1) := by decide +kernel
theorem dX6_leaking_76 : decode cX6_leaking 76 = .ok (.iaload, 1) := by decide +kernel
theorem dX6_leaking_77 : decode cX6_leaking 77 = .ok (.goto 4, 3) := by decide +kernel
theorem dX6_leaking_80 : decode cX6_leaking 80 = .ok (.iconst 0, 1) := by decide +kernel
theorem dX6_leaking_81 : decode cX6_leaking 81 = .ok (.iadd, 1) := by decide +kernel
theorem dX6_leaking_82 : decode cX6_leaking 82 = .ok (.istore_n 2, 1) := by decide +kernel
theorem dX6_leaking_83 : decode cX6_leaking 83 = .ok (.iinc 3 1, 3) := by decide +kernel
theorem dX6_leaking_86 : decode cX6_leaking 86 = .ok (.goto (-82), 3) := by decide +kernel
theorem dX6_leaking_89 : decode cX6_leaking 89 = .ok (.iload_n 2, 1) := by decide +kernel
theorem dX6_leaking_90 : decode cX6_leaking 90 = .ok (.ireturn, 1) := by decide +kernel
theorem dX6_opens_0 : decode cX6_opens 0 = .ok (.iconst 0, 1) := by decide +kernel
theorem dX6_opens_1 : decode cX6_opens 1 = .ok (.istore_n 2, 1) := by decide +kernel
theorem dX6_opens_2 : decode cX6_opens 2 = .ok (.iload_n 2, 1) := by decide +kernel
theorem dX6_opens_3 : decode cX6_opens 3 = .ok (.aload_n 0, 1) := by decide +kernel
theorem dX6_opens_4 : decode cX6_opens 4 = .ok (.getfield 118, 3) := by decide +kernel
theorem dX6_opens_7 : decode cX6_opens 7 = .ok (.if_icmp .ge 33, 3) := by decide +kernel
theorem dX6_opens_10 : decode cX6_opens 10 = .ok (.aload_n 0, 1) := by decide +kernel
theorem dX6_opens_11 : decode cX6_opens 11 = .ok (.getfield 55, 3) := by decide +kernel
theorem dX6_opens_14 : decode cX6_opens 14 = .ok (.iload_n 2, 1) := by decide +kernel
theorem dX6_opens_15 : decode cX6_opens 15 = .ok (.iload_n 2, 1) := by decide +kernel
theorem dX6_opens_16 : decode cX6_opens 16 = .ok (.aload_n 0, 1) := by decide +kernel
theorem dX6_opens_17 : decode cX6_opens 17 = .ok (.getfield 175, 3) := by decide +kernel
theorem dX6_opens_20 : decode cX6_opens 20 = .ok (.if_icmp .ne 7, 3) := by decide +kernel
theorem dX6_opens_23 : decode cX6_opens 23 = .ok (.iconst 0, 1) := by decide +kernel
theorem dX6_opens_24 : decode cX6_opens 24 = .ok (.goto 9, 3) := by decide +kernel
theorem dX6_opens_27 : decode cX6_opens 27 = .ok (.aload_n 0, 1) := by decide +kernel
theorem dX6_opens_28 : decode cX6_opens 28 = .ok (.getfield 22, 3) := by decide +kernel
theorem dX6_opens_31 : decode cX6_opens 31 = .ok (.iload_n 2, 1) := by decide +kernel
theorem dX6_opens_32 : decode cX6_opens 32 = .ok (.iaload, 1) := by decide +kernel
theorem dX6_opens_33 : decode cX6_opens 33 = .ok (.iastore, 1) := by decide +kernel
theorem dX6_opens_34 : decode cX6_opens 34 = .ok (.iinc 2 1, 3) := by decide +kernel
theorem dX6_opens_37 : decode cX6_opens 37 = .ok (.goto (-35), 3) := by decide +kernel
theorem dX6_opens_40 : decode cX6_opens 40 = .ok (.iconst 0, 1) := by decide +kernel
theorem dX6_opens_41 : decode cX6_opens 41 = .ok (.istore_n 2, 1) := by decide +kernel
theorem dX6_opens_42 : decode cX6_opens 42 = .ok (.iload_n 2, 1) := by decide +kernel
theorem dX6_opens_43 : decode cX6_opens 43 = .ok (.aload_n 0, 1) := by decide +kernel
theorem dX6_opens_44 : decode cX6_opens 44 = .ok (.getfield 157, 3) := by decide +kernel
theorem dX6_opens_47 : decode cX6_opens 47 = .ok (.if_icmp .ge 55, 3) := by decide +kernel
theorem dX6_opens_50 : decode cX6_opens 50 = .ok (.aload_n 0, 1) := by decide +kernel
theorem dX6_opens_51 : decode cX6_opens 51 = .ok (.getfield 46, 3) := by decide +kernel
theorem dX6_opens_54 : decode cX6_opens 54 = .ok (.iload_n 2, 1) := by decide +kernel
theorem dX6_opens_55 : decode cX6_opens 55 = .ok (.iaload, 1) := by decide +kernel
theorem dX6_opens_56 : decode cX6_opens 56 = .ok (.iload_n 1, 1) := by decide +kernel
theorem dX6_opens_57 : decode cX6_opens 57 = .ok (.if_icmp .ne 39, 3) := by decide +kernel
theorem dX6_opens_60 : decode cX6_opens 60 = .ok (.aload_n 0, 1) := by decide +kernel
theorem dX6_opens_61 : decode cX6_opens 61 = .ok (.getfield 49, 3) := by decide +kernel
theorem dX6_opens_64 : decode cX6_opens 64 = .ok (.iload_n 2, 1) := by decide +kernel
theorem dX6_opens_65 : decode cX6_opens 65 = .ok (.iaload, 1) := by decide +kernel
theorem dX6_opens_66 : decode cX6_opens 66 = .ok (.aload_n 0, 1) := by decide +kernel
theorem dX6_opens_67 : decode cX6_opens 67 = .ok (.getfield 118, 3) := by decide +kernel
theorem dX6_opens_70 : decode cX6_opens 70 = .ok (.if_icmp .ge 26, 3) := by decide +kernel
theorem dX6_opens_73 : decode cX6_opens 73 = .ok (.aload_n 0, 1) := by decide +kernel
theorem dX6_opens_74 : decode cX6_opens 74 = .ok (.getfield 172, 3) := by decide +kernel
theorem dX6_opens_77 : decode cX6_opens 77 = .ok (.iload_n 2, 1) := by decide +kernel
theorem dX6_opens_78 : decode cX6_opens 78 = .ok (.invokestatic 184, 3) := by decide +kernel
theorem dX6_opens_81 : decode cX6_opens 81 = .ok (.ifCond .ne 15, 3) := by decide +kernel
theorem dX6_opens_84 : decode cX6_opens 84 = .ok (.aload_n 0, 1) := by decide +kernel
theorem dX6_opens_85 : decode cX6_opens 85 = .ok (.getfield 55, 3) := by decide +kernel
theorem dX6_opens_88 : decode cX6_opens 88 = .ok (.aload_n 0, 1) := by decide +kernel
theorem dX6_opens_89 : decode cX6_opens 89 = .ok (.getfield 49, 3) := by decide +kernel
theorem dX6_opens_92 : decode cX6_opens 92 = .ok (.iload_n 2, 1) := by decide +kernel
theorem dX6_opens_93 : decode cX6_opens 93 = .ok (.iaload, 1) := by decide +kernel
theorem dX6_opens_94 : decode cX6_opens 94 = .ok (.iconst 0, 1) := by decide +kernel
theorem dX6_opens_95 : decode cX6_opens 95 = .ok (.iastore, 1) := by decide +kernel
theorem dX6_opens_96 : decode cX6_opens 96 = .ok (.iinc 2 1, 3) := by decide +kernel
theorem dX6_opens_99 : decode cX6_opens 99 = .ok (.goto (-57), 3) := by decide +kernel
theorem dX6_opens_102 : decode cX6_opens 102 = .ok (.return_, 1) := by decide +kernel
theorem dX6_gets_0 : decode cX6_gets 0 = .ok (.aload_n 0, 1) := by decide +kernel
theorem dX6_gets_1 : decode cX6_gets 1 = .ok (.iload_n 1, 1) := by decide +kernel
theorem dX6_gets_2 : decode cX6_gets 2 = .ok (.iload_n 2, 1) := by decide +kernel
theorem dX6_gets_3 : decode cX6_gets 3 = .ok (.invokevirtual 188, 3) := by decide +kernel
theorem dX6_gets_6 : decode cX6_gets 6 = .ok (.istore_n 3, 1) := by decide +kernel
theorem dX6_gets_7 : decode cX6_gets 7 = .ok (.aload_n 0, 1) := by decide +kernel
theorem dX6_gets_8 : decode cX6_gets 8 = .ok (.getfield 191, 3) := by decide +kernel
theorem dX6_gets_11 : decode cX6_gets 11 = .ok (.iload_n 3, 1) := by decide +kernel
theorem dX6_gets_12 : decode cX6_gets 12 = .ok (.if_icmp .ge 10, 3) := by decide +kernel
theorem dX6_gets_15 : decode cX6_gets 15 = .ok (.aload_n 0, 1) := by decide +kernel
theorem dX6_gets_16 : decode cX6_gets 16 = .ok (.getfield 191, 3) := by decide +kernel
theorem dX6_gets_19 : decode cX6_gets 19 = .ok (.goto 4, 3) := by decide +kernel
theorem dX6_gets_22 : decode cX6_gets 22 = .ok (.iload_n 3, 1) := by decide +kernel
theorem dX6_gets_23 : decode cX6_gets 23 = .ok (.istore_n 3, 1) := by decide +kernel
theorem dX6_gets_24 : decode cX6_gets 24 = .ok (.iload_n 1, 1) := by decide +kernel
theorem dX6_gets_25 : decode cX6_gets 25 = .ok (.istore 4, 2) := by decide +kernel
theorem dX6_gets_27 : decode cX6_gets 27 = .ok (.iload 4, 2) := by decide +kernel
theorem dX6_gets_29 : decode cX6_gets 29 = .ok (.iconst (-1), 1) := by decide +kernel
theorem dX6_gets_30 : decode cX6_gets 30 = .ok (.if_icmp .eq 38, 3) := by decide +kernel
theorem dX6_gets_33 : decode cX6_gets 33 = .ok (.aload_n 0, 1) := by decide +kernel
theorem dX6_gets_34 : decode cX6_gets 34 = .ok (.getfield 55, 3) := by decide +kernel
theorem dX6_gets_37 : decode cX6_gets 37 = .ok (.iload 4, 2) := by decide +kernel
theorem dX6_gets_39 : decode cX6_gets 39 = .ok (.iaload, 1) := by decide +kernel
theorem dX6_gets_40 : decode cX6_gets 40 = .ok (.iload_n 3, 1) := by decide +kernel
theorem dX6_gets_41 : decode cX6_gets 41 = .ok (.if_icmp .ge 13, 3) := by decide +kernel
theorem dX6_gets_44 : decode cX6_gets 44 = .ok (.aload_n 0, 1) := by decide +kernel
theorem dX6_gets_45 : decode cX6_gets 45 = .ok (.getfield 55, 3) := by decide +kernel
theorem dX6_gets_48 : decode cX6_gets 48 = .ok (.iload 4, 2) := by decide +kernel
theorem dX6_gets_50 : decode cX6_gets 50 = .ok (.iaload, 1) := by decide +kernel
theorem dX6_gets_51 : decode cX6_gets 51 = .ok (.goto 4, 3) := by decide +kernel
theorem dX6_gets_54 : decode cX6_gets 54 = .ok (.iload_n 3, 1) := by decide +kernel
theorem dX6_gets_55 : decode cX6_gets 55 = .ok (.istore_n 3, 1) := by decide +kernel
theorem dX6_gets_56 : decode cX6_gets 56 = .ok (.aload_n 0, 1) := by decide +kernel
theorem dX6_gets_57 : decode cX6_gets 57 = .ok (.getfield 16, 3) := by decide +kernel
theorem dX6_gets_60 : decode cX6_gets 60 = .ok (.iload 4, 2) := by decide +kernel
theorem dX6_gets_62 : decode cX6_gets 62 = .ok (.iaload, 1) := by decide +kernel
theorem dX6_gets_63 : decode cX6_gets 63 = .ok (.istore 4, 2) := by decide +kernel
theorem dX6_gets_65 : decode cX6_gets 65 = .ok (.goto (-38), 3) := by decide +kernel
theorem dX6_gets_68 : decode cX6_gets 68 = .ok (.iload_n 1, 1) := by decide +kernel
theorem dX6_gets_69 : decode cX6_gets 69 = .ok (.istore 4, 2) := by decide +kernel
theorem dX6_gets_71 : decode cX6_gets 71 = .ok (.iload 4, 2) := by decide +kernel
theorem dX6_gets_73 : decode cX6_gets 73 = .ok (.iconst (-1), 1) := by decide +kernel
theorem dX6_gets_74 : decode cX6_gets 74 = .ok (.if_icmp .eq 26, 3) := by decide +kernel
theorem dX6_gets_77 : decode cX6_gets 77 = .ok (.aload_n 0, 1) := by decide +kernel
theorem dX6_gets_78 : decode cX6_gets 78 = .ok (.getfield 55, 3) := by decide +kernel
theorem dX6_gets_81 : decode cX6_gets 81 = .ok (.iload 4, 2) := by decide +kernel
theorem dX6_gets_83 : decode cX6_gets 83 = .ok (.dup2, 1) := by decide +kernel
theorem dX6_gets_84 : decode cX6_gets 84 = .ok (.iaload, 1) := by decide +kernel
theorem dX6_gets_85 : decode cX6_gets 85 = .ok (.iload_n 3, 1) := by decide +kernel
theorem dX6_gets_86 : decode cX6_gets 86 = .ok (.isub, 1) := by decide +kernel
theorem dX6_gets_87 : decode cX6_gets 87 = .ok (.iastore, 1) := by decide +kernel
theorem dX6_gets_88 : decode cX6_gets 88 = .ok (.aload_n 0, 1) := by decide +kernel
theorem dX6_gets_89 : decode cX6_gets 89 = .ok (.getfield 16, 3) := by decide +kernel
theorem dX6_gets_92 : decode cX6_gets 92 = .ok (.iload 4, 2) := by decide +kernel
theorem dX6_gets_94 : decode cX6_gets 94 = .ok (.iaload, 1) := by decide +kernel
theorem dX6_gets_95 : decode cX6_gets 95 = .ok (.istore 4, 2) := by decide +kernel
theorem dX6_gets_97 : decode cX6_gets 97 = .ok (.goto (-26), 3) := by decide +kernel
theorem dX6_gets_100 : decode cX6_gets 100 = .ok (.aload_n 0, 1) := by decide +kernel
theorem dX6_gets_101 : decode cX6_gets 101 = .ok (.dup, 1) := by decide +kernel
theorem dX6_gets_102 : decode cX6_gets 102 = .ok (.getfield 191, 3) := by decide +kernel
theorem dX6_gets_105 : decode cX6_gets 105 = .ok (.iload_n 3, 1) := by decide +kernel
theorem dX6_gets_106 : decode cX6_gets 106 = .ok (.isub, 1) := by decide +kernel
theorem dX6_gets_107 : decode cX6_gets 107 = .ok (.putfield 191, 3) := by decide +kernel
theorem dX6_gets_110 : decode cX6_gets 110 = .ok (.iload_n 3, 1) := by decide +kernel
theorem dX6_gets_111 : decode cX6_gets 111 = .ok (.ireturn, 1) := by decide +kernel
theorem dX6_goesBy_0 : decode cX6_goesBy 0 = .ok (.aload_n 0, 1) := by decide +kernel
theorem dX6_goesBy_1 : decode cX6_goesBy 1 = .ok (.dup, 1) := by decide +kernel
theorem dX6_goesBy_2 : decode cX6_goesBy 2 = .ok (.getfield 191, 3) := by decide +kernel
theorem dX6_goesBy_5 : decode cX6_goesBy 5 = .ok (.aload_n 0, 1) := by decide +kernel
theorem dX6_goesBy_6 : decode cX6_goesBy 6 = .ok (.getfield 34, 3) := by decide +kernel
theorem dX6_goesBy_9 : decode cX6_goesBy 9 = .ok (.iconst 2, 1) := by decide +kernel
theorem dX6_goesBy_10 : decode cX6_goesBy 10 = .ok (.iaload, 1) := by decide +kernel
theorem dX6_goesBy_11 : decode cX6_goesBy 11 = .ok (.aload_n 0, 1) := by decide +kernel
theorem dX6_goesBy_12 : decode cX6_goesBy 12 = .ok (.getfield 52, 3) := by decide +kernel
theorem dX6_goesBy_15 : decode cX6_goesBy 15 = .ok (.iload_n 1, 1) := by decide +kernel
theorem dX6_goesBy_16 : decode cX6_goesBy 16 = .ok (.iaload, 1) := by decide +kernel
theorem dX6_goesBy_17 : decode cX6_goesBy 17 = .ok (.imul, 1) := by decide +kernel
theorem dX6_goesBy_18 : decode cX6_goesBy 18 = .ok (.iadd, 1) := by decide +kernel
theorem dX6_goesBy_19 : decode cX6_goesBy 19 = .ok (.putfield 191, 3) := by decide +kernel
theorem dX6_goesBy_22 : decode cX6_goesBy 22 = .ok (.aload_n 0, 1) := by decide +kernel
theorem dX6_goesBy_23 : decode cX6_goesBy 23 = .ok (.aload_n 0, 1) := by decide +kernel
theorem dX6_goesBy_24 : decode cX6_goesBy 24 = .ok (.getfield 191, 3) := by decide +kernel
theorem dX6_goesBy_27 : decode cX6_goesBy 27 = .ok (.aload_n 0, 1) := by decide +kernel
theorem dX6_goesBy_28 : decode cX6_goesBy 28 = .ok (.getfield 34, 3) := by decide +kernel
theorem dX6_goesBy_31 : decode cX6_goesBy 31 = .ok (.iconst 1, 1) := by decide +kernel
theorem dX6_goesBy_32 : decode cX6_goesBy 32 = .ok (.iaload, 1) := by decide +kernel
theorem dX6_goesBy_33 : decode cX6_goesBy 33 = .ok (.if_icmp .ge 10, 3) := by decide +kernel
theorem dX6_goesBy_36 : decode cX6_goesBy 36 = .ok (.aload_n 0, 1) := by decide +kernel
theorem dX6_goesBy_37 : decode cX6_goesBy 37 = .ok (.getfield 191, 3) := by decide +kernel
theorem dX6_goesBy_40 : decode cX6_goesBy 40 = .ok (.goto 9, 3) := by decide +kernel
theorem dX6_goesBy_43 : decode cX6_goesBy 43 = .ok (.aload_n 0, 1) := by decide +kernel
theorem dX6_goesBy_44 : decode cX6_goesBy 44 = .ok (.getfield 34, 3) := by decide +kernel
theorem dX6_goesBy_47 : decode cX6_goesBy 47 = .ok (.iconst 1, 1) := by decide +kernel
theorem dX6_goesBy_48 : decode cX6_goesBy 48 = .ok (.iaload, 1) := by decide +kernel
theorem dX6_goesBy_49 : decode cX6_goesBy 49 = .ok (.putfield 191, 3) := by decide +kernel
theorem dX6_goesBy_52 : decode cX6_goesBy 52 = .ok (.aload_n 0, 1) := by decide +kernel
theorem dX6_goesBy_53 : decode cX6_goesBy 53 = .ok (.iload_n 1, 1) := by decide +kernel
theorem dX6_goesBy_54 : decode cX6_goesBy 54 = .ok (.invokevirtual 194, 3) := by decide +kernel
theorem dX6_goesBy_57 : decode cX6_goesBy 57 = .ok (.istore_n 2, 1) := by decide +kernel
theorem dX6_goesBy_58 : decode cX6_goesBy 58 = .ok (.aload_n 0, 1) := by decide +kernel
theorem dX6_goesBy_59 : decode cX6_goesBy 59 = .ok (.getfield 61, 3) := by decide +kernel
theorem dX6_goesBy_62 : decode cX6_goesBy 62 = .ok (.iload_n 1, 1) := by decide +kernel
theorem dX6_goesBy_63 : decode cX6_goesBy 63 = .ok (.iload_n 2, 1) := by decide +kernel
theorem dX6_goesBy_64 : decode cX6_goesBy 64 = .ok (.aload_n 0, 1) := by decide +kernel
theorem dX6_goesBy_65 : decode cX6_goesBy 65 = .ok (.getfield 191, 3) := by decide +kernel
theorem dX6_goesBy_68 : decode cX6_goesBy 68 = .ok (.if_icmp .ge 7, 3) := by decide +kernel
theorem dX6_goesBy_71 : decode cX6_goesBy 71 = .ok (.iload_n 2, 1) := by decide +kernel
theorem dX6_goesBy_72 : decode cX6_goesBy 72 = .ok (.goto 7, 3) := by decide +kernel
theorem dX6_goesBy_75 : decode cX6_goesBy 75 = .ok (.aload_n 0, 1) := by decide +kernel
theorem dX6_goesBy_76 : decode cX6_goesBy 76 = .ok (.getfield 191, 3) := by decide +kernel
theorem dX6_goesBy_79 : decode cX6_goesBy 79 = .ok (.iastore, 1) := by decide +kernel
theorem dX6_goesBy_80 : decode cX6_goesBy 80 = .ok (.aload_n 0, 1) := by decide +kernel
theorem dX6_goesBy_81 : decode cX6_goesBy 81 = .ok (.dup, 1) := by decide +kernel
theorem dX6_goesBy_82 : decode cX6_goesBy 82 = .ok (.getfield 191, 3) := by decide +kernel
theorem dX6_goesBy_85 : decode cX6_goesBy 85 = .ok (.aload_n 0, 1) := by decide +kernel
theorem dX6_goesBy_86 : decode cX6_goesBy 86 = .ok (.getfield 61, 3) := by decide +kernel
theorem dX6_goesBy_89 : decode cX6_goesBy 89 = .ok (.iload_n 1, 1) := by decide +kernel
theorem dX6_goesBy_90 : decode cX6_goesBy 90 = .ok (.iaload, 1) := by decide +kernel
theorem dX6_goesBy_91 : decode cX6_goesBy 91 = .ok (.isub, 1) := by decide +kernel
theorem dX6_goesBy_92 : decode cX6_goesBy 92 = .ok (.putfield 191, 3) := by decide +kernel
theorem dX6_goesBy_95 : decode cX6_goesBy 95 = .ok (.aload_n 0, 1) := by decide +kernel
theorem dX6_goesBy_96 : decode cX6_goesBy 96 = .ok (.iload_n 1, 1) := by decide +kernel
theorem dX6_goesBy_97 : decode cX6_goesBy 97 = .ok (.invokevirtual 197, 3) := by decide +kernel
theorem dX6_goesBy_100 : decode cX6_goesBy 100 = .ok (.aload_n 0, 1) := by decide +kernel
theorem dX6_goesBy_101 : decode cX6_goesBy 101 = .ok (.getfield 64, 3) := by decide +kernel
theorem dX6_goesBy_104 : decode cX6_goesBy 104 = .ok (.iload_n 1, 1) := by decide +kernel
theorem dX6_goesBy_105 : decode cX6_goesBy 105 = .ok (.iconst 0, 1) := by decide +kernel
theorem dX6_goesBy_106 : decode cX6_goesBy 106 = .ok (.iastore, 1) := by decide +kernel
theorem dX6_goesBy_107 : decode cX6_goesBy 107 = .ok (.aload_n 0, 1) := by decide +kernel
theorem dX6_goesBy_108 : decode cX6_goesBy 108 = .ok (.getfield 67, 3) := by decide +kernel
theorem dX6_goesBy_111 : decode cX6_goesBy 111 = .ok (.iload_n 1, 1) := by decide +kernel
theorem dX6_goesBy_112 : decode cX6_goesBy 112 = .ok (.iconst 0, 1) := by decide +kernel
theorem dX6_goesBy_113 : decode cX6_goesBy 113 = .ok (.iastore, 1) := by decide +kernel
theorem dX6_goesBy_114 : decode cX6_goesBy 114 = .ok (.iconst 0, 1) := by decide +kernel
theorem dX6_goesBy_115 : decode cX6_goesBy 115 = .ok (.istore_n 3, 1) := by decide +kernel
theorem dX6_goesBy_116 : decode cX6_goesBy 116 = .ok (.iload_n 3, 1) := by decide +kernel
theorem dX6_goesBy_117 : decode cX6_goesBy 117 = .ok (.aload_n 0, 1) := by decide +kernel
theorem dX6_goesBy_118 : decode cX6_goesBy 118 = .ok (.getfield 118, 3) := by decide +kernel
theorem dX6_goesBy_121 : decode cX6_goesBy 121 = .ok (.if_icmp .ge 83, 3) := by decide +kernel
theorem dX6_goesBy_124 : decode cX6_goesBy 124 = .ok (.aload_n 0, 1) := by decide +kernel
theorem dX6_goesBy_125 : decode cX6_goesBy 125 = .ok (.iload_n 3, 1) := by decide +kernel
theorem dX6_goesBy_126 : decode cX6_goesBy 126 = .ok (.iload_n 1, 1) := by decide +kernel
theorem dX6_goesBy_127 : decode cX6_goesBy 127 = .ok (.invokevirtual 201, 3) := by decide +kernel
theorem dX6_goesBy_130 : decode cX6_goesBy 130 = .ok (.istore 4, 2) := by decide +kernel
theorem dX6_goesBy_132 : decode cX6_goesBy 132 = .ok (.aload_n 0, 1) := by decide +kernel
theorem dX6_goesBy_133 : decode cX6_goesBy 133 = .ok (.getfield 70, 3) := by decide +kernel
theorem dX6_goesBy_136 : decode cX6_goesBy 136 = .ok (.bipush 8, 2) := by decide +kernel
theorem dX6_goesBy_138 : decode cX6_goesBy 138 = .ok (.iload_n 1, 1) := by decide +kernel
theorem dX6_goesBy_139 : decode cX6_goesBy 139 = .ok (.imul, 1) := by decide +kernel
theorem dX6_goesBy_140 : decode cX6_goesBy 140 = .ok (.iload_n 3, 1) := by decide +kernel
theorem dX6_goesBy_141 : decode cX6_goesBy 141 = .ok (.iadd, 1) := by decide +kernel
theorem dX6_goesBy_142 : decode cX6_goesBy 142 = .ok (.iload 4, 2) := by decide +kernel
theorem dX6_goesBy_144 : decode cX6_goesBy 144 = .ok (.iastore, 1) := by decide +kernel
theorem dX6_goesBy_145 : decode cX6_goesBy 145 = .ok (.aload_n 0, 1) := by decide +kernel
theorem dX6_goesBy_146 : decode cX6_goesBy 146 = .ok (.getfield 64, 3) := by decide +kernel
theorem dX6_goesBy_149 : decode cX6_goesBy 149 = .ok (.iload_n 1, 1) := by decide +kernel
theorem dX6_goesBy_150 : decode cX6_goesBy 150 = .ok (.dup2, 1) := by decide +kernel
theorem dX6_goesBy_151 : decode cX6_goesBy 151 = .ok (.iaload, 1) := by decide +kernel
theorem dX6_goesBy_152 : decode cX6_goesBy 152 = .ok (.iload 4, 2) := by decide +kernel
theorem dX6_goesBy_154 : decode cX6_goesBy 154 = .ok (.ifCond .le 14, 3) := by decide +kernel
theorem dX6_goesBy_157 : decode cX6_goesBy 157 = .ok (.iconst 1, 1) := by decide +kernel
theorem dX6_goesBy_158 : decode cX6_goesBy 158 = .ok (.aload_n 0, 1) := by decide +kernel
theorem dX6_goesBy_159 : decode cX6_goesBy 159 = .ok (.getfield 19, 3) := by decide +kernel
theorem dX6_goesBy_162 : decode cX6_goesBy 162 = .ok (.iload_n 3, 1) := by decide +kernel
theorem dX6_goesBy_163 : decode cX6_goesBy 163 = .ok (.iaload, 1) := by decide +kernel
theorem dX6_goesBy_164 : decode cX6_goesBy 164 = .ok (.ishl, 1) := by decide +kernel
theorem dX6_goesBy_165 : decode cX6_goesBy 165 = .ok (.goto 4, 3) := by decide +kernel
theorem dX6_goesBy_168 : decode cX6_goesBy 168 = .ok (.iconst 0, 1) := by decide +kernel
theorem dX6_goesBy_169 : decode cX6_goesBy 169 = .ok (.ior, 1) := by decide +kernel
theorem dX6_goesBy_170 : decode cX6_goesBy 170 = .ok (.iastore, 1) := by decide +kernel
theorem dX6_goesBy_171 : decode cX6_goesBy 171 = .ok (.aload_n 0, 1) := by decide +kernel
theorem dX6_goesBy_172 : decode cX6_goesBy 172 = .ok (.getfield 67, 3) := by decide +kernel
theorem dX6_goesBy_175 : decode cX6_goesBy 175 = .ok (.iload_n 1, 1) := by decide +kernel
theorem dX6_goesBy_176 : decode cX6_goesBy 176 = .ok (.dup2, 1) := by decide +kernel
theorem dX6_goesBy_177 : decode cX6_goesBy 177 = .ok (.iaload, 1) := by decide +kernel
theorem dX6_goesBy_178 : decode cX6_goesBy 178 = .ok (.iload 4, 2) := by decide +kernel
theorem dX6_goesBy_180 : decode cX6_goesBy 180 = .ok (.aload_n 0, 1) := by decide +kernel
theorem dX6_goesBy_181 : decode cX6_goesBy 181 = .ok (.iload_n 3, 1) := by decide +kernel
theorem dX6_goesBy_182 : decode cX6_goesBy 182 = .ok (.iload_n 1, 1) := by decide +kernel
theorem dX6_goesBy_183 : decode cX6_goesBy 183 = .ok (.invokevirtual 188, 3) := by decide +kernel
theorem dX6_goesBy_186 : decode cX6_goesBy 186 = .ok (.if_icmp .ge 9, 3) := by decide +kernel
theorem dX6_goesBy_189 : decode cX6_goesBy 189 = .ok (.iconst 1, 1) := by decide +kernel
theorem dX6_goesBy_190 : decode cX6_goesBy 190 = .ok (.iload_n 3, 1) := by decide +kernel
theorem dX6_goesBy_191 : decode cX6_goesBy 191 = .ok (.ishl, 1) := by decide +kernel
theorem dX6_goesBy_192 : decode cX6_goesBy 192 = .ok (.goto 4, 3) := by decide +kernel
theorem dX6_goesBy_195 : decode cX6_goesBy 195 = .ok (.iconst 0, 1) := by decide +kernel
theorem dX6_goesBy_196 : decode cX6_goesBy 196 = .ok (.ior, 1) := by decide +kernel
theorem dX6_goesBy_197 : decode cX6_goesBy 197 = .ok (.iastore, 1) := by decide +kernel
theorem dX6_goesBy_198 : decode cX6_goesBy 198 = .ok (.iinc 3 1, 3) := by decide +kernel
theorem dX6_goesBy_201 : decode cX6_goesBy 201 = .ok (.goto (-85), 3) := by decide +kernel
theorem dX6_goesBy_204 : decode cX6_goesBy 204 = .ok (.aload_n 0, 1) := by decide +kernel
theorem dX6_goesBy_205 : decode cX6_goesBy 205 = .ok (.getfield 58, 3) := by decide +kernel
theorem dX6_goesBy_208 : decode cX6_goesBy 208 = .ok (.iload_n 1, 1) := by decide +kernel
theorem dX6_goesBy_209 : decode cX6_goesBy 209 = .ok (.aload_n 0, 1) := by decide +kernel
theorem dX6_goesBy_210 : decode cX6_goesBy 210 = .ok (.getfield 191, 3) := by decide +kernel
theorem dX6_goesBy_213 : decode cX6_goesBy 213 = .ok (.iastore, 1) := by decide +kernel
theorem dX6_goesBy_214 : decode cX6_goesBy 214 = .ok (.return_, 1) := by decide +kernel
theorem dX6_runs_0 : decode cX6_runs 0 = .ok (.aload_n 0, 1) := by decide +kernel
theorem dX6_runs_1 : decode cX6_runs 1 = .ok (.aload_n 0, 1) := by decide +kernel
theorem dX6_runs_2 : decode cX6_runs 2 = .ok (.getfield 178, 3) := by decide +kernel
theorem dX6_runs_5 : decode cX6_runs 5 = .ok (.putfield 191, 3) := by decide +kernel
theorem dX6_runs_8 : decode cX6_runs 8 = .ok (.iconst 0, 1) := by decide +kernel
theorem dX6_runs_9 : decode cX6_runs 9 = .ok (.istore_n 1, 1) := by decide +kernel
theorem dX6_runs_10 : decode cX6_runs 10 = .ok (.iload_n 1, 1) := by decide +kernel
theorem dX6_runs_11 : decode cX6_runs 11 = .ok (.bipush 40, 2) := by decide +kernel
theorem dX6_runs_13 : decode cX6_runs 13 = .ok (.if_icmp .ge 14, 3) := by decide +kernel
theorem dX6_runs_16 : decode cX6_runs 16 = .ok (.aload_n 0, 1) := by decide +kernel
theorem dX6_runs_17 : decode cX6_runs 17 = .ok (.iload_n 1, 1) := by decide +kernel
theorem dX6_runs_18 : decode cX6_runs 18 = .ok (.invokevirtual 204, 3) := by decide +kernel
theorem dX6_runs_21 : decode cX6_runs 21 = .ok (.iinc 1 1, 3) := by decide +kernel
theorem dX6_runs_24 : decode cX6_runs 24 = .ok (.goto (-14), 3) := by decide +kernel
theorem dX6_runs_27 : decode cX6_runs 27 = .ok (.return_, 1) := by decide +kernel
theorem dX6_runsTold_0 : decode cX6_runsTold 0 = .ok (.aload_n 0, 1) := by decide +kernel
theorem dX6_runsTold_1 : decode cX6_runsTold 1 = .ok (.invokevirtual 207, 3) := by decide +kernel
theorem dX6_runsTold_4 : decode cX6_runsTold 4 = .ok (.aload_n 0, 1) := by decide +kernel
theorem dX6_runsTold_5 : decode cX6_runsTold 5 = .ok (.invokevirtual 210, 3) := by decide +kernel
theorem dX6_runsTold_8 : decode cX6_runsTold 8 = .ok (.return_, 1) := by decide +kernel
theorem dX6_bagOf_0 : decode cX6_bagOf 0 = .ok (.aload_n 0, 1) := by decide +kernel
theorem dX6_bagOf_1 : decode cX6_bagOf 1 = .ok (.invokevirtual 213, 3) := by decide +kernel
theorem dX6_bagOf_4 : decode cX6_bagOf 4 = .ok (.iload_n 2, 1) := by decide +kernel
theorem dX6_bagOf_5 : decode cX6_bagOf 5 = .ok (.ifCond .ne 12, 3) := by decide +kernel
theorem dX6_bagOf_8 : decode cX6_bagOf 8 = .ok (.aload_n 0, 1) := by decide +kernel
theorem dX6_bagOf_9 : decode cX6_bagOf 9 = .ok (.getfield 58, 3) := by decide +kernel
theorem dX6_bagOf_12 : decode cX6_bagOf 12 = .ok (.iload_n 1, 1) := by decide +kernel
theorem dX6_bagOf_13 : decode cX6_bagOf 13 = .ok (.iaload, 1) := by decide +kernel
theorem dX6_bagOf_14 : decode cX6_bagOf 14 = .ok (.goto 37, 3) := by decide +kernel
theorem dX6_bagOf_17 : decode cX6_bagOf 17 = .ok (.iload_n 2, 1) := by decide +kernel
theorem dX6_bagOf_18 : decode cX6_bagOf 18 = .ok (.iconst 1, 1) := by decide +kernel
theorem dX6_bagOf_19 : decode cX6_bagOf 19 = .ok (.if_icmp .ne 12, 3) := by decide +kernel
theorem dX6_bagOf_22 : decode cX6_bagOf 22 = .ok (.aload_n 0, 1) := by decide +kernel
theorem dX6_bagOf_23 : decode cX6_bagOf 23 = .ok (.getfield 61, 3) := by decide +kernel
theorem dX6_bagOf_26 : decode cX6_bagOf 26 = .ok (.iload_n 1, 1) := by decide +kernel
theorem dX6_bagOf_27 : decode cX6_bagOf 27 = .ok (.iaload, 1) := by decide +kernel
theorem dX6_bagOf_28 : decode cX6_bagOf 28 = .ok (.goto 23, 3) := by decide +kernel
theorem dX6_bagOf_31 : decode cX6_bagOf 31 = .ok (.iload_n 2, 1) := by decide +kernel
theorem dX6_bagOf_32 : decode cX6_bagOf 32 = .ok (.iconst 2, 1) := by decide +kernel
theorem dX6_bagOf_33 : decode cX6_bagOf 33 = .ok (.if_icmp .ne 12, 3) := by decide +kernel
theorem dX6_bagOf_36 : decode cX6_bagOf 36 = .ok (.aload_n 0, 1) := by decide +kernel
theorem dX6_bagOf_37 : decode cX6_bagOf 37 = .ok (.getfield 64, 3) := by decide +kernel
theorem dX6_bagOf_40 : decode cX6_bagOf 40 = .ok (.iload_n 1, 1) := by decide +kernel
theorem dX6_bagOf_41 : decode cX6_bagOf 41 = .ok (.iaload, 1) := by decide +kernel
theorem dX6_bagOf_42 : decode cX6_bagOf 42 = .ok (.goto 9, 3) := by decide +kernel
theorem dX6_bagOf_45 : decode cX6_bagOf 45 = .ok (.aload_n 0, 1) := by decide +kernel
theorem dX6_bagOf_46 : decode cX6_bagOf 46 = .ok (.getfield 67, 3) := by decide +kernel
theorem dX6_bagOf_49 : decode cX6_bagOf 49 = .ok (.iload_n 1, 1) := by decide +kernel
theorem dX6_bagOf_50 : decode cX6_bagOf 50 = .ok (.iaload, 1) := by decide +kernel
theorem dX6_bagOf_51 : decode cX6_bagOf 51 = .ok (.ireturn, 1) := by decide +kernel
theorem dX6_bag_0 : decode cX6_bag 0 = .ok (.iload_n 1, 1) := by decide +kernel
theorem dX6_bag_1 : decode cX6_bag 1 = .ok (.invokestatic 148, 3) := by decide +kernel
theorem dX6_bag_4 : decode cX6_bag 4 = .ok (.ifCond .eq 21, 3) := by decide +kernel
theorem dX6_bag_7 : decode cX6_bag 7 = .ok (.iload_n 2, 1) := by decide +kernel
theorem dX6_bag_8 : decode cX6_bag 8 = .ok (.iconst 0, 1) := by decide +kernel
theorem dX6_bag_9 : decode cX6_bag 9 = .ok (.iconst 3, 1) := by decide +kernel
theorem dX6_bag_10 : decode cX6_bag 10 = .ok (.invokestatic 103, 3) := by decide +kernel
theorem dX6_bag_13 : decode cX6_bag 13 = .ok (.ifCond .eq 12, 3) := by decide +kernel
theorem dX6_bag_16 : decode cX6_bag 16 = .ok (.aload_n 0, 1) := by decide +kernel
theorem dX6_bag_17 : decode cX6_bag 17 = .ok (.iload_n 1, 1) := by decide +kernel
theorem dX6_bag_18 : decode cX6_bag 18 = .ok (.iload_n 2, 1) := by decide +kernel
theorem dX6_bag_19 : decode cX6_bag 19 = .ok (.invokevirtual 216, 3) := by decide +kernel
theorem dX6_bag_22 : decode cX6_bag 22 = .ok (.goto 5, 3) := by decide +kernel
theorem dX6_bag_25 : decode cX6_bag 25 = .ok (.bipush (-2), 2) := by decide +kernel
theorem dX6_bag_27 : decode cX6_bag 27 = .ok (.ireturn, 1) := by decide +kernel
theorem dX6_gotOf_0 : decode cX6_gotOf 0 = .ok (.aload_n 0, 1) := by decide +kernel
theorem dX6_gotOf_1 : decode cX6_gotOf 1 = .ok (.invokevirtual 213, 3) := by decide +kernel
theorem dX6_gotOf_4 : decode cX6_gotOf 4 = .ok (.iload_n 3, 1) := by decide +kernel
theorem dX6_gotOf_5 : decode cX6_gotOf 5 = .ok (.ifCond .ne 17, 3) := by decide +kernel
theorem dX6_gotOf_8 : decode cX6_gotOf 8 = .ok (.aload_n 0, 1) := by decide +kernel
theorem dX6_gotOf_9 : decode cX6_gotOf 9 = .ok (.getfield 70, 3) := by decide +kernel
theorem dX6_gotOf_12 : decode cX6_gotOf 12 = .ok (.bipush 8, 2) := by decide +kernel
theorem dX6_gotOf_14 : decode cX6_gotOf 14 = .ok (.iload_n 1, 1) := by decide +kernel
theorem dX6_gotOf_15 : decode cX6_gotOf 15 = .ok (.imul, 1) := by decide +kernel
theorem dX6_gotOf_16 : decode cX6_gotOf 16 = .ok (.iload_n 2, 1) := by decide +kernel
theorem dX6_gotOf_17 : decode cX6_gotOf 17 = .ok (.iadd, 1) := by decide +kernel
theorem dX6_gotOf_18 : decode cX6_gotOf 18 = .ok (.iaload, 1) := by decide +kernel
theorem dX6_gotOf_19 : decode cX6_gotOf 19 = .ok (.goto 23, 3) := by decide +kernel
theorem dX6_gotOf_22 : decode cX6_gotOf 22 = .ok (.iload_n 3, 1) := by decide +kernel
theorem dX6_gotOf_23 : decode cX6_gotOf 23 = .ok (.iconst 1, 1) := by decide +kernel
theorem dX6_gotOf_24 : decode cX6_gotOf 24 = .ok (.if_icmp .ne 12, 3) := by decide +kernel
theorem dX6_gotOf_27 : decode cX6_gotOf 27 = .ok (.aload_n 0, 1) := by decide +kernel
theorem dX6_gotOf_28 : decode cX6_gotOf 28 = .ok (.iload_n 2, 1) := by decide +kernel
theorem dX6_gotOf_29 : decode cX6_gotOf 29 = .ok (.iload_n 1, 1) := by decide +kernel
theorem dX6_gotOf_30 : decode cX6_gotOf 30 = .ok (.invokevirtual 188, 3) := by decide +kernel
theorem dX6_gotOf_33 : decode cX6_gotOf 33 = .ok (.goto 9, 3) := by decide +kernel
theorem dX6_gotOf_36 : decode cX6_gotOf 36 = .ok (.aload_n 0, 1) := by decide +kernel
theorem dX6_gotOf_37 : decode cX6_gotOf 37 = .ok (.iload_n 2, 1) := by decide +kernel
theorem dX6_gotOf_38 : decode cX6_gotOf 38 = .ok (.iload_n 1, 1) := by decide +kernel
theorem dX6_gotOf_39 : decode cX6_gotOf 39 = .ok (.invokevirtual 181, 3) := by decide +kernel
theorem dX6_gotOf_42 : decode cX6_gotOf 42 = .ok (.ireturn, 1) := by decide +kernel
theorem dX6_got_0 : decode cX6_got 0 = .ok (.iload_n 1, 1) := by decide +kernel
theorem dX6_got_1 : decode cX6_got 1 = .ok (.invokestatic 148, 3) := by decide +kernel
theorem dX6_got_4 : decode cX6_got 4 = .ok (.ifCond .eq 30, 3) := by decide +kernel
theorem dX6_got_7 : decode cX6_got 7 = .ok (.aload_n 0, 1) := by decide +kernel
theorem dX6_got_8 : decode cX6_got 8 = .ok (.iload_n 2, 1) := by decide +kernel
theorem dX6_got_9 : decode cX6_got 9 = .ok (.invokevirtual 142, 3) := by decide +kernel
theorem dX6_got_12 : decode cX6_got 12 = .ok (.ifCond .eq 22, 3) := by decide +kernel
theorem dX6_got_15 : decode cX6_got 15 = .ok (.iload_n 3, 1) := by decide +kernel
theorem dX6_got_16 : decode cX6_got 16 = .ok (.iconst 0, 1) := by decide +kernel
theorem dX6_got_17 : decode cX6_got 17 = .ok (.iconst 2, 1) := by decide +kernel
theorem dX6_got_18 : decode cX6_got 18 = .ok (.invokestatic 103, 3) := by decide +kernel
theorem dX6_got_21 : decode cX6_got 21 = .ok (.ifCond .eq 13, 3) := by decide +kernel
theorem dX6_got_24 : decode cX6_got 24 = .ok (.aload_n 0, 1) := by decide +kernel
theorem dX6_got_25 : decode cX6_got 25 = .ok (.iload_n 1, 1) := by decide +kernel
theorem dX6_got_26 : decode cX6_got 26 = .ok (.iload_n 2, 1) := by decide +kernel
theorem dX6_got_27 : decode cX6_got 27 = .ok (.iload_n 3, 1) := by decide +kernel
theorem dX6_got_28 : decode cX6_got 28 = .ok (.invokevirtual 219, 3) := by decide +kernel
theorem dX6_got_31 : decode cX6_got 31 = .ok (.goto 5, 3) := by decide +kernel
theorem dX6_got_34 : decode cX6_got 34 = .ok (.bipush (-2), 2) := by decide +kernel
theorem dX6_got_36 : decode cX6_got 36 = .ok (.ireturn, 1) := by decide +kernel
theorem dX6_shortOf_0 : decode cX6_shortOf 0 = .ok (.iconst 0, 1) := by decide +kernel
theorem dX6_shortOf_1 : decode cX6_shortOf 1 = .ok (.istore_n 2, 1) := by decide +kernel
theorem dX6_shortOf_2 : decode cX6_shortOf 2 = .ok (.iconst 0, 1) := by decide +kernel
theorem dX6_shortOf_3 : decode cX6_shortOf 3 = .ok (.istore_n 3, 1) := by decide +kernel
theorem dX6_shortOf_4 : decode cX6_shortOf 4 = .ok (.iload_n 3, 1) := by decide +kernel
theorem dX6_shortOf_5 : decode cX6_shortOf 5 = .ok (.bipush 40, 2) := by decide +kernel
theorem dX6_shortOf_7 : decode cX6_shortOf 7 = .ok (.if_icmp .ge 30, 3) := by decide +kernel
theorem dX6_shortOf_10 : decode cX6_shortOf 10 = .ok (.iload_n 2, 1) := by decide +kernel
theorem dX6_shortOf_11 : decode cX6_shortOf 11 = .ok (.aload_n 0, 1) := by decide +kernel
theorem dX6_shortOf_12 : decode cX6_shortOf 12 = .ok (.getfield 67, 3) := by decide +kernel
theorem dX6_shortOf_15 : decode cX6_shortOf 15 = .ok (.iload_n 3, 1) := by decide +kernel
theorem dX6_shortOf_16 : decode cX6_shortOf 16 = .ok (.iaload, 1) := by decide +kernel
theorem dX6_shortOf_17 : decode cX6_shortOf 17 = .ok (.iload_n 1, 1) := by decide +kernel
theorem dX6_shortOf_18 : decode cX6_shortOf 18 = .ok (.invokestatic 184, 3) := by decide +kernel
theorem dX6_shortOf_21 : decode cX6_shortOf 21 = .ok (.ifCond .eq 7, 3) := by decide +kernel
theorem dX6_shortOf_24 : decode cX6_shortOf 24 = .ok (.iconst 1, 1) := by decide +kernel
theorem dX6_shortOf_25 : decode cX6_shortOf 25 = .ok (.goto 4, 3) := by decide +kernel
theorem dX6_shortOf_28 : decode cX6_shortOf 28 = .ok (.iconst 0, 1) := by decide +kernel
theorem dX6_shortOf_29 : decode cX6_shortOf 29 = .ok (.iadd, 1) := by decide +kernel
theorem dX6_shortOf_30 : decode cX6_shortOf 30 = .ok (.istore_n 2, 1) := by decide +kernel
theorem dX6_shortOf_31 : decode cX6_shortOf 31 = .ok (.iinc 3 1, 3) := by decide +kernel
theorem dX6_shortOf_34 : decode cX6_shortOf 34 = .ok (.goto (-30), 3) := by decide +kernel
theorem dX6_shortOf_37 : decode cX6_shortOf 37 = .ok (.iload_n 2, 1) := by decide +kernel
theorem dX6_shortOf_38 : decode cX6_shortOf 38 = .ok (.ireturn, 1) := by decide +kernel
theorem dX6_shortAll_0 : decode cX6_shortAll 0 = .ok (.iconst 0, 1) := by decide +kernel
theorem dX6_shortAll_1 : decode cX6_shortAll 1 = .ok (.istore_n 1, 1) := by decide +kernel
theorem dX6_shortAll_2 : decode cX6_shortAll 2 = .ok (.iconst 0, 1) := by decide +kernel
theorem dX6_shortAll_3 : decode cX6_shortAll 3 = .ok (.istore_n 2, 1) := by decide +kernel
theorem dX6_shortAll_4 : decode cX6_shortAll 4 = .ok (.iload_n 2, 1) := by decide +kernel
theorem dX6_shortAll_5 : decode cX6_shortAll 5 = .ok (.aload_n 0, 1) := by decide +kernel
theorem dX6_shortAll_6 : decode cX6_shortAll 6 = .ok (.getfield 118, 3) := by decide +kernel
theorem dX6_shortAll_9 : decode cX6_shortAll 9 = .ok (.if_icmp .ge 17, 3) := by decide +kernel
theorem dX6_shortAll_12 : decode cX6_shortAll 12 = .ok (.iload_n 1, 1) := by decide +kernel
theorem dX6_shortAll_13 : decode cX6_shortAll 13 = .ok (.aload_n 0, 1) := by decide +kernel
theorem dX6_shortAll_14 : decode cX6_shortAll 14 = .ok (.iload_n 2, 1) := by decide +kernel
theorem dX6_shortAll_15 : decode cX6_shortAll 15 = .ok (.invokevirtual 223, 3) := by decide +kernel
theorem dX6_shortAll_18 : decode cX6_shortAll 18 = .ok (.iadd, 1) := by decide +kernel
theorem dX6_shortAll_19 : decode cX6_shortAll 19 = .ok (.istore_n 1, 1) := by decide +kernel
theorem dX6_shortAll_20 : decode cX6_shortAll 20 = .ok (.iinc 2 1, 3) := by decide +kernel
theorem dX6_shortAll_23 : decode cX6_shortAll 23 = .ok (.goto (-19), 3) := by decide +kernel
theorem dX6_shortAll_26 : decode cX6_shortAll 26 = .ok (.iload_n 1, 1) := by decide +kernel
theorem dX6_shortAll_27 : decode cX6_shortAll 27 = .ok (.ireturn, 1) := by decide +kernel
theorem dX6_heldOf_0 : decode cX6_heldOf 0 = .ok (.aload_n 0, 1) := by decide +kernel
theorem dX6_heldOf_1 : decode cX6_heldOf 1 = .ok (.invokevirtual 213, 3) := by decide +kernel
theorem dX6_heldOf_4 : decode cX6_heldOf 4 = .ok (.iconst (-1), 1) := by decide +kernel
theorem dX6_heldOf_5 : decode cX6_heldOf 5 = .ok (.istore_n 3, 1) := by decide +kernel
theorem dX6_heldOf_6 : decode cX6_heldOf 6 = .ok (.bipush 39, 2) := by decide +kernel
theorem dX6_heldOf_8 : decode cX6_heldOf 8 = .ok (.istore 4, 2) := by decide +kernel
theorem dX6_heldOf_10 : decode cX6_heldOf 10 = .ok (.iload 4, 2) := by decide +kernel
theorem dX6_heldOf_12 : decode cX6_heldOf 12 = .ok (.ifCond .lt 30, 3) := by decide +kernel
theorem dX6_heldOf_15 : decode cX6_heldOf 15 = .ok (.aload_n 0, 1) := by decide +kernel
theorem dX6_heldOf_16 : decode cX6_heldOf 16 = .ok (.getfield 67, 3) := by decide +kernel
theorem dX6_heldOf_19 : decode cX6_heldOf 19 = .ok (.iload 4, 2) := by decide +kernel
theorem dX6_heldOf_21 : decode cX6_heldOf 21 = .ok (.iaload, 1) := by decide +kernel
theorem dX6_heldOf_22 : decode cX6_heldOf 22 = .ok (.iload_n 1, 1) := by decide +kernel
theorem dX6_heldOf_23 : decode cX6_heldOf 23 = .ok (.invokestatic 184, 3) := by decide +kernel
theorem dX6_heldOf_26 : decode cX6_heldOf 26 = .ok (.ifCond .eq 8, 3) := by decide +kernel
theorem dX6_heldOf_29 : decode cX6_heldOf 29 = .ok (.iload 4, 2) := by decide +kernel
theorem dX6_heldOf_31 : decode cX6_heldOf 31 = .ok (.goto 4, 3) := by decide +kernel
theorem dX6_heldOf_34 : decode cX6_heldOf 34 = .ok (.iload_n 3, 1) := by decide +kernel
theorem dX6_heldOf_35 : decode cX6_heldOf 35 = .ok (.istore_n 3, 1) := by decide +kernel
theorem dX6_heldOf_36 : decode cX6_heldOf 36 = .ok (.iinc 4 (-1), 3) := by decide +kernel
theorem dX6_heldOf_39 : decode cX6_heldOf 39 = .ok (.goto (-29), 3) := by decide +kernel
theorem dX6_heldOf_42 : decode cX6_heldOf 42 = .ok (.iload_n 2, 1) := by decide +kernel
theorem dX6_heldOf_43 : decode cX6_heldOf 43 = .ok (.ifCond .ne 7, 3) := by decide +kernel
theorem dX6_heldOf_46 : decode cX6_heldOf 46 = .ok (.iload_n 3, 1) := by decide +kernel
theorem dX6_heldOf_47 : decode cX6_heldOf 47 = .ok (.goto 8, 3) := by decide +kernel
theorem dX6_heldOf_50 : decode cX6_heldOf 50 = .ok (.aload_n 0, 1) := by decide +kernel
theorem dX6_heldOf_51 : decode cX6_heldOf 51 = .ok (.iload_n 1, 1) := by decide +kernel
theorem dX6_heldOf_52 : decode cX6_heldOf 52 = .ok (.invokevirtual 223, 3) := by decide +kernel
theorem dX6_heldOf_55 : decode cX6_heldOf 55 = .ok (.ireturn, 1) := by decide +kernel
theorem dX6_held_0 : decode cX6_held 0 = .ok (.aload_n 0, 1) := by decide +kernel
theorem dX6_held_1 : decode cX6_held 1 = .ok (.iload_n 1, 1) := by decide +kernel
theorem dX6_held_2 : decode cX6_held 2 = .ok (.invokevirtual 142, 3) := by decide +kernel
theorem dX6_held_5 : decode cX6_held 5 = .ok (.ifCond .eq 21, 3) := by decide +kernel
theorem dX6_held_8 : decode cX6_held 8 = .ok (.iload_n 2, 1) := by decide +kernel
theorem dX6_held_9 : decode cX6_held 9 = .ok (.iconst 0, 1) := by decide +kernel
theorem dX6_held_10 : decode cX6_held 10 = .ok (.iconst 1, 1) := by decide +kernel
theorem dX6_held_11 : decode cX6_held 11 = .ok (.invokestatic 103, 3) := by decide +kernel
theorem dX6_held_14 : decode cX6_held 14 = .ok (.ifCond .eq 12, 3) := by decide +kernel
theorem dX6_held_17 : decode cX6_held 17 = .ok (.aload_n 0, 1) := by decide +kernel
theorem dX6_held_18 : decode cX6_held 18 = .ok (.iload_n 1, 1) := by decide +kernel
theorem dX6_held_19 : decode cX6_held 19 = .ok (.iload_n 2, 1) := by decide +kernel
theorem dX6_held_20 : decode cX6_held 20 = .ok (.invokevirtual 226, 3) := by decide +kernel
theorem dX6_held_23 : decode cX6_held 23 = .ok (.goto 5, 3) := by decide +kernel
theorem dX6_held_26 : decode cX6_held 26 = .ok (.bipush (-2), 2) := by decide +kernel
theorem dX6_held_28 : decode cX6_held 28 = .ok (.ireturn, 1) := by decide +kernel
theorem dX6_firstOf_0 : decode cX6_firstOf 0 = .ok (.aload_n 0, 1) := by decide +kernel
theorem dX6_firstOf_1 : decode cX6_firstOf 1 = .ok (.invokevirtual 213, 3) := by decide +kernel
theorem dX6_firstOf_4 : decode cX6_firstOf 4 = .ok (.iconst (-1), 1) := by decide +kernel
theorem dX6_firstOf_5 : decode cX6_firstOf 5 = .ok (.istore_n 1, 1) := by decide +kernel
theorem dX6_firstOf_6 : decode cX6_firstOf 6 = .ok (.bipush 39, 2) := by decide +kernel
theorem dX6_firstOf_8 : decode cX6_firstOf 8 = .ok (.istore_n 2, 1) := by decide +kernel
theorem dX6_firstOf_9 : decode cX6_firstOf 9 = .ok (.iload_n 2, 1) := by decide +kernel
theorem dX6_firstOf_10 : decode cX6_firstOf 10 = .ok (.ifCond .lt 24, 3) := by decide +kernel
theorem dX6_firstOf_13 : decode cX6_firstOf 13 = .ok (.aload_n 0, 1) := by decide +kernel
theorem dX6_firstOf_14 : decode cX6_firstOf 14 = .ok (.getfield 67, 3) := by decide +kernel
theorem dX6_firstOf_17 : decode cX6_firstOf 17 = .ok (.iload_n 2, 1) := by decide +kernel
theorem dX6_firstOf_18 : decode cX6_firstOf 18 = .ok (.iaload, 1) := by decide +kernel
theorem dX6_firstOf_19 : decode cX6_firstOf 19 = .ok (.ifCond .eq 7, 3) := by decide +kernel
theorem dX6_firstOf_22 : decode cX6_firstOf 22 = .ok (.iload_n 2, 1) := by decide +kernel
theorem dX6_firstOf_23 : decode cX6_firstOf 23 = .ok (.goto 4, 3) := by decide +kernel
theorem dX6_firstOf_26 : decode cX6_firstOf 26 = .ok (.iload_n 1, 1) := by decide +kernel
theorem dX6_firstOf_27 : decode cX6_firstOf 27 = .ok (.istore_n 1, 1) := by decide +kernel
theorem dX6_firstOf_28 : decode cX6_firstOf 28 = .ok (.iinc 2 (-1), 3) := by decide +kernel
theorem dX6_firstOf_31 : decode cX6_firstOf 31 = .ok (.goto (-22), 3) := by decide +kernel
theorem dX6_firstOf_34 : decode cX6_firstOf 34 = .ok (.iload_n 1, 1) := by decide +kernel
theorem dX6_firstOf_35 : decode cX6_firstOf 35 = .ok (.ireturn, 1) := by decide +kernel
theorem dX6_first_0 : decode cX6_first 0 = .ok (.aload_n 0, 1) := by decide +kernel
theorem dX6_first_1 : decode cX6_first 1 = .ok (.invokevirtual 229, 3) := by decide +kernel
theorem dX6_first_4 : decode cX6_first 4 = .ok (.ireturn, 1) := by decide +kernel
theorem dX6_quietOf_0 : decode cX6_quietOf 0 = .ok (.aload_n 0, 1) := by decide +kernel
theorem dX6_quietOf_1 : decode cX6_quietOf 1 = .ok (.invokevirtual 213, 3) := by decide +kernel
theorem dX6_quietOf_4 : decode cX6_quietOf 4 = .ok (.iconst (-1), 1) := by decide +kernel
theorem dX6_quietOf_5 : decode cX6_quietOf 5 = .ok (.istore_n 1, 1) := by decide +kernel
theorem dX6_quietOf_6 : decode cX6_quietOf 6 = .ok (.bipush 39, 2) := by decide +kernel
theorem dX6_quietOf_8 : decode cX6_quietOf 8 = .ok (.istore_n 2, 1) := by decide +kernel
theorem dX6_quietOf_9 : decode cX6_quietOf 9 = .ok (.iload_n 2, 1) := by decide +kernel
theorem dX6_quietOf_10 : decode cX6_quietOf 10 = .ok (.ifCond .lt 24, 3) := by decide +kernel
theorem dX6_quietOf_13 : decode cX6_quietOf 13 = .ok (.aload_n 0, 1) := by decide +kernel
theorem dX6_quietOf_14 : decode cX6_quietOf 14 = .ok (.getfield 58, 3) := by decide +kernel
theorem dX6_quietOf_17 : decode cX6_quietOf 17 = .ok (.iload_n 2, 1) := by decide +kernel
theorem dX6_quietOf_18 : decode cX6_quietOf 18 = .ok (.iaload, 1) := by decide +kernel
theorem dX6_quietOf_19 : decode cX6_quietOf 19 = .ok (.ifCond .ne 7, 3) := by decide +kernel
theorem dX6_quietOf_22 : decode cX6_quietOf 22 = .ok (.iload_n 2, 1) := by decide +kernel
theorem dX6_quietOf_23 : decode cX6_quietOf 23 = .ok (.goto 4, 3) := by decide +kernel
theorem dX6_quietOf_26 : decode cX6_quietOf 26 = .ok (.iload_n 1, 1) := by decide +kernel
theorem dX6_quietOf_27 : decode cX6_quietOf 27 = .ok (.istore_n 1, 1) := by decide +kernel
theorem dX6_quietOf_28 : decode cX6_quietOf 28 = .ok (.iinc 2 (-1), 3) := by decide +kernel
theorem dX6_quietOf_31 : decode cX6_quietOf 31 = .ok (.goto (-22), 3) := by decide +kernel
theorem dX6_quietOf_34 : decode cX6_quietOf 34 = .ok (.iload_n 1, 1) := by decide +kernel
theorem dX6_quietOf_35 : decode cX6_quietOf 35 = .ok (.ireturn, 1) := by decide +kernel
theorem dX6_quiet_0 : decode cX6_quiet 0 = .ok (.aload_n 0, 1) := by decide +kernel
theorem dX6_quiet_1 : decode cX6_quiet 1 = .ok (.invokevirtual 232, 3) := by decide +kernel
theorem dX6_quiet_4 : decode cX6_quiet 4 = .ok (.ireturn, 1) := by decide +kernel
theorem dX6_wellOf_0 : decode cX6_wellOf 0 = .ok (.aload_n 0, 1) := by decide +kernel
theorem dX6_wellOf_1 : decode cX6_wellOf 1 = .ok (.invokevirtual 213, 3) := by decide +kernel
theorem dX6_wellOf_4 : decode cX6_wellOf 4 = .ok (.iconst 0, 1) := by decide +kernel
theorem dX6_wellOf_5 : decode cX6_wellOf 5 = .ok (.istore_n 1, 1) := by decide +kernel
theorem dX6_wellOf_6 : decode cX6_wellOf 6 = .ok (.iconst 0, 1) := by decide +kernel
theorem dX6_wellOf_7 : decode cX6_wellOf 7 = .ok (.istore_n 2, 1) := by decide +kernel
theorem dX6_wellOf_8 : decode cX6_wellOf 8 = .ok (.iload_n 2, 1) := by decide +kernel
theorem dX6_wellOf_9 : decode cX6_wellOf 9 = .ok (.bipush 40, 2) := by decide +kernel
theorem dX6_wellOf_11 : decode cX6_wellOf 11 = .ok (.if_icmp .ge 26, 3) := by decide +kernel
theorem dX6_wellOf_14 : decode cX6_wellOf 14 = .ok (.iload_n 1, 1) := by decide +kernel
theorem dX6_wellOf_15 : decode cX6_wellOf 15 = .ok (.aload_n 0, 1) := by decide +kernel
theorem dX6_wellOf_16 : decode cX6_wellOf 16 = .ok (.getfield 67, 3) := by decide +kernel
theorem dX6_wellOf_19 : decode cX6_wellOf 19 = .ok (.iload_n 2, 1) := by decide +kernel
theorem dX6_wellOf_20 : decode cX6_wellOf 20 = .ok (.iaload, 1) := by decide +kernel
theorem dX6_wellOf_21 : decode cX6_wellOf 21 = .ok (.ifCond .ne 7, 3) := by decide +kernel
theorem dX6_wellOf_24 : decode cX6_wellOf 24 = .ok (.iconst 1, 1) := by decide +kernel
theorem dX6_wellOf_25 : decode cX6_wellOf 25 = .ok (.goto 4, 3) := by decide +kernel
theorem dX6_wellOf_28 : decode cX6_wellOf 28 = .ok (.iconst 0, 1) := by decide +kernel
theorem dX6_wellOf_29 : decode cX6_wellOf 29 = .ok (.iadd, 1) := by decide +kernel
theorem dX6_wellOf_30 : decode cX6_wellOf 30 = .ok (.istore_n 1, 1) := by decide +kernel
theorem dX6_wellOf_31 : decode cX6_wellOf 31 = .ok (.iinc 2 1, 3) := by decide +kernel
theorem dX6_wellOf_34 : decode cX6_wellOf 34 = .ok (.goto (-26), 3) := by decide +kernel
theorem dX6_wellOf_37 : decode cX6_wellOf 37 = .ok (.iload_n 1, 1) := by decide +kernel
theorem dX6_wellOf_38 : decode cX6_wellOf 38 = .ok (.ireturn, 1) := by decide +kernel
theorem dX6_well_0 : decode cX6_well 0 = .ok (.aload_n 0, 1) := by decide +kernel
theorem dX6_well_1 : decode cX6_well 1 = .ok (.invokevirtual 235, 3) := by decide +kernel
theorem dX6_well_4 : decode cX6_well 4 = .ok (.ireturn, 1) := by decide +kernel
theorem dX6_elbowOf_0 : decode cX6_elbowOf 0 = .ok (.aload_n 0, 1) := by decide +kernel
theorem dX6_elbowOf_1 : decode cX6_elbowOf 1 = .ok (.invokevirtual 207, 3) := by decide +kernel
theorem dX6_elbowOf_4 : decode cX6_elbowOf 4 = .ok (.iconst (-1), 1) := by decide +kernel
theorem dX6_elbowOf_5 : decode cX6_elbowOf 5 = .ok (.istore_n 2, 1) := by decide +kernel
theorem dX6_elbowOf_6 : decode cX6_elbowOf 6 = .ok (.sipush 999, 3) := by decide +kernel
theorem dX6_elbowOf_9 : decode cX6_elbowOf 9 = .ok (.istore_n 3, 1) := by decide +kernel
theorem dX6_elbowOf_10 : decode cX6_elbowOf 10 = .ok (.iconst 0, 1) := by decide +kernel
theorem dX6_elbowOf_11 : decode cX6_elbowOf 11 = .ok (.istore 4, 2) := by decide +kernel
theorem dX6_elbowOf_13 : decode cX6_elbowOf 13 = .ok (.iload 4, 2) := by decide +kernel
theorem dX6_elbowOf_15 : decode cX6_elbowOf 15 = .ok (.bipush 40, 2) := by decide +kernel
theorem dX6_elbowOf_17 : decode cX6_elbowOf 17 = .ok (.if_icmp .ge 75, 3) := by decide +kernel
theorem dX6_elbowOf_20 : decode cX6_elbowOf 20 = .ok (.aload_n 0, 1) := by decide +kernel
theorem dX6_elbowOf_21 : decode cX6_elbowOf 21 = .ok (.getfield 52, 3) := by decide +kernel
theorem dX6_elbowOf_24 : decode cX6_elbowOf 24 = .ok (.iload 4, 2) := by decide +kernel
theorem dX6_elbowOf_26 : decode cX6_elbowOf 26 = .ok (.aload_n 0, 1) := by decide +kernel
theorem dX6_elbowOf_27 : decode cX6_elbowOf 27 = .ok (.getfield 31, 3) := by decide +kernel
theorem dX6_elbowOf_30 : decode cX6_elbowOf 30 = .ok (.iload 4, 2) := by decide +kernel
theorem dX6_elbowOf_32 : decode cX6_elbowOf 32 = .ok (.iaload, 1) := by decide +kernel
theorem dX6_elbowOf_33 : decode cX6_elbowOf 33 = .ok (.iconst 1, 1) := by decide +kernel
theorem dX6_elbowOf_34 : decode cX6_elbowOf 34 = .ok (.iadd, 1) := by decide +kernel
theorem dX6_elbowOf_35 : decode cX6_elbowOf 35 = .ok (.iastore, 1) := by decide +kernel
theorem dX6_elbowOf_36 : decode cX6_elbowOf 36 = .ok (.aload_n 0, 1) := by decide +kernel
theorem dX6_elbowOf_37 : decode cX6_elbowOf 37 = .ok (.invokevirtual 210, 3) := by decide +kernel
theorem dX6_elbowOf_40 : decode cX6_elbowOf 40 = .ok (.aload_n 0, 1) := by decide +kernel
theorem dX6_elbowOf_41 : decode cX6_elbowOf 41 = .ok (.getfield 52, 3) := by decide +kernel
theorem dX6_elbowOf_44 : decode cX6_elbowOf 44 = .ok (.iload 4, 2) := by decide +kernel
theorem dX6_elbowOf_46 : decode cX6_elbowOf 46 = .ok (.aload_n 0, 1) := by decide +kernel
theorem dX6_elbowOf_47 : decode cX6_elbowOf 47 = .ok (.getfield 31, 3) := by decide +kernel
theorem dX6_elbowOf_50 : decode cX6_elbowOf 50 = .ok (.iload 4, 2) := by decide +kernel
theorem dX6_elbowOf_52 : decode cX6_elbowOf 52 = .ok (.iaload, 1) := by decide +kernel
theorem dX6_elbowOf_53 : decode cX6_elbowOf 53 = .ok (.iastore, 1) := by decide +kernel
theorem dX6_elbowOf_54 : decode cX6_elbowOf 54 = .ok (.aload_n 0, 1) := by decide +kernel
theorem dX6_elbowOf_55 : decode cX6_elbowOf 55 = .ok (.invokevirtual 238, 3) := by decide +kernel
theorem dX6_elbowOf_58 : decode cX6_elbowOf 58 = .ok (.istore 5, 2) := by decide +kernel
theorem dX6_elbowOf_60 : decode cX6_elbowOf 60 = .ok (.iload 5, 2) := by decide +kernel
theorem dX6_elbowOf_62 : decode cX6_elbowOf 62 = .ok (.iload_n 3, 1) := by decide +kernel
theorem dX6_elbowOf_63 : decode cX6_elbowOf 63 = .ok (.if_icmp .ge 8, 3) := by decide +kernel
theorem dX6_elbowOf_66 : decode cX6_elbowOf 66 = .ok (.iload 4, 2) := by decide +kernel
theorem dX6_elbowOf_68 : decode cX6_elbowOf 68 = .ok (.goto 4, 3) := by decide +kernel
theorem dX6_elbowOf_71 : decode cX6_elbowOf 71 = .ok (.iload_n 2, 1) := by decide +kernel
theorem dX6_elbowOf_72 : decode cX6_elbowOf 72 = .ok (.istore_n 2, 1) := by decide +kernel
theorem dX6_elbowOf_73 : decode cX6_elbowOf 73 = .ok (.iload 5, 2) := by decide +kernel
theorem dX6_elbowOf_75 : decode cX6_elbowOf 75 = .ok (.iload_n 3, 1) := by decide +kernel
theorem dX6_elbowOf_76 : decode cX6_elbowOf 76 = .ok (.if_icmp .ge 8, 3) := by decide +kernel
theorem dX6_elbowOf_79 : decode cX6_elbowOf 79 = .ok (.iload 5, 2) := by decide +kernel
theorem dX6_elbowOf_81 : decode cX6_elbowOf 81 = .ok (.goto 4, 3) := by decide +kernel
theorem dX6_elbowOf_84 : decode cX6_elbowOf 84 = .ok (.iload_n 3, 1) := by decide +kernel
theorem dX6_elbowOf_85 : decode cX6_elbowOf 85 = .ok (.istore_n 3, 1) := by decide +kernel
theorem dX6_elbowOf_86 : decode cX6_elbowOf 86 = .ok (.iinc 4 1, 3) := by decide +kernel
theorem dX6_elbowOf_89 : decode cX6_elbowOf 89 = .ok (.goto (-76), 3) := by decide +kernel
theorem dX6_elbowOf_92 : decode cX6_elbowOf 92 = .ok (.iload_n 1, 1) := by decide +kernel
theorem dX6_elbowOf_93 : decode cX6_elbowOf 93 = .ok (.ifCond .ne 7, 3) := by decide +kernel
theorem dX6_elbowOf_96 : decode cX6_elbowOf 96 = .ok (.iload_n 2, 1) := by decide +kernel
theorem dX6_elbowOf_97 : decode cX6_elbowOf 97 = .ok (.goto 4, 3) := by decide +kernel
theorem dX6_elbowOf_100 : decode cX6_elbowOf 100 = .ok (.iload_n 3, 1) := by decide +kernel
theorem dX6_elbowOf_101 : decode cX6_elbowOf 101 = .ok (.ireturn, 1) := by decide +kernel
theorem dX6_elbow_0 : decode cX6_elbow 0 = .ok (.iload_n 1, 1) := by decide +kernel
theorem dX6_elbow_1 : decode cX6_elbow 1 = .ok (.iconst 0, 1) := by decide +kernel
theorem dX6_elbow_2 : decode cX6_elbow 2 = .ok (.iconst 1, 1) := by decide +kernel
theorem dX6_elbow_3 : decode cX6_elbow 3 = .ok (.invokestatic 103, 3) := by decide +kernel
theorem dX6_elbow_6 : decode cX6_elbow 6 = .ok (.ifCond .eq 11, 3) := by decide +kernel
theorem dX6_elbow_9 : decode cX6_elbow 9 = .ok (.aload_n 0, 1) := by decide +kernel
theorem dX6_elbow_10 : decode cX6_elbow 10 = .ok (.iload_n 1, 1) := by decide +kernel
theorem dX6_elbow_11 : decode cX6_elbow 11 = .ok (.invokevirtual 241, 3) := by decide +kernel
theorem dX6_elbow_14 : decode cX6_elbow 14 = .ok (.goto 5, 3) := by decide +kernel
theorem dX6_elbow_17 : decode cX6_elbow 17 = .ok (.bipush (-2), 2) := by decide +kernel
theorem dX6_elbow_19 : decode cX6_elbow 19 = .ok (.ireturn, 1) := by decide +kernel
theorem dX6_shutOf_0 : decode cX6_shutOf 0 = .ok (.aload_n 0, 1) := by decide +kernel
theorem dX6_shutOf_1 : decode cX6_shutOf 1 = .ok (.invokevirtual 207, 3) := by decide +kernel
theorem dX6_shutOf_4 : decode cX6_shutOf 4 = .ok (.iconst (-1), 1) := by decide +kernel
theorem dX6_shutOf_5 : decode cX6_shutOf 5 = .ok (.istore_n 3, 1) := by decide +kernel
theorem dX6_shutOf_6 : decode cX6_shutOf 6 = .ok (.sipush 999, 3) := by decide +kernel
theorem dX6_shutOf_9 : decode cX6_shutOf 9 = .ok (.istore 4, 2) := by decide +kernel
theorem dX6_shutOf_11 : decode cX6_shutOf 11 = .ok (.iconst 0, 1) := by decide +kernel
theorem dX6_shutOf_12 : decode cX6_shutOf 12 = .ok (.istore 5, 2) := by decide +kernel
theorem dX6_shutOf_14 : decode cX6_shutOf 14 = .ok (.iload 5, 2) := by decide +kernel
theorem dX6_shutOf_16 : decode cX6_shutOf 16 = .ok (.aload_n 0, 1) := by decide +kernel
theorem dX6_shutOf_17 : decode cX6_shutOf 17 = .ok (.getfield 118, 3) := by decide +kernel
theorem dX6_shutOf_20 : decode cX6_shutOf 20 = .ok (.if_icmp .ge 62, 3) := by decide +kernel
theorem dX6_shutOf_23 : decode cX6_shutOf 23 = .ok (.iload 5, 2) := by decide +kernel
theorem dX6_shutOf_25 : decode cX6_shutOf 25 = .ok (.iload_n 1, 1) := by decide +kernel
theorem dX6_shutOf_26 : decode cX6_shutOf 26 = .ok (.if_icmp .eq 50, 3) := by decide +kernel
theorem dX6_shutOf_29 : decode cX6_shutOf 29 = .ok (.aload_n 0, 1) := by decide +kernel
theorem dX6_shutOf_30 : decode cX6_shutOf 30 = .ok (.iload 5, 2) := by decide +kernel
theorem dX6_shutOf_32 : decode cX6_shutOf 32 = .ok (.putfield 175, 3) := by decide +kernel
theorem dX6_shutOf_35 : decode cX6_shutOf 35 = .ok (.aload_n 0, 1) := by decide +kernel
theorem dX6_shutOf_36 : decode cX6_shutOf 36 = .ok (.invokevirtual 210, 3) := by decide +kernel
theorem dX6_shutOf_39 : decode cX6_shutOf 39 = .ok (.aload_n 0, 1) := by decide +kernel
theorem dX6_shutOf_40 : decode cX6_shutOf 40 = .ok (.iload_n 1, 1) := by decide +kernel
theorem dX6_shutOf_41 : decode cX6_shutOf 41 = .ok (.invokevirtual 223, 3) := by decide +kernel
theorem dX6_shutOf_44 : decode cX6_shutOf 44 = .ok (.istore 6, 2) := by decide +kernel
theorem dX6_shutOf_46 : decode cX6_shutOf 46 = .ok (.iload 6, 2) := by decide +kernel
theorem dX6_shutOf_48 : decode cX6_shutOf 48 = .ok (.iload 4, 2) := by decide +kernel
theorem dX6_shutOf_50 : decode cX6_shutOf 50 = .ok (.if_icmp .ge 8, 3) := by decide +kernel
theorem dX6_shutOf_53 : decode cX6_shutOf 53 = .ok (.iload 5, 2) := by decide +kernel
theorem dX6_shutOf_55 : decode cX6_shutOf 55 = .ok (.goto 4, 3) := by decide +kernel
theorem dX6_shutOf_58 : decode cX6_shutOf 58 = .ok (.iload_n 3, 1) := by decide +kernel
theorem dX6_shutOf_59 : decode cX6_shutOf 59 = .ok (.istore_n 3, 1) := by decide +kernel
theorem dX6_shutOf_60 : decode cX6_shutOf 60 = .ok (.iload 6, 2) := by decide +kernel
theorem dX6_shutOf_62 : decode cX6_shutOf 62 = .ok (.iload 4, 2) := by decide +kernel
theorem dX6_shutOf_64 : decode cX6_shutOf 64 = .ok (.if_icmp .ge 8, 3) := by decide +kernel
theorem dX6_shutOf_67 : decode cX6_shutOf 67 = .ok (.iload 6, 2) := by decide +kernel
theorem dX6_shutOf_69 : decode cX6_shutOf 69 = .ok (.goto 5, 3) := by decide +kernel
theorem dX6_shutOf_72 : decode cX6_shutOf 72 = .ok (.iload 4, 2) := by decide +kernel
theorem dX6_shutOf_74 : decode cX6_shutOf 74 = .ok (.istore 4, 2) := by decide +kernel
theorem dX6_shutOf_76 : decode cX6_shutOf 76 = .ok (.iinc 5 1, 3) := by decide +kernel
theorem dX6_shutOf_79 : decode cX6_shutOf 79 = .ok (.goto (-65), 3) := by decide +kernel
theorem dX6_shutOf_82 : decode cX6_shutOf 82 = .ok (.iload_n 3, 1) := by decide +kernel
theorem dX6_shutOf_83 : decode cX6_shutOf 83 = .ok (.iconst (-1), 1) := by decide +kernel
theorem dX6_shutOf_84 : decode cX6_shutOf 84 = .ok (.if_icmp .eq 7, 3) := by decide +kernel
theorem dX6_shutOf_87 : decode cX6_shutOf 87 = .ok (.iload_n 2, 1) := by decide +kernel
theorem dX6_shutOf_88 : decode cX6_shutOf 88 = .ok (.ifCond .ne 7, 3) := by decide +kernel
theorem dX6_shutOf_91 : decode cX6_shutOf 91 = .ok (.iload_n 3, 1) := by decide +kernel
theorem dX6_shutOf_92 : decode cX6_shutOf 92 = .ok (.goto 5, 3) := by decide +kernel
theorem dX6_shutOf_95 : decode cX6_shutOf 95 = .ok (.iload 4, 2) := by decide +kernel
theorem dX6_shutOf_97 : decode cX6_shutOf 97 = .ok (.ireturn, 1) := by decide +kernel
theorem dX6_shut_0 : decode cX6_shut 0 = .ok (.aload_n 0, 1) := by decide +kernel
theorem dX6_shut_1 : decode cX6_shut 1 = .ok (.iload_n 1, 1) := by decide +kernel
theorem dX6_shut_2 : decode cX6_shut 2 = .ok (.invokevirtual 142, 3) := by decide +kernel
theorem dX6_shut_5 : decode cX6_shut 5 = .ok (.ifCond .eq 21, 3) := by decide +kernel
theorem dX6_shut_8 : decode cX6_shut 8 = .ok (.iload_n 2, 1) := by decide +kernel
theorem dX6_shut_9 : decode cX6_shut 9 = .ok (.iconst 0, 1) := by decide +kernel
theorem dX6_shut_10 : decode cX6_shut 10 = .ok (.iconst 1, 1) := by decide +kernel
theorem dX6_shut_11 : decode cX6_shut 11 = .ok (.invokestatic 103, 3) := by decide +kernel
theorem dX6_shut_14 : decode cX6_shut 14 = .ok (.ifCond .eq 12, 3) := by decide +kernel
theorem dX6_shut_17 : decode cX6_shut 17 = .ok (.aload_n 0, 1) := by decide +kernel
theorem dX6_shut_18 : decode cX6_shut 18 = .ok (.iload_n 1, 1) := by decide +kernel
theorem dX6_shut_19 : decode cX6_shut 19 = .ok (.iload_n 2, 1) := by decide +kernel
theorem dX6_shut_20 : decode cX6_shut 20 = .ok (.invokevirtual 244, 3) := by decide +kernel
theorem dX6_shut_23 : decode cX6_shut 23 = .ok (.goto 5, 3) := by decide +kernel
theorem dX6_shut_26 : decode cX6_shut 26 = .ok (.bipush (-2), 2) := by decide +kernel
theorem dX6_shut_28 : decode cX6_shut 28 = .ok (.ireturn, 1) := by decide +kernel
theorem dX6_leastNow_0 : decode cX6_leastNow 0 = .ok (.aload_n 0, 1) := by decide +kernel
theorem dX6_leastNow_1 : decode cX6_leastNow 1 = .ok (.invokevirtual 207, 3) := by decide +kernel
theorem dX6_leastNow_4 : decode cX6_leastNow 4 = .ok (.iconst (-1), 1) := by decide +kernel
theorem dX6_leastNow_5 : decode cX6_leastNow 5 = .ok (.istore_n 1, 1) := by decide +kernel
theorem dX6_leastNow_6 : decode cX6_leastNow 6 = .ok (.iconst 0, 1) := by decide +kernel
theorem dX6_leastNow_7 : decode cX6_leastNow 7 = .ok (.istore_n 2, 1) := by decide +kernel
theorem dX6_leastNow_8 : decode cX6_leastNow 8 = .ok (.iload_n 2, 1) := by decide +kernel
theorem dX6_leastNow_9 : decode cX6_leastNow 9 = .ok (.bipush 61, 2) := by decide +kernel
theorem dX6_leastNow_11 : decode cX6_leastNow 11 = .ok (.if_icmp .ge 36, 3) := by decide +kernel
theorem dX6_leastNow_14 : decode cX6_leastNow 14 = .ok (.iload_n 1, 1) := by decide +kernel
theorem dX6_leastNow_15 : decode cX6_leastNow 15 = .ok (.iconst (-1), 1) := by decide +kernel
theorem dX6_leastNow_16 : decode cX6_leastNow 16 = .ok (.if_icmp .ne 31, 3) := by decide +kernel
theorem dX6_leastNow_19 : decode cX6_leastNow 19 = .ok (.aload_n 0, 1) := by decide +kernel
theorem dX6_leastNow_20 : decode cX6_leastNow 20 = .ok (.iload_n 2, 1) := by decide +kernel
theorem dX6_leastNow_21 : decode cX6_leastNow 21 = .ok (.putfield 178, 3) := by decide +kernel
theorem dX6_leastNow_24 : decode cX6_leastNow 24 = .ok (.aload_n 0, 1) := by decide +kernel
theorem dX6_leastNow_25 : decode cX6_leastNow 25 = .ok (.invokevirtual 210, 3) := by decide +kernel
theorem dX6_leastNow_28 : decode cX6_leastNow 28 = .ok (.aload_n 0, 1) := by decide +kernel
theorem dX6_leastNow_29 : decode cX6_leastNow 29 = .ok (.invokevirtual 238, 3) := by decide +kernel
theorem dX6_leastNow_32 : decode cX6_leastNow 32 = .ok (.ifCond .ne 7, 3) := by decide +kernel
theorem dX6_leastNow_35 : decode cX6_leastNow 35 = .ok (.iload_n 2, 1) := by decide +kernel
theorem dX6_leastNow_36 : decode cX6_leastNow 36 = .ok (.goto 4, 3) := by decide +kernel
theorem dX6_leastNow_39 : decode cX6_leastNow 39 = .ok (.iconst (-1), 1) := by decide +kernel
theorem dX6_leastNow_40 : decode cX6_leastNow 40 = .ok (.istore_n 1, 1) := by decide +kernel
theorem dX6_leastNow_41 : decode cX6_leastNow 41 = .ok (.iinc 2 1, 3) := by decide +kernel
theorem dX6_leastNow_44 : decode cX6_leastNow 44 = .ok (.goto (-36), 3) := by decide +kernel
theorem dX6_leastNow_47 : decode cX6_leastNow 47 = .ok (.iload_n 1, 1) := by decide +kernel
theorem dX6_leastNow_48 : decode cX6_leastNow 48 = .ok (.ireturn, 1) := by decide +kernel
theorem dX6_least_0 : decode cX6_least 0 = .ok (.aload_n 0, 1) := by decide +kernel
theorem dX6_least_1 : decode cX6_least 1 = .ok (.invokevirtual 247, 3) := by decide +kernel
theorem dX6_least_4 : decode cX6_least 4 = .ok (.ireturn, 1) := by decide +kernel
theorem dX6_patchOf_0 : decode cX6_patchOf 0 = .ok (.aload_n 0, 1) := by decide +kernel
theorem dX6_patchOf_1 : decode cX6_patchOf 1 = .ok (.invokevirtual 207, 3) := by decide +kernel
theorem dX6_patchOf_4 : decode cX6_patchOf 4 = .ok (.iconst (-1), 1) := by decide +kernel
theorem dX6_patchOf_5 : decode cX6_patchOf 5 = .ok (.istore_n 2, 1) := by decide +kernel
theorem dX6_patchOf_6 : decode cX6_patchOf 6 = .ok (.sipush 999, 3) := by decide +kernel
theorem dX6_patchOf_9 : decode cX6_patchOf 9 = .ok (.istore_n 3, 1) := by decide +kernel
theorem dX6_patchOf_10 : decode cX6_patchOf 10 = .ok (.iconst 0, 1) := by decide +kernel
theorem dX6_patchOf_11 : decode cX6_patchOf 11 = .ok (.istore 4, 2) := by decide +kernel
theorem dX6_patchOf_13 : decode cX6_patchOf 13 = .ok (.iload 4, 2) := by decide +kernel
theorem dX6_patchOf_15 : decode cX6_patchOf 15 = .ok (.aload_n 0, 1) := by decide +kernel
theorem dX6_patchOf_16 : decode cX6_patchOf 16 = .ok (.getfield 154, 3) := by decide +kernel
theorem dX6_patchOf_19 : decode cX6_patchOf 19 = .ok (.if_icmp .ge 53, 3) := by decide +kernel
theorem dX6_patchOf_22 : decode cX6_patchOf 22 = .ok (.aload_n 0, 1) := by decide +kernel
theorem dX6_patchOf_23 : decode cX6_patchOf 23 = .ok (.iconst 1, 1) := by decide +kernel
theorem dX6_patchOf_24 : decode cX6_patchOf 24 = .ok (.iload 4, 2) := by decide +kernel
theorem dX6_patchOf_26 : decode cX6_patchOf 26 = .ok (.ishl, 1) := by decide +kernel
theorem dX6_patchOf_27 : decode cX6_patchOf 27 = .ok (.putfield 169, 3) := by decide +kernel
theorem dX6_patchOf_30 : decode cX6_patchOf 30 = .ok (.aload_n 0, 1) := by decide +kernel
theorem dX6_patchOf_31 : decode cX6_patchOf 31 = .ok (.invokevirtual 210, 3) := by decide +kernel
theorem dX6_patchOf_34 : decode cX6_patchOf 34 = .ok (.aload_n 0, 1) := by decide +kernel
theorem dX6_patchOf_35 : decode cX6_patchOf 35 = .ok (.invokevirtual 238, 3) := by decide +kernel
theorem dX6_patchOf_38 : decode cX6_patchOf 38 = .ok (.istore 5, 2) := by decide +kernel
theorem dX6_patchOf_40 : decode cX6_patchOf 40 = .ok (.iload 5, 2) := by decide +kernel
theorem dX6_patchOf_42 : decode cX6_patchOf 42 = .ok (.iload_n 3, 1) := by decide +kernel
theorem dX6_patchOf_43 : decode cX6_patchOf 43 = .ok (.if_icmp .ge 8, 3) := by decide +kernel
theorem dX6_patchOf_46 : decode cX6_patchOf 46 = .ok (.iload 4, 2) := by decide +kernel
theorem dX6_patchOf_48 : decode cX6_patchOf 48 = .ok (.goto 4, 3) := by decide +kernel
theorem dX6_patchOf_51 : decode cX6_patchOf 51 = .ok (.iload_n 2, 1) := by decide +kernel
theorem dX6_patchOf_52 : decode cX6_patchOf 52 = .ok (.istore_n 2, 1) := by decide +kernel
theorem dX6_patchOf_53 : decode cX6_patchOf 53 = .ok (.iload 5, 2) := by decide +kernel
theorem dX6_patchOf_55 : decode cX6_patchOf 55 = .ok (.iload_n 3, 1) := by decide +kernel
theorem dX6_patchOf_56 : decode cX6_patchOf 56 = .ok (.if_icmp .ge 8, 3) := by decide +kernel
theorem dX6_patchOf_59 : decode cX6_patchOf 59 = .ok (.iload 5, 2) := by decide +kernel
theorem dX6_patchOf_61 : decode cX6_patchOf 61 = .ok (.goto 4, 3) := by decide +kernel
theorem dX6_patchOf_64 : decode cX6_patchOf 64 = .ok (.iload_n 3, 1) := by decide +kernel
theorem dX6_patchOf_65 : decode cX6_patchOf 65 = .ok (.istore_n 3, 1) := by decide +kernel
theorem dX6_patchOf_66 : decode cX6_patchOf 66 = .ok (.iinc 4 1, 3) := by decide +kernel
theorem dX6_patchOf_69 : decode cX6_patchOf 69 = .ok (.goto (-56), 3) := by decide +kernel
theorem dX6_patchOf_72 : decode cX6_patchOf 72 = .ok (.iload_n 2, 1) := by decide +kernel
theorem dX6_patchOf_73 : decode cX6_patchOf 73 = .ok (.iconst (-1), 1) := by decide +kernel
theorem dX6_patchOf_74 : decode cX6_patchOf 74 = .ok (.if_icmp .eq 7, 3) := by decide +kernel
theorem dX6_patchOf_77 : decode cX6_patchOf 77 = .ok (.iload_n 1, 1) := by decide +kernel
theorem dX6_patchOf_78 : decode cX6_patchOf 78 = .ok (.ifCond .ne 7, 3) := by decide +kernel
theorem dX6_patchOf_81 : decode cX6_patchOf 81 = .ok (.iload_n 2, 1) := by decide +kernel
theorem dX6_patchOf_82 : decode cX6_patchOf 82 = .ok (.goto 4, 3) := by decide +kernel
theorem dX6_patchOf_85 : decode cX6_patchOf 85 = .ok (.iload_n 3, 1) := by decide +kernel
theorem dX6_patchOf_86 : decode cX6_patchOf 86 = .ok (.ireturn, 1) := by decide +kernel
theorem dX6_patch_0 : decode cX6_patch 0 = .ok (.iload_n 1, 1) := by decide +kernel
theorem dX6_patch_1 : decode cX6_patch 1 = .ok (.iconst 0, 1) := by decide +kernel
theorem dX6_patch_2 : decode cX6_patch 2 = .ok (.iconst 1, 1) := by decide +kernel
theorem dX6_patch_3 : decode cX6_patch 3 = .ok (.invokestatic 103, 3) := by decide +kernel
theorem dX6_patch_6 : decode cX6_patch 6 = .ok (.ifCond .eq 11, 3) := by decide +kernel
theorem dX6_patch_9 : decode cX6_patch 9 = .ok (.aload_n 0, 1) := by decide +kernel
theorem dX6_patch_10 : decode cX6_patch 10 = .ok (.iload_n 1, 1) := by decide +kernel
theorem dX6_patch_11 : decode cX6_patch 11 = .ok (.invokevirtual 250, 3) := by decide +kernel
theorem dX6_patch_14 : decode cX6_patch 14 = .ok (.goto 5, 3) := by decide +kernel
theorem dX6_patch_17 : decode cX6_patch 17 = .ok (.bipush (-2), 2) := by decide +kernel
theorem dX6_patch_19 : decode cX6_patch 19 = .ok (.ireturn, 1) := by decide +kernel
theorem dX6_seen_0 : decode cX6_seen 0 = .ok (.iload_n 1, 1) := by decide +kernel
theorem dX6_seen_1 : decode cX6_seen 1 = .ok (.invokestatic 148, 3) := by decide +kernel
theorem dX6_seen_4 : decode cX6_seen 4 = .ok (.ifCond .eq 22, 3) := by decide +kernel
theorem dX6_seen_7 : decode cX6_seen 7 = .ok (.iload_n 2, 1) := by decide +kernel
theorem dX6_seen_8 : decode cX6_seen 8 = .ok (.iconst 0, 1) := by decide +kernel
theorem dX6_seen_9 : decode cX6_seen 9 = .ok (.bipush 7, 2) := by decide +kernel
theorem dX6_seen_11 : decode cX6_seen 11 = .ok (.invokestatic 103, 3) := by decide +kernel
theorem dX6_seen_14 : decode cX6_seen 14 = .ok (.ifCond .eq 12, 3) := by decide +kernel
theorem dX6_seen_17 : decode cX6_seen 17 = .ok (.iload_n 3, 1) := by decide +kernel
theorem dX6_seen_18 : decode cX6_seen 18 = .ok (.iconst 0, 1) := by decide +kernel
theorem dX6_seen_19 : decode cX6_seen 19 = .ok (.iconst 4, 1) := by decide +kernel
theorem dX6_seen_20 : decode cX6_seen 20 = .ok (.invokestatic 103, 3) := by decide +kernel
theorem dX6_seen_23 : decode cX6_seen 23 = .ok (.ifCond .ne 6, 3) := by decide +kernel
theorem dX6_seen_26 : decode cX6_seen 26 = .ok (.bipush (-2), 2) := by decide +kernel
theorem dX6_seen_28 : decode cX6_seen 28 = .ok (.ireturn, 1) := by decide +kernel
theorem dX6_seen_29 : decode cX6_seen 29 = .ok (.aload_n 0, 1) := by decide +kernel
theorem dX6_seen_30 : decode cX6_seen 30 = .ok (.getfield 253, 3) := by decide +kernel
theorem dX6_seen_33 : decode cX6_seen 33 = .ok (.bipush 8, 2) := by decide +kernel
theorem dX6_seen_35 : decode cX6_seen 35 = .ok (.if_icmp .ne 6, 3) := by decide +kernel
theorem dX6_seen_38 : decode cX6_seen 38 = .ok (.bipush (-4), 2) := by decide +kernel
theorem dX6_seen_40 : decode cX6_seen 40 = .ok (.ireturn, 1) := by decide +kernel
theorem dX6_seen_41 : decode cX6_seen 41 = .ok (.aload_n 0, 1) := by decide +kernel
theorem dX6_seen_42 : decode cX6_seen 42 = .ok (.getfield 73, 3) := by decide +kernel
theorem dX6_seen_45 : decode cX6_seen 45 = .ok (.aload_n 0, 1) := by decide +kernel
theorem dX6_seen_46 : decode cX6_seen 46 = .ok (.getfield 253, 3) := by decide +kernel
theorem dX6_seen_49 : decode cX6_seen 49 = .ok (.iload_n 1, 1) := by decide +kernel
theorem dX6_seen_50 : decode cX6_seen 50 = .ok (.iastore, 1) := by decide +kernel
theorem dX6_seen_51 : decode cX6_seen 51 = .ok (.aload_n 0, 1) := by decide +kernel
theorem dX6_seen_52 : decode cX6_seen 52 = .ok (.getfield 76, 3) := by decide +kernel
theorem dX6_seen_55 : decode cX6_seen 55 = .ok (.aload_n 0, 1) := by decide +kernel
theorem dX6_seen_56 : decode cX6_seen 56 = .ok (.getfield 253, 3) := by decide +kernel
theorem dX6_seen_59 : decode cX6_seen 59 = .ok (.iload_n 2, 1) := by decide +kernel
theorem dX6_seen_60 : decode cX6_seen 60 = .ok (.iastore, 1) := by decide +kernel
theorem dX6_seen_61 : decode cX6_seen 61 = .ok (.aload_n 0, 1) := by decide +kernel
theorem dX6_seen_62 : decode cX6_seen 62 = .ok (.getfield 79, 3) := by decide +kernel
theorem dX6_seen_65 : decode cX6_seen 65 = .ok (.aload_n 0, 1) := by decide +kernel
theorem dX6_seen_66 : decode cX6_seen 66 = .ok (.getfield 253, 3) := by decide +kernel
theorem dX6_seen_69 : decode cX6_seen 69 = .ok (.iload_n 3, 1) := by decide +kernel
theorem dX6_seen_70 : decode cX6_seen 70 = .ok (.iastore, 1) := by decide +kernel
theorem dX6_seen_71 : decode cX6_seen 71 = .ok (.aload_n 0, 1) := by decide +kernel
theorem dX6_seen_72 : decode cX6_seen 72 = .ok (.dup, 1) := by decide +kernel
theorem dX6_seen_73 : decode cX6_seen 73 = .ok (.getfield 253, 3) := by decide +kernel
theorem dX6_seen_76 : decode cX6_seen 76 = .ok (.iconst 1, 1) := by decide +kernel
theorem dX6_seen_77 : decode cX6_seen 77 = .ok (.iadd, 1) := by decide +kernel
theorem dX6_seen_78 : decode cX6_seen 78 = .ok (.putfield 253, 3) := by decide +kernel
theorem dX6_seen_81 : decode cX6_seen 81 = .ok (.aload_n 0, 1) := by decide +kernel
theorem dX6_seen_82 : decode cX6_seen 82 = .ok (.getfield 253, 3) := by decide +kernel
theorem dX6_seen_85 : decode cX6_seen 85 = .ok (.ireturn, 1) := by decide +kernel
theorem dX6_forget_0 : decode cX6_forget 0 = .ok (.aload_n 0, 1) := by decide +kernel
theorem dX6_forget_1 : decode cX6_forget 1 = .ok (.getfield 253, 3) := by decide +kernel
theorem dX6_forget_4 : decode cX6_forget 4 = .ok (.istore_n 1, 1) := by decide +kernel
theorem dX6_forget_5 : decode cX6_forget 5 = .ok (.aload_n 0, 1) := by decide +kernel
theorem dX6_forget_6 : decode cX6_forget 6 = .ok (.iconst 0, 1) := by decide +kernel
theorem dX6_forget_7 : decode cX6_forget 7 = .ok (.putfield 253, 3) := by decide +kernel
theorem dX6_forget_10 : decode cX6_forget 10 = .ok (.iload_n 1, 1) := by decide +kernel
theorem dX6_forget_11 : decode cX6_forget 11 = .ok (.ireturn, 1) := by decide +kernel
theorem dX6_isSeen_0 : decode cX6_isSeen 0 = .ok (.aload_n 0, 1) := by decide +kernel
theorem dX6_isSeen_1 : decode cX6_isSeen 1 = .ok (.invokevirtual 210, 3) := by decide +kernel
theorem dX6_isSeen_4 : decode cX6_isSeen 4 = .ok (.iconst 1, 1) := by decide +kernel
theorem dX6_isSeen_5 : decode cX6_isSeen 5 = .ok (.istore_n 1, 1) := by decide +kernel
theorem dX6_isSeen_6 : decode cX6_isSeen 6 = .ok (.iconst 0, 1) := by decide +kernel
theorem dX6_isSeen_7 : decode cX6_isSeen 7 = .ok (.istore_n 2, 1) := by decide +kernel
theorem dX6_isSeen_8 : decode cX6_isSeen 8 = .ok (.iload_n 2, 1) := by decide +kernel
theorem dX6_isSeen_9 : decode cX6_isSeen 9 = .ok (.aload_n 0, 1) := by decide +kernel
theorem dX6_isSeen_10 : decode cX6_isSeen 10 = .ok (.getfield 253, 3) := by decide +kernel
theorem dX6_isSeen_13 : decode cX6_isSeen 13 = .ok (.if_icmp .ge 62, 3) := by decide +kernel
theorem dX6_isSeen_16 : decode cX6_isSeen 16 = .ok (.iload_n 1, 1) := by decide +kernel
theorem dX6_isSeen_17 : decode cX6_isSeen 17 = .ok (.ifCond .eq 58, 3) := by decide +kernel
theorem dX6_isSeen_20 : decode cX6_isSeen 20 = .ok (.aload_n 0, 1) := by decide +kernel
theorem dX6_isSeen_21 : decode cX6_isSeen 21 = .ok (.getfield 76, 3) := by decide +kernel
theorem dX6_isSeen_24 : decode cX6_isSeen 24 = .ok (.iload_n 2, 1) := by decide +kernel
theorem dX6_isSeen_25 : decode cX6_isSeen 25 = .ok (.iaload, 1) := by decide +kernel
theorem dX6_isSeen_26 : decode cX6_isSeen 26 = .ok (.aload_n 0, 1) := by decide +kernel
theorem dX6_isSeen_27 : decode cX6_isSeen 27 = .ok (.getfield 118, 3) := by decide +kernel
theorem dX6_isSeen_30 : decode cX6_isSeen 30 = .ok (.if_icmp .ge 37, 3) := by decide +kernel
theorem dX6_isSeen_33 : decode cX6_isSeen 33 = .ok (.aload_n 0, 1) := by decide +kernel
theorem dX6_isSeen_34 : decode cX6_isSeen 34 = .ok (.getfield 70, 3) := by decide +kernel
theorem dX6_isSeen_37 : decode cX6_isSeen 37 = .ok (.bipush 8, 2) := by decide +kernel
theorem dX6_isSeen_39 : decode cX6_isSeen 39 = .ok (.aload_n 0, 1) := by decide +kernel
theorem dX6_isSeen_40 : decode cX6_isSeen 40 = .ok (.getfield 73, 3) := by decide +kernel
theorem dX6_isSeen_43 : decode cX6_isSeen 43 = .ok (.iload_n 2, 1) := by decide +kernel
theorem dX6_isSeen_44 : decode cX6_isSeen 44 = .ok (.iaload, 1) := by decide +kernel
theorem dX6_isSeen_45 : decode cX6_isSeen 45 = .ok (.imul, 1) := by decide +kernel
theorem dX6_isSeen_46 : decode cX6_isSeen 46 = .ok (.aload_n 0, 1) := by decide +kernel
theorem dX6_isSeen_47 : decode cX6_isSeen 47 = .ok (.getfield 76, 3) := by decide +kernel
theorem dX6_isSeen_50 : decode cX6_isSeen 50 = .ok (.iload_n 2, 1) := by decide +kernel
theorem dX6_isSeen_51 : decode cX6_isSeen 51 = .ok (.iaload, 1) := by decide +kernel
theorem dX6_isSeen_52 : decode cX6_isSeen 52 = .ok (.iadd, 1) := by decide +kernel
theorem dX6_isSeen_53 : decode cX6_isSeen 53 = .ok (.iaload, 1) := by decide +kernel
theorem dX6_isSeen_54 : decode cX6_isSeen 54 = .ok (.aload_n 0, 1) := by decide +kernel
theorem dX6_isSeen_55 : decode cX6_isSeen 55 = .ok (.getfield 79, 3) := by decide +kernel
theorem dX6_isSeen_58 : decode cX6_isSeen 58 = .ok (.iload_n 2, 1) := by decide +kernel
theorem dX6_isSeen_59 : decode cX6_isSeen 59 = .ok (.iaload, 1) := by decide +kernel
theorem dX6_isSeen_60 : decode cX6_isSeen 60 = .ok (.if_icmp .ne 7, 3) := by decide +kernel
theorem dX6_isSeen_63 : decode cX6_isSeen 63 = .ok (.iconst 1, 1) := by decide +kernel
theorem dX6_isSeen_64 : decode cX6_isSeen 64 = .ok (.goto 4, 3) := by decide +kernel
theorem dX6_isSeen_67 : decode cX6_isSeen 67 = .ok (.iconst 0, 1) := by decide +kernel
theorem dX6_isSeen_68 : decode cX6_isSeen 68 = .ok (.istore_n 1, 1) := by decide +kernel
theorem dX6_isSeen_69 : decode cX6_isSeen 69 = .ok (.iinc 2 1, 3) := by decide +kernel
theorem dX6_isSeen_72 : decode cX6_isSeen 72 = .ok (.goto (-64), 3) := by decide +kernel
theorem dX6_isSeen_75 : decode cX6_isSeen 75 = .ok (.iload_n 1, 1) := by decide +kernel
theorem dX6_isSeen_76 : decode cX6_isSeen 76 = .ok (.ireturn, 1) := by decide +kernel
theorem dX6_neverNow_0 : decode cX6_neverNow 0 = .ok (.aload_n 0, 1) := by decide +kernel
theorem dX6_neverNow_1 : decode cX6_neverNow 1 = .ok (.invokevirtual 207, 3) := by decide +kernel
theorem dX6_neverNow_4 : decode cX6_neverNow 4 = .ok (.iconst 0, 1) := by decide +kernel
theorem dX6_neverNow_5 : decode cX6_neverNow 5 = .ok (.istore_n 1, 1) := by decide +kernel
theorem dX6_neverNow_6 : decode cX6_neverNow 6 = .ok (.iconst 0, 1) := by decide +kernel
theorem dX6_neverNow_7 : decode cX6_neverNow 7 = .ok (.istore_n 2, 1) := by decide +kernel
theorem dX6_neverNow_8 : decode cX6_neverNow 8 = .ok (.iload_n 2, 1) := by decide +kernel
theorem dX6_neverNow_9 : decode cX6_neverNow 9 = .ok (.aload_n 0, 1) := by decide +kernel
theorem dX6_neverNow_10 : decode cX6_neverNow 10 = .ok (.getfield 157, 3) := by decide +kernel
theorem dX6_neverNow_13 : decode cX6_neverNow 13 = .ok (.if_icmp .ge 33, 3) := by decide +kernel
theorem dX6_neverNow_16 : decode cX6_neverNow 16 = .ok (.aload_n 0, 1) := by decide +kernel
theorem dX6_neverNow_17 : decode cX6_neverNow 17 = .ok (.iconst 1, 1) := by decide +kernel
theorem dX6_neverNow_18 : decode cX6_neverNow 18 = .ok (.iload_n 2, 1) := by decide +kernel
theorem dX6_neverNow_19 : decode cX6_neverNow 19 = .ok (.ishl, 1) := by decide +kernel
theorem dX6_neverNow_20 : decode cX6_neverNow 20 = .ok (.putfield 172, 3) := by decide +kernel
theorem dX6_neverNow_23 : decode cX6_neverNow 23 = .ok (.iload_n 1, 1) := by decide +kernel
theorem dX6_neverNow_24 : decode cX6_neverNow 24 = .ok (.aload_n 0, 1) := by decide +kernel
theorem dX6_neverNow_25 : decode cX6_neverNow 25 = .ok (.invokevirtual 256, 3) := by decide +kernel
theorem dX6_neverNow_28 : decode cX6_neverNow 28 = .ok (.ifCond .eq 9, 3) := by decide +kernel
theorem dX6_neverNow_31 : decode cX6_neverNow 31 = .ok (.iconst 1, 1) := by decide +kernel
theorem dX6_neverNow_32 : decode cX6_neverNow 32 = .ok (.iload_n 2, 1) := by decide +kernel
theorem dX6_neverNow_33 : decode cX6_neverNow 33 = .ok (.ishl, 1) := by decide +kernel
theorem dX6_neverNow_34 : decode cX6_neverNow 34 = .ok (.goto 4, 3) := by decide +kernel
theorem dX6_neverNow_37 : decode cX6_neverNow 37 = .ok (.iconst 0, 1) := by decide +kernel
theorem dX6_neverNow_38 : decode cX6_neverNow 38 = .ok (.ior, 1) := by decide +kernel
theorem dX6_neverNow_39 : decode cX6_neverNow 39 = .ok (.istore_n 1, 1) := by decide +kernel
theorem dX6_neverNow_40 : decode cX6_neverNow 40 = .ok (.iinc 2 1, 3) := by decide +kernel
theorem dX6_neverNow_43 : decode cX6_neverNow 43 = .ok (.goto (-35), 3) := by decide +kernel
theorem dX6_neverNow_46 : decode cX6_neverNow 46 = .ok (.iload_n 1, 1) := by decide +kernel
theorem dX6_neverNow_47 : decode cX6_neverNow 47 = .ok (.ireturn, 1) := by decide +kernel
theorem dX6_never_0 : decode cX6_never 0 = .ok (.aload_n 0, 1) := by decide +kernel
theorem dX6_never_1 : decode cX6_never 1 = .ok (.invokevirtual 260, 3) := by decide +kernel
theorem dX6_never_4 : decode cX6_never 4 = .ok (.ireturn, 1) := by decide +kernel
theorem dX6_wasOf_0 : decode cX6_wasOf 0 = .ok (.aload_n 0, 1) := by decide +kernel
theorem dX6_wasOf_1 : decode cX6_wasOf 1 = .ok (.invokevirtual 207, 3) := by decide +kernel
theorem dX6_wasOf_4 : decode cX6_wasOf 4 = .ok (.aload_n 0, 1) := by decide +kernel
theorem dX6_wasOf_5 : decode cX6_wasOf 5 = .ok (.getfield 22, 3) := by decide +kernel
theorem dX6_wasOf_8 : decode cX6_wasOf 8 = .ok (.iload_n 1, 1) := by decide +kernel
theorem dX6_wasOf_9 : decode cX6_wasOf 9 = .ok (.iaload, 1) := by decide +kernel
theorem dX6_wasOf_10 : decode cX6_wasOf 10 = .ok (.istore_n 2, 1) := by decide +kernel
theorem dX6_wasOf_11 : decode cX6_wasOf 11 = .ok (.iconst 0, 1) := by decide +kernel
theorem dX6_wasOf_12 : decode cX6_wasOf 12 = .ok (.istore_n 3, 1) := by decide +kernel
theorem dX6_wasOf_13 : decode cX6_wasOf 13 = .ok (.iconst 1, 1) := by decide +kernel
theorem dX6_wasOf_14 : decode cX6_wasOf 14 = .ok (.istore 4, 2) := by decide +kernel
theorem dX6_wasOf_16 : decode cX6_wasOf 16 = .ok (.iload 4, 2) := by decide +kernel
theorem dX6_wasOf_18 : decode cX6_wasOf 18 = .ok (.bipush 10, 2) := by decide +kernel
theorem dX6_wasOf_20 : decode cX6_wasOf 20 = .ok (.if_icmp .ge 76, 3) := by decide +kernel
theorem dX6_wasOf_23 : decode cX6_wasOf 23 = .ok (.aload_n 0, 1) := by decide +kernel
theorem dX6_wasOf_24 : decode cX6_wasOf 24 = .ok (.getfield 22, 3) := by decide +kernel
theorem dX6_wasOf_27 : decode cX6_wasOf 27 = .ok (.iload_n 1, 1) := by decide +kernel
theorem dX6_wasOf_28 : decode cX6_wasOf 28 = .ok (.iload 4, 2) := by decide +kernel
theorem dX6_wasOf_30 : decode cX6_wasOf 30 = .ok (.iastore, 1) := by decide +kernel
theorem dX6_wasOf_31 : decode cX6_wasOf 31 = .ok (.iload_n 3, 1) := by decide +kernel
theorem dX6_wasOf_32 : decode cX6_wasOf 32 = .ok (.aload_n 0, 1) := by decide +kernel
theorem dX6_wasOf_33 : decode cX6_wasOf 33 = .ok (.invokevirtual 256, 3) := by decide +kernel
theorem dX6_wasOf_36 : decode cX6_wasOf 36 = .ok (.ifCond .eq 10, 3) := by decide +kernel
theorem dX6_wasOf_39 : decode cX6_wasOf 39 = .ok (.iconst 1, 1) := by decide +kernel
theorem dX6_wasOf_40 : decode cX6_wasOf 40 = .ok (.iload 4, 2) := by decide +kernel
theorem dX6_wasOf_42 : decode cX6_wasOf 42 = .ok (.ishl, 1) := by decide +kernel
theorem dX6_wasOf_43 : decode cX6_wasOf 43 = .ok (.goto 4, 3) := by decide +kernel
theorem dX6_wasOf_46 : decode cX6_wasOf 46 = .ok (.iconst 0, 1) := by decide +kernel
theorem dX6_wasOf_47 : decode cX6_wasOf 47 = .ok (.ior, 1) := by decide +kernel
theorem dX6_wasOf_48 : decode cX6_wasOf 48 = .ok (.istore_n 3, 1) := by decide +kernel
theorem dX6_wasOf_49 : decode cX6_wasOf 49 = .ok (.iconst 0, 1) := by decide +kernel
theorem dX6_wasOf_50 : decode cX6_wasOf 50 = .ok (.istore 5, 2) := by decide +kernel
theorem dX6_wasOf_52 : decode cX6_wasOf 52 = .ok (.iload 5, 2) := by decide +kernel
theorem dX6_wasOf_54 : decode cX6_wasOf 54 = .ok (.bipush 40, 2) := by decide +kernel
theorem dX6_wasOf_56 : decode cX6_wasOf 56 = .ok (.if_icmp .ge 34, 3) := by decide +kernel
theorem dX6_wasOf_59 : decode cX6_wasOf 59 = .ok (.aload_n 0, 1) := by decide +kernel
theorem dX6_wasOf_60 : decode cX6_wasOf 60 = .ok (.getfield 82, 3) := by decide +kernel
theorem dX6_wasOf_63 : decode cX6_wasOf 63 = .ok (.bipush 40, 2) := by decide +kernel
theorem dX6_wasOf_65 : decode cX6_wasOf 65 = .ok (.iload 4, 2) := by decide +kernel
theorem dX6_wasOf_67 : decode cX6_wasOf 67 = .ok (.imul, 1) := by decide +kernel
theorem dX6_wasOf_68 : decode cX6_wasOf 68 = .ok (.iload 5, 2) := by decide +kernel
theorem dX6_wasOf_70 : decode cX6_wasOf 70 = .ok (.iadd, 1) := by decide +kernel
theorem dX6_wasOf_71 : decode cX6_wasOf 71 = .ok (.aload_n 0, 1) := by decide +kernel
theorem dX6_wasOf_72 : decode cX6_wasOf 72 = .ok (.getfield 70, 3) := by decide +kernel
theorem dX6_wasOf_75 : decode cX6_wasOf 75 = .ok (.bipush 8, 2) := by decide +kernel
theorem dX6_wasOf_77 : decode cX6_wasOf 77 = .ok (.iload 5, 2) := by decide +kernel
theorem dX6_wasOf_79 : decode cX6_wasOf 79 = .ok (.imul, 1) := by decide +kernel
theorem dX6_wasOf_80 : decode cX6_wasOf 80 = .ok (.iload_n 1, 1) := by decide +kernel
theorem dX6_wasOf_81 : decode cX6_wasOf 81 = .ok (.iadd, 1) := by decide +kernel
theorem dX6_wasOf_82 : decode cX6_wasOf 82 = .ok (.iaload, 1) := by decide +kernel
theorem dX6_wasOf_83 : decode cX6_wasOf 83 = .ok (.iastore, 1) := by decide +kernel
theorem dX6_wasOf_84 : decode cX6_wasOf 84 = .ok (.iinc 5 1, 3) := by decide +kernel
theorem dX6_wasOf_87 : decode cX6_wasOf 87 = .ok (.goto (-35), 3) := by decide +kernel
theorem dX6_wasOf_90 : decode cX6_wasOf 90 = .ok (.iinc 4 1, 3) := by decide +kernel
theorem dX6_wasOf_93 : decode cX6_wasOf 93 = .ok (.goto (-77), 3) := by decide +kernel
theorem dX6_wasOf_96 : decode cX6_wasOf 96 = .ok (.aload_n 0, 1) := by decide +kernel
theorem dX6_wasOf_97 : decode cX6_wasOf 97 = .ok (.getfield 22, 3) := by decide +kernel
theorem dX6_wasOf_100 : decode cX6_wasOf 100 = .ok (.iload_n 1, 1) := by decide +kernel
theorem dX6_wasOf_101 : decode cX6_wasOf 101 = .ok (.iload_n 2, 1) := by decide +kernel
theorem dX6_wasOf_102 : decode cX6_wasOf 102 = .ok (.iastore, 1) := by decide +kernel
theorem dX6_wasOf_103 : decode cX6_wasOf 103 = .ok (.iload_n 3, 1) := by decide +kernel
theorem dX6_wasOf_104 : decode cX6_wasOf 104 = .ok (.ireturn, 1) := by decide +kernel
theorem dX6_was_0 : decode cX6_was 0 = .ok (.aload_n 0, 1) := by decide +kernel
theorem dX6_was_1 : decode cX6_was 1 = .ok (.iload_n 1, 1) := by decide +kernel
theorem dX6_was_2 : decode cX6_was 2 = .ok (.invokevirtual 142, 3) := by decide +kernel
theorem dX6_was_5 : decode cX6_was 5 = .ok (.ifCond .eq 11, 3) := by decide +kernel
theorem dX6_was_8 : decode cX6_was 8 = .ok (.aload_n 0, 1) := by decide +kernel
theorem dX6_was_9 : decode cX6_was 9 = .ok (.iload_n 1, 1) := by decide +kernel
theorem dX6_was_10 : decode cX6_was 10 = .ok (.invokevirtual 263, 3) := by decide +kernel
theorem dX6_was_13 : decode cX6_was 13 = .ok (.goto 5, 3) := by decide +kernel
theorem dX6_was_16 : decode cX6_was 16 = .ok (.bipush (-2), 2) := by decide +kernel
theorem dX6_was_18 : decode cX6_was 18 = .ok (.ireturn, 1) := by decide +kernel
theorem dX6_startsOf_0 : decode cX6_startsOf 0 = .ok (.aload_n 0, 1) := by decide +kernel
theorem dX6_startsOf_1 : decode cX6_startsOf 1 = .ok (.invokevirtual 207, 3) := by decide +kernel
theorem dX6_startsOf_4 : decode cX6_startsOf 4 = .ok (.iconst 0, 1) := by decide +kernel
theorem dX6_startsOf_5 : decode cX6_startsOf 5 = .ok (.istore_n 2, 1) := by decide +kernel
theorem dX6_startsOf_6 : decode cX6_startsOf 6 = .ok (.iconst (-1), 1) := by decide +kernel
theorem dX6_startsOf_7 : decode cX6_startsOf 7 = .ok (.istore_n 3, 1) := by decide +kernel
theorem dX6_startsOf_8 : decode cX6_startsOf 8 = .ok (.iconst (-1), 1) := by decide +kernel
theorem dX6_startsOf_9 : decode cX6_startsOf 9 = .ok (.istore 4, 2) := by decide +kernel
theorem dX6_startsOf_11 : decode cX6_startsOf 11 = .ok (.iconst 0, 1) := by decide +kernel
theorem dX6_startsOf_12 : decode cX6_startsOf 12 = .ok (.istore 5, 2) := by decide +kernel
theorem dX6_startsOf_14 : decode cX6_startsOf 14 = .ok (.iload 5, 2) := by decide +kernel
theorem dX6_startsOf_16 : decode cX6_startsOf 16 = .ok (.bipush 61, 2) := by decide +kernel
theorem dX6_startsOf_18 : decode cX6_startsOf 18 = .ok (.if_icmp .ge 65, 3) := by decide +kernel
theorem dX6_startsOf_21 : decode cX6_startsOf 21 = .ok (.aload_n 0, 1) := by decide +kernel
theorem dX6_startsOf_22 : decode cX6_startsOf 22 = .ok (.iload 5, 2) := by decide +kernel
theorem dX6_startsOf_24 : decode cX6_startsOf 24 = .ok (.putfield 178, 3) := by decide +kernel
theorem dX6_startsOf_27 : decode cX6_startsOf 27 = .ok (.aload_n 0, 1) := by decide +kernel
theorem dX6_startsOf_28 : decode cX6_startsOf 28 = .ok (.invokevirtual 256, 3) := by decide +kernel
theorem dX6_startsOf_31 : decode cX6_startsOf 31 = .ok (.istore 6, 2) := by decide +kernel
theorem dX6_startsOf_33 : decode cX6_startsOf 33 = .ok (.iload_n 2, 1) := by decide +kernel
theorem dX6_startsOf_34 : decode cX6_startsOf 34 = .ok (.iload 6, 2) := by decide +kernel
theorem dX6_startsOf_36 : decode cX6_startsOf 36 = .ok (.ifCond .eq 7, 3) := by decide +kernel
theorem dX6_startsOf_39 : decode cX6_startsOf 39 = .ok (.iconst 1, 1) := by decide +kernel
theorem dX6_startsOf_40 : decode cX6_startsOf 40 = .ok (.goto 4, 3) := by decide +kernel
theorem dX6_startsOf_43 : decode cX6_startsOf 43 = .ok (.iconst 0, 1) := by decide +kernel
theorem dX6_startsOf_44 : decode cX6_startsOf 44 = .ok (.iadd, 1) := by decide +kernel
theorem dX6_startsOf_45 : decode cX6_startsOf 45 = .ok (.istore_n 2, 1) := by decide +kernel
theorem dX6_startsOf_46 : decode cX6_startsOf 46 = .ok (.iload 6, 2) := by decide +kernel
theorem dX6_startsOf_48 : decode cX6_startsOf 48 = .ok (.ifCond .eq 13, 3) := by decide +kernel
theorem dX6_startsOf_51 : decode cX6_startsOf 51 = .ok (.iload_n 3, 1) := by decide +kernel
theorem dX6_startsOf_52 : decode cX6_startsOf 52 = .ok (.iconst (-1), 1) := by decide +kernel
theorem dX6_startsOf_53 : decode cX6_startsOf 53 = .ok (.if_icmp .ne 8, 3) := by decide +kernel
theorem dX6_startsOf_56 : decode cX6_startsOf 56 = .ok (.iload 5, 2) := by decide +kernel
theorem dX6_startsOf_58 : decode cX6_startsOf 58 = .ok (.goto 4, 3) := by decide +kernel
theorem dX6_startsOf_61 : decode cX6_startsOf 61 = .ok (.iload_n 3, 1) := by decide +kernel
theorem dX6_startsOf_62 : decode cX6_startsOf 62 = .ok (.istore_n 3, 1) := by decide +kernel
theorem dX6_startsOf_63 : decode cX6_startsOf 63 = .ok (.iload 6, 2) := by decide +kernel
theorem dX6_startsOf_65 : decode cX6_startsOf 65 = .ok (.ifCond .eq 8, 3) := by decide +kernel
theorem dX6_startsOf_68 : decode cX6_startsOf 68 = .ok (.iload 5, 2) := by decide +kernel
theorem dX6_startsOf_70 : decode cX6_startsOf 70 = .ok (.goto 5, 3) := by decide +kernel
theorem dX6_startsOf_73 : decode cX6_startsOf 73 = .ok (.iload 4, 2) := by decide +kernel
theorem dX6_startsOf_75 : decode cX6_startsOf 75 = .ok (.istore 4, 2) := by decide +kernel
theorem dX6_startsOf_77 : decode cX6_startsOf 77 = .ok (.iinc 5 1, 3) := by decide +kernel
theorem dX6_startsOf_80 : decode cX6_startsOf 80 = .ok (.goto (-66), 3) := by decide +kernel
theorem dX6_startsOf_83 : decode cX6_startsOf 83 = .ok (.iload_n 1, 1) := by decide +kernel
theorem dX6_startsOf_84 : decode cX6_startsOf 84 = .ok (.ifCond .ne 7, 3) := by decide +kernel
theorem dX6_startsOf_87 : decode cX6_startsOf 87 = .ok (.iload_n 2, 1) := by decide +kernel
theorem dX6_startsOf_88 : decode cX6_startsOf 88 = .ok (.goto 14, 3) := by decide +kernel
theorem dX6_startsOf_91 : decode cX6_startsOf 91 = .ok (.iload_n 1, 1) := by decide +kernel
theorem dX6_startsOf_92 : decode cX6_startsOf 92 = .ok (.iconst 1, 1) := by decide +kernel
theorem dX6_startsOf_93 : decode cX6_startsOf 93 = .ok (.if_icmp .ne 7, 3) := by decide +kernel
theorem dX6_startsOf_96 : decode cX6_startsOf 96 = .ok (.iload_n 3, 1) := by decide +kernel
theorem dX6_startsOf_97 : decode cX6_startsOf 97 = .ok (.goto 5, 3) := by decide +kernel
theorem dX6_startsOf_100 : decode cX6_startsOf 100 = .ok (.iload 4, 2) := by decide +kernel
theorem dX6_startsOf_102 : decode cX6_startsOf 102 = .ok (.ireturn, 1) := by decide +kernel
theorem dX6_starts_0 : decode cX6_starts 0 = .ok (.iload_n 1, 1) := by decide +kernel
theorem dX6_starts_1 : decode cX6_starts 1 = .ok (.iconst 0, 1) := by decide +kernel
theorem dX6_starts_2 : decode cX6_starts 2 = .ok (.iconst 2, 1) := by decide +kernel
theorem dX6_starts_3 : decode cX6_starts 3 = .ok (.invokestatic 103, 3) := by decide +kernel
theorem dX6_starts_6 : decode cX6_starts 6 = .ok (.ifCond .eq 11, 3) := by decide +kernel
theorem dX6_starts_9 : decode cX6_starts 9 = .ok (.aload_n 0, 1) := by decide +kernel
theorem dX6_starts_10 : decode cX6_starts 10 = .ok (.iload_n 1, 1) := by decide +kernel
theorem dX6_starts_11 : decode cX6_starts 11 = .ok (.invokevirtual 266, 3) := by decide +kernel
theorem dX6_starts_14 : decode cX6_starts 14 = .ok (.goto 5, 3) := by decide +kernel
theorem dX6_starts_17 : decode cX6_starts 17 = .ok (.bipush (-2), 2) := by decide +kernel
theorem dX6_starts_19 : decode cX6_starts 19 = .ok (.ireturn, 1) := by decide +kernel
theorem dX6_askOf_0 : decode cX6_askOf 0 = .ok (.aload_n 0, 1) := by decide +kernel
theorem dX6_askOf_1 : decode cX6_askOf 1 = .ok (.iload_n 1, 1) := by decide +kernel
theorem dX6_askOf_2 : decode cX6_askOf 2 = .ok (.invokevirtual 263, 3) := by decide +kernel
theorem dX6_askOf_5 : decode cX6_askOf 5 = .ok (.istore_n 2, 1) := by decide +kernel
theorem dX6_askOf_6 : decode cX6_askOf 6 = .ok (.iconst (-1), 1) := by decide +kernel
theorem dX6_askOf_7 : decode cX6_askOf 7 = .ok (.istore_n 3, 1) := by decide +kernel
theorem dX6_askOf_8 : decode cX6_askOf 8 = .ok (.iconst 0, 1) := by decide +kernel
theorem dX6_askOf_9 : decode cX6_askOf 9 = .ok (.istore 4, 2) := by decide +kernel
theorem dX6_askOf_11 : decode cX6_askOf 11 = .ok (.iconst 0, 1) := by decide +kernel
theorem dX6_askOf_12 : decode cX6_askOf 12 = .ok (.istore 5, 2) := by decide +kernel
theorem dX6_askOf_14 : decode cX6_askOf 14 = .ok (.iload 5, 2) := by decide +kernel
theorem dX6_askOf_16 : decode cX6_askOf 16 = .ok (.bipush 40, 2) := by decide +kernel
theorem dX6_askOf_18 : decode cX6_askOf 18 = .ok (.if_icmp .ge 165, 3) := by decide +kernel
theorem dX6_askOf_21 : decode cX6_askOf 21 = .ok (.iconst 0, 1) := by decide +kernel
theorem dX6_askOf_22 : decode cX6_askOf 22 = .ok (.istore 6, 2) := by decide +kernel
theorem dX6_askOf_24 : decode cX6_askOf 24 = .ok (.iconst 1, 1) := by decide +kernel
theorem dX6_askOf_25 : decode cX6_askOf 25 = .ok (.istore 7, 2) := by decide +kernel
theorem dX6_askOf_27 : decode cX6_askOf 27 = .ok (.iload 7, 2) := by decide +kernel
theorem dX6_askOf_29 : decode cX6_askOf 29 = .ok (.bipush 10, 2) := by decide +kernel
theorem dX6_askOf_31 : decode cX6_askOf 31 = .ok (.if_icmp .ge 101, 3) := by decide +kernel
theorem dX6_askOf_34 : decode cX6_askOf 34 = .ok (.iconst 0, 1) := by decide +kernel
theorem dX6_askOf_35 : decode cX6_askOf 35 = .ok (.istore 8, 2) := by decide +kernel
theorem dX6_askOf_37 : decode cX6_askOf 37 = .ok (.iconst 1, 1) := by decide +kernel
theorem dX6_askOf_38 : decode cX6_askOf 38 = .ok (.istore 9, 2) := by decide +kernel
theorem dX6_askOf_40 : decode cX6_askOf 40 = .ok (.iload 9, 2) := by decide +kernel
theorem dX6_askOf_42 : decode cX6_askOf 42 = .ok (.bipush 10, 2) := by decide +kernel
theorem dX6_askOf_44 : decode cX6_askOf 44 = .ok (.if_icmp .ge 66, 3) := by decide +kernel
theorem dX6_askOf_47 : decode cX6_askOf 47 = .ok (.iload 8, 2) := by decide +kernel
theorem dX6_askOf_49 : decode cX6_askOf 49 = .ok (.iload_n 2, 1) := by decide +kernel
theorem dX6_askOf_50 : decode cX6_askOf 50 = .ok (.iload 7, 2) := by decide +kernel
theorem dX6_askOf_52 : decode cX6_askOf 52 = .ok (.invokestatic 184, 3) := by decide +kernel
theorem dX6_askOf_55 : decode cX6_askOf 55 = .ok (.ifCond .eq 45, 3) := by decide +kernel
theorem dX6_askOf_58 : decode cX6_askOf 58 = .ok (.iload_n 2, 1) := by decide +kernel
theorem dX6_askOf_59 : decode cX6_askOf 59 = .ok (.iload 9, 2) := by decide +kernel
theorem dX6_askOf_61 : decode cX6_askOf 61 = .ok (.invokestatic 184, 3) := by decide +kernel
theorem dX6_askOf_64 : decode cX6_askOf 64 = .ok (.ifCond .eq 36, 3) := by decide +kernel
theorem dX6_askOf_67 : decode cX6_askOf 67 = .ok (.aload_n 0, 1) := by decide +kernel
theorem dX6_askOf_68 : decode cX6_askOf 68 = .ok (.getfield 82, 3) := by decide +kernel
theorem dX6_askOf_71 : decode cX6_askOf 71 = .ok (.bipush 40, 2) := by decide +kernel
theorem dX6_askOf_73 : decode cX6_askOf 73 = .ok (.iload 7, 2) := by decide +kernel
theorem dX6_askOf_75 : decode cX6_askOf 75 = .ok (.imul, 1) := by decide +kernel
theorem dX6_askOf_76 : decode cX6_askOf 76 = .ok (.iload 5, 2) := by decide +kernel
theorem dX6_askOf_78 : decode cX6_askOf 78 = .ok (.iadd, 1) := by decide +kernel
theorem dX6_askOf_79 : decode cX6_askOf 79 = .ok (.iaload, 1) := by decide +kernel
theorem dX6_askOf_80 : decode cX6_askOf 80 = .ok (.aload_n 0, 1) := by decide +kernel
theorem dX6_askOf_81 : decode cX6_askOf 81 = .ok (.getfield 82, 3) := by decide +kernel
theorem dX6_askOf_84 : decode cX6_askOf 84 = .ok (.bipush 40, 2) := by decide +kernel
theorem dX6_askOf_86 : decode cX6_askOf 86 = .ok (.iload 9, 2) := by decide +kernel
theorem dX6_askOf_88 : decode cX6_askOf 88 = .ok (.imul, 1) := by decide +kernel
theorem dX6_askOf_89 : decode cX6_askOf 89 = .ok (.iload 5, 2) := by decide +kernel
theorem dX6_askOf_91 : decode cX6_askOf 91 = .ok (.iadd, 1) := by decide +kernel
theorem dX6_askOf_92 : decode cX6_askOf 92 = .ok (.iaload, 1) := by decide +kernel
theorem dX6_askOf_93 : decode cX6_askOf 93 = .ok (.if_icmp .ne 7, 3) := by decide +kernel
theorem dX6_askOf_96 : decode cX6_askOf 96 = .ok (.iconst 1, 1) := by decide +kernel
theorem dX6_askOf_97 : decode cX6_askOf 97 = .ok (.goto 4, 3) := by decide +kernel
theorem dX6_askOf_100 : decode cX6_askOf 100 = .ok (.iconst 0, 1) := by decide +kernel
theorem dX6_askOf_101 : decode cX6_askOf 101 = .ok (.iadd, 1) := by decide +kernel
theorem dX6_askOf_102 : decode cX6_askOf 102 = .ok (.istore 8, 2) := by decide +kernel
theorem dX6_askOf_104 : decode cX6_askOf 104 = .ok (.iinc 9 1, 3) := by decide +kernel
theorem dX6_askOf_107 : decode cX6_askOf 107 = .ok (.goto (-67), 3) := by decide +kernel
theorem dX6_askOf_110 : decode cX6_askOf 110 = .ok (.iload 8, 2) := by decide +kernel
theorem dX6_askOf_112 : decode cX6_askOf 112 = .ok (.iload 6, 2) := by decide +kernel
theorem dX6_askOf_114 : decode cX6_askOf 114 = .ok (.if_icmp .le 8, 3) := by decide +kernel
theorem dX6_askOf_117 : decode cX6_askOf 117 = .ok (.iload 8, 2) := by decide +kernel
theorem dX6_askOf_119 : decode cX6_askOf 119 = .ok (.goto 5, 3) := by decide +kernel
theorem dX6_askOf_122 : decode cX6_askOf 122 = .ok (.iload 6, 2) := by decide +kernel
theorem dX6_askOf_124 : decode cX6_askOf 124 = .ok (.istore 6, 2) := by decide +kernel
theorem dX6_askOf_126 : decode cX6_askOf 126 = .ok (.iinc 7 1, 3) := by decide +kernel
theorem dX6_askOf_129 : decode cX6_askOf 129 = .ok (.goto (-102), 3) := by decide +kernel
theorem dX6_askOf_132 : decode cX6_askOf 132 = .ok (.iload_n 3, 1) := by decide +kernel
theorem dX6_askOf_133 : decode cX6_askOf 133 = .ok (.iconst (-1), 1) := by decide +kernel
theorem dX6_askOf_134 : decode cX6_askOf 134 = .ok (.if_icmp .eq 10, 3) := by decide +kernel
theorem dX6_askOf_137 : decode cX6_askOf 137 = .ok (.iload 6, 2) := by decide +kernel
theorem dX6_askOf_139 : decode cX6_askOf 139 = .ok (.iload 4, 2) := by decide +kernel
theorem dX6_askOf_141 : decode cX6_askOf 141 = .ok (.if_icmp .ge 7, 3) := by decide +kernel
theorem dX6_askOf_144 : decode cX6_askOf 144 = .ok (.iconst 1, 1) := by decide +kernel
theorem dX6_askOf_145 : decode cX6_askOf 145 = .ok (.goto 4, 3) := by decide +kernel
theorem dX6_askOf_148 : decode cX6_askOf 148 = .ok (.iconst 0, 1) := by decide +kernel
theorem dX6_askOf_149 : decode cX6_askOf 149 = .ok (.istore 7, 2) := by decide +kernel
theorem dX6_askOf_151 : decode cX6_askOf 151 = .ok (.iload 7, 2) := by decide +kernel
theorem dX6_askOf_153 : decode cX6_askOf 153 = .ok (.ifCond .eq 8, 3) := by decide +kernel
theorem dX6_askOf_156 : decode cX6_askOf 156 = .ok (.iload 5, 2) := by decide +kernel
theorem dX6_askOf_158 : decode cX6_askOf 158 = .ok (.goto 4, 3) := by decide +kernel
theorem dX6_askOf_161 : decode cX6_askOf 161 = .ok (.iload_n 3, 1) := by decide +kernel
theorem dX6_askOf_162 : decode cX6_askOf 162 = .ok (.istore_n 3, 1) := by decide +kernel
theorem dX6_askOf_163 : decode cX6_askOf 163 = .ok (.iload 7, 2) := by decide +kernel
theorem dX6_askOf_165 : decode cX6_askOf 165 = .ok (.ifCond .eq 8, 3) := by decide +kernel
theorem dX6_askOf_168 : decode cX6_askOf 168 = .ok (.iload 6, 2) := by decide +kernel
theorem dX6_askOf_170 : decode cX6_askOf 170 = .ok (.goto 5, 3) := by decide +kernel
theorem dX6_askOf_173 : decode cX6_askOf 173 = .ok (.iload 4, 2) := by decide +kernel
theorem dX6_askOf_175 : decode cX6_askOf 175 = .ok (.istore 4, 2) := by decide +kernel
theorem dX6_askOf_177 : decode cX6_askOf 177 = .ok (.iinc 5 1, 3) := by decide +kernel
theorem dX6_askOf_180 : decode cX6_askOf 180 = .ok (.goto (-166), 3) := by decide +kernel
theorem dX6_askOf_183 : decode cX6_askOf 183 = .ok (.iload_n 3, 1) := by decide +kernel
theorem dX6_askOf_184 : decode cX6_askOf 184 = .ok (.ireturn, 1) := by decide +kernel
theorem dX6_ask_0 : decode cX6_ask 0 = .ok (.aload_n 0, 1) := by decide +kernel
theorem dX6_ask_1 : decode cX6_ask 1 = .ok (.iload_n 1, 1) := by decide +kernel
theorem dX6_ask_2 : decode cX6_ask 2 = .ok (.invokevirtual 142, 3) := by decide +kernel
theorem dX6_ask_5 : decode cX6_ask 5 = .ok (.ifCond .eq 11, 3) := by decide +kernel
theorem dX6_ask_8 : decode cX6_ask 8 = .ok (.aload_n 0, 1) := by decide +kernel
theorem dX6_ask_9 : decode cX6_ask 9 = .ok (.iload_n 1, 1) := by decide +kernel
theorem dX6_ask_10 : decode cX6_ask 10 = .ok (.invokevirtual 269, 3) := by decide +kernel
theorem dX6_ask_13 : decode cX6_ask 13 = .ok (.goto 5, 3) := by decide +kernel
theorem dX6_ask_16 : decode cX6_ask 16 = .ok (.bipush (-2), 2) := by decide +kernel
theorem dX6_ask_18 : decode cX6_ask 18 = .ok (.ireturn, 1) := by decide +kernel
theorem dX6_mothOf_0 : decode cX6_mothOf 0 = .ok (.aload_n 0, 1) := by decide +kernel
theorem dX6_mothOf_1 : decode cX6_mothOf 1 = .ok (.invokevirtual 207, 3) := by decide +kernel
theorem dX6_mothOf_4 : decode cX6_mothOf 4 = .ok (.lconst 0, 1) := by decide +kernel
theorem dX6_mothOf_5 : decode cX6_mothOf 5 = .ok (.lstore 4, 2) := by decide +kernel
theorem dX6_mothOf_7 : decode cX6_mothOf 7 = .ok (.iconst 0, 1) := by decide +kernel
theorem dX6_mothOf_8 : decode cX6_mothOf 8 = .ok (.istore 6, 2) := by decide +kernel
theorem dX6_mothOf_10 : decode cX6_mothOf 10 = .ok (.iload 6, 2) := by decide +kernel
theorem dX6_mothOf_12 : decode cX6_mothOf 12 = .ok (.iconst 1, 1) := by decide +kernel
theorem dX6_mothOf_13 : decode cX6_mothOf 13 = .ok (.aload_n 0, 1) := by decide +kernel
theorem dX6_mothOf_14 : decode cX6_mothOf 14 = .ok (.getfield 154, 3) := by decide +kernel
theorem dX6_mothOf_17 : decode cX6_mothOf 17 = .ok (.ishl, 1) := by decide +kernel
theorem dX6_mothOf_18 : decode cX6_mothOf 18 = .ok (.if_icmp .ge 84, 3) := by decide +kernel
theorem dX6_mothOf_21 : decode cX6_mothOf 21 = .ok (.lconst 1, 1) := by decide +kernel
theorem dX6_mothOf_22 : decode cX6_mothOf 22 = .ok (.lstore 7, 2) := by decide +kernel
theorem dX6_mothOf_24 : decode cX6_mothOf 24 = .ok (.iconst 0, 1) := by decide +kernel
theorem dX6_mothOf_25 : decode cX6_mothOf 25 = .ok (.istore 9, 2) := by decide +kernel
theorem dX6_mothOf_27 : decode cX6_mothOf 27 = .ok (.iload 9, 2) := by decide +kernel
theorem dX6_mothOf_29 : decode cX6_mothOf 29 = .ok (.aload_n 0, 1) := by decide +kernel
theorem dX6_mothOf_30 : decode cX6_mothOf 30 = .ok (.getfield 154, 3) := by decide +kernel
theorem dX6_mothOf_33 : decode cX6_mothOf 33 = .ok (.if_icmp .ge 34, 3) := by decide +kernel
theorem dX6_mothOf_36 : decode cX6_mothOf 36 = .ok (.lload 7, 2) := by decide +kernel
theorem dX6_mothOf_38 : decode cX6_mothOf 38 = .ok (.iload 6, 2) := by decide +kernel
theorem dX6_mothOf_40 : decode cX6_mothOf 40 = .ok (.iload 9, 2) := by decide +kernel
theorem dX6_mothOf_42 : decode cX6_mothOf 42 = .ok (.invokestatic 184, 3) := by decide +kernel
theorem dX6_mothOf_45 : decode cX6_mothOf 45 = .ok (.ifCond .eq 11, 3) := by decide +kernel
theorem dX6_mothOf_48 : decode cX6_mothOf 48 = .ok (.bipush 16, 2) := by decide +kernel
theorem dX6_mothOf_50 : decode cX6_mothOf 50 = .ok (.iload_n 1, 1) := by decide +kernel
theorem dX6_mothOf_51 : decode cX6_mothOf 51 = .ok (.isub, 1) := by decide +kernel
theorem dX6_mothOf_52 : decode cX6_mothOf 52 = .ok (.i2l, 1) := by decide +kernel
theorem dX6_mothOf_53 : decode cX6_mothOf 53 = .ok (.goto 5, 3) := by decide +kernel
theorem dX6_mothOf_56 : decode cX6_mothOf 56 = .ok (.iload_n 1, 1) := by decide +kernel
theorem dX6_mothOf_57 : decode cX6_mothOf 57 = .ok (.i2l, 1) := by decide +kernel
theorem dX6_mothOf_58 : decode cX6_mothOf 58 = .ok (.lmul, 1) := by decide +kernel
theorem dX6_mothOf_59 : decode cX6_mothOf 59 = .ok (.lstore 7, 2) := by decide +kernel
theorem dX6_mothOf_61 : decode cX6_mothOf 61 = .ok (.iinc 9 1, 3) := by decide +kernel
theorem dX6_mothOf_64 : decode cX6_mothOf 64 = .ok (.goto (-37), 3) := by decide +kernel
theorem dX6_mothOf_67 : decode cX6_mothOf 67 = .ok (.aload_n 0, 1) := by decide +kernel
theorem dX6_mothOf_68 : decode cX6_mothOf 68 = .ok (.iload 6, 2) := by decide +kernel
theorem dX6_mothOf_70 : decode cX6_mothOf 70 = .ok (.putfield 169, 3) := by decide +kernel
theorem dX6_mothOf_73 : decode cX6_mothOf 73 = .ok (.aload_n 0, 1) := by decide +kernel
theorem dX6_mothOf_74 : decode cX6_mothOf 74 = .ok (.invokevirtual 210, 3) := by decide +kernel
theorem dX6_mothOf_77 : decode cX6_mothOf 77 = .ok (.lload 4, 2) := by decide +kernel
theorem dX6_mothOf_79 : decode cX6_mothOf 79 = .ok (.aload_n 0, 1) := by decide +kernel
theorem dX6_mothOf_80 : decode cX6_mothOf 80 = .ok (.iload_n 2, 1) := by decide +kernel
theorem dX6_mothOf_81 : decode cX6_mothOf 81 = .ok (.invokevirtual 223, 3) := by decide +kernel
theorem dX6_mothOf_84 : decode cX6_mothOf 84 = .ok (.ifCond .ne 8, 3) := by decide +kernel
theorem dX6_mothOf_87 : decode cX6_mothOf 87 = .ok (.lload 7, 2) := by decide +kernel
theorem dX6_mothOf_89 : decode cX6_mothOf 89 = .ok (.goto 4, 3) := by decide +kernel
theorem dX6_mothOf_92 : decode cX6_mothOf 92 = .ok (.lconst 0, 1) := by decide +kernel
theorem dX6_mothOf_93 : decode cX6_mothOf 93 = .ok (.ladd, 1) := by decide +kernel
theorem dX6_mothOf_94 : decode cX6_mothOf 94 = .ok (.lstore 4, 2) := by decide +kernel
theorem dX6_mothOf_96 : decode cX6_mothOf 96 = .ok (.iinc 6 1, 3) := by decide +kernel
theorem dX6_mothOf_99 : decode cX6_mothOf 99 = .ok (.goto (-89), 3) := by decide +kernel
theorem dX6_mothOf_102 : decode cX6_mothOf 102 = .ok (.lload 4, 2) := by decide +kernel
theorem dX6_mothOf_104 : decode cX6_mothOf 104 = .ok (.lconst 1, 1) := by decide +kernel
theorem dX6_mothOf_105 : decode cX6_mothOf 105 = .ok (.iconst 4, 1) := by decide +kernel
theorem dX6_mothOf_106 : decode cX6_mothOf 106 = .ok (.aload_n 0, 1) := by decide +kernel
theorem dX6_mothOf_107 : decode cX6_mothOf 107 = .ok (.getfield 154, 3) := by decide +kernel
theorem dX6_mothOf_110 : decode cX6_mothOf 110 = .ok (.imul, 1) := by decide +kernel
theorem dX6_mothOf_111 : decode cX6_mothOf 111 = .ok (.lshl, 1) := by decide +kernel
theorem dX6_mothOf_112 : decode cX6_mothOf 112 = .ok (.iload_n 3, 1) := by decide +kernel
theorem dX6_mothOf_113 : decode cX6_mothOf 113 = .ok (.invokestatic 272, 3) := by decide +kernel
theorem dX6_mothOf_116 : decode cX6_mothOf 116 = .ok (.lreturn, 1) := by decide +kernel
theorem dX6_moth_0 : decode cX6_moth 0 = .ok (.iload_n 1, 1) := by decide +kernel
theorem dX6_moth_1 : decode cX6_moth 1 = .ok (.iconst 0, 1) := by decide +kernel
theorem dX6_moth_2 : decode cX6_moth 2 = .ok (.bipush 16, 2) := by decide +kernel
theorem dX6_moth_4 : decode cX6_moth 4 = .ok (.invokestatic 103, 3) := by decide +kernel
theorem dX6_moth_7 : decode cX6_moth 7 = .ok (.ifCond .eq 30, 3) := by decide +kernel
theorem dX6_moth_10 : decode cX6_moth 10 = .ok (.aload_n 0, 1) := by decide +kernel
theorem dX6_moth_11 : decode cX6_moth 11 = .ok (.iload_n 2, 1) := by decide +kernel
theorem dX6_moth_12 : decode cX6_moth 12 = .ok (.invokevirtual 142, 3) := by decide +kernel
theorem dX6_moth_15 : decode cX6_moth 15 = .ok (.ifCond .eq 22, 3) := by decide +kernel
theorem dX6_moth_18 : decode cX6_moth 18 = .ok (.iload_n 3, 1) := by decide +kernel
theorem dX6_moth_19 : decode cX6_moth 19 = .ok (.iconst 0, 1) := by decide +kernel
theorem dX6_moth_20 : decode cX6_moth 20 = .ok (.iconst 1, 1) := by decide +kernel
theorem dX6_moth_21 : decode cX6_moth 21 = .ok (.invokestatic 103, 3) := by decide +kernel
theorem dX6_moth_24 : decode cX6_moth 24 = .ok (.ifCond .eq 13, 3) := by decide +kernel
theorem dX6_moth_27 : decode cX6_moth 27 = .ok (.aload_n 0, 1) := by decide +kernel
theorem dX6_moth_28 : decode cX6_moth 28 = .ok (.iload_n 1, 1) := by decide +kernel
theorem dX6_moth_29 : decode cX6_moth 29 = .ok (.iload_n 2, 1) := by decide +kernel
theorem dX6_moth_30 : decode cX6_moth 30 = .ok (.iload_n 3, 1) := by decide +kernel
theorem dX6_moth_31 : decode cX6_moth 31 = .ok (.invokevirtual 276, 3) := by decide +kernel
theorem dX6_moth_34 : decode cX6_moth 34 = .ok (.goto 8, 3) := by decide +kernel
theorem dX6_moth_37 : decode cX6_moth 37 = .ok (.bipush (-2), 2) := by decide +kernel
theorem dX6_moth_39 : decode cX6_moth 39 = .ok (.invokestatic 280, 3) := by decide +kernel
theorem dX6_moth_42 : decode cX6_moth 42 = .ok (.lreturn, 1) := by decide +kernel
theorem dX6_yearOf_0 : decode cX6_yearOf 0 = .ok (.aload_n 0, 1) := by decide +kernel
theorem dX6_yearOf_1 : decode cX6_yearOf 1 = .ok (.invokevirtual 207, 3) := by decide +kernel
theorem dX6_yearOf_4 : decode cX6_yearOf 4 = .ok (.iload_n 1, 1) := by decide +kernel
theorem dX6_yearOf_5 : decode cX6_yearOf 5 = .ok (.istore 4, 2) := by decide +kernel
theorem dX6_yearOf_7 : decode cX6_yearOf 7 = .ok (.iconst 0, 1) := by decide +kernel
theorem dX6_yearOf_8 : decode cX6_yearOf 8 = .ok (.istore 5, 2) := by decide +kernel
theorem dX6_yearOf_10 : decode cX6_yearOf 10 = .ok (.iload 5, 2) := by decide +kernel
theorem dX6_yearOf_12 : decode cX6_yearOf 12 = .ok (.bipush 40, 2) := by decide +kernel
theorem dX6_yearOf_14 : decode cX6_yearOf 14 = .ok (.if_icmp .ge 57, 3) := by decide +kernel
theorem dX6_yearOf_17 : decode cX6_yearOf 17 = .ok (.iload 5, 2) := by decide +kernel
theorem dX6_yearOf_19 : decode cX6_yearOf 19 = .ok (.iload_n 2, 1) := by decide +kernel
theorem dX6_yearOf_20 : decode cX6_yearOf 20 = .ok (.if_icmp .ge 16, 3) := by decide +kernel
theorem dX6_yearOf_23 : decode cX6_yearOf 23 = .ok (.ldc_w 284, 3) := by decide +kernel
theorem dX6_yearOf_26 : decode cX6_yearOf 26 = .ok (.iload 4, 2) := by decide +kernel
theorem dX6_yearOf_28 : decode cX6_yearOf 28 = .ok (.imul, 1) := by decide +kernel
theorem dX6_yearOf_29 : decode cX6_yearOf 29 = .ok (.sipush 12345, 3) := by decide +kernel
theorem dX6_yearOf_32 : decode cX6_yearOf 32 = .ok (.iadd, 1) := by decide +kernel
theorem dX6_yearOf_33 : decode cX6_yearOf 33 = .ok (.goto 5, 3) := by decide +kernel
theorem dX6_yearOf_36 : decode cX6_yearOf 36 = .ok (.iload 4, 2) := by decide +kernel
theorem dX6_yearOf_38 : decode cX6_yearOf 38 = .ok (.istore 4, 2) := by decide +kernel
theorem dX6_yearOf_40 : decode cX6_yearOf 40 = .ok (.aload_n 0, 1) := by decide +kernel
theorem dX6_yearOf_41 : decode cX6_yearOf 41 = .ok (.getfield 52, 3) := by decide +kernel
theorem dX6_yearOf_44 : decode cX6_yearOf 44 = .ok (.iload 5, 2) := by decide +kernel
theorem dX6_yearOf_46 : decode cX6_yearOf 46 = .ok (.iload 5, 2) := by decide +kernel
theorem dX6_yearOf_48 : decode cX6_yearOf 48 = .ok (.iload_n 2, 1) := by decide +kernel
theorem dX6_yearOf_49 : decode cX6_yearOf 49 = .ok (.if_icmp .ge 14, 3) := by decide +kernel
theorem dX6_yearOf_52 : decode cX6_yearOf 52 = .ok (.iload 4, 2) := by decide +kernel
theorem dX6_yearOf_54 : decode cX6_yearOf 54 = .ok (.bipush 16, 2) := by decide +kernel
theorem dX6_yearOf_56 : decode cX6_yearOf 56 = .ok (.iushr, 1) := by decide +kernel
theorem dX6_yearOf_57 : decode cX6_yearOf 57 = .ok (.bipush 10, 2) := by decide +kernel
theorem dX6_yearOf_59 : decode cX6_yearOf 59 = .ok (.irem, 1) := by decide +kernel
theorem dX6_yearOf_60 : decode cX6_yearOf 60 = .ok (.goto 4, 3) := by decide +kernel
theorem dX6_yearOf_63 : decode cX6_yearOf 63 = .ok (.iconst 3, 1) := by decide +kernel
theorem dX6_yearOf_64 : decode cX6_yearOf 64 = .ok (.iastore, 1) := by decide +kernel
theorem dX6_yearOf_65 : decode cX6_yearOf 65 = .ok (.iinc 5 1, 3) := by decide +kernel
theorem dX6_yearOf_68 : decode cX6_yearOf 68 = .ok (.goto (-58), 3) := by decide +kernel
theorem dX6_yearOf_71 : decode cX6_yearOf 71 = .ok (.aload_n 0, 1) := by decide +kernel
theorem dX6_yearOf_72 : decode cX6_yearOf 72 = .ok (.invokevirtual 210, 3) := by decide +kernel
theorem dX6_yearOf_75 : decode cX6_yearOf 75 = .ok (.iload_n 3, 1) := by decide +kernel
theorem dX6_yearOf_76 : decode cX6_yearOf 76 = .ok (.ifCond .ne 10, 3) := by decide +kernel
theorem dX6_yearOf_79 : decode cX6_yearOf 79 = .ok (.aload_n 0, 1) := by decide +kernel
theorem dX6_yearOf_80 : decode cX6_yearOf 80 = .ok (.invokevirtual 238, 3) := by decide +kernel
theorem dX6_yearOf_83 : decode cX6_yearOf 83 = .ok (.goto 7, 3) := by decide +kernel
theorem dX6_yearOf_86 : decode cX6_yearOf 86 = .ok (.aload_n 0, 1) := by decide +kernel
theorem dX6_yearOf_87 : decode cX6_yearOf 87 = .ok (.getfield 191, 3) := by decide +kernel
theorem dX6_yearOf_90 : decode cX6_yearOf 90 = .ok (.ireturn, 1) := by decide +kernel
theorem dX6_year_0 : decode cX6_year 0 = .ok (.iload_n 2, 1) := by decide +kernel
theorem dX6_year_1 : decode cX6_year 1 = .ok (.iconst 0, 1) := by decide +kernel
theorem dX6_year_2 : decode cX6_year 2 = .ok (.bipush 40, 2) := by decide +kernel
theorem dX6_year_4 : decode cX6_year 4 = .ok (.invokestatic 103, 3) := by decide +kernel
theorem dX6_year_7 : decode cX6_year 7 = .ok (.ifCond .eq 22, 3) := by decide +kernel
theorem dX6_year_10 : decode cX6_year 10 = .ok (.iload_n 3, 1) := by decide +kernel
theorem dX6_year_11 : decode cX6_year 11 = .ok (.iconst 0, 1) := by decide +kernel
theorem dX6_year_12 : decode cX6_year 12 = .ok (.iconst 1, 1) := by decide +kernel
theorem dX6_year_13 : decode cX6_year 13 = .ok (.invokestatic 103, 3) := by decide +kernel
theorem dX6_year_16 : decode cX6_year 16 = .ok (.ifCond .eq 13, 3) := by decide +kernel
theorem dX6_year_19 : decode cX6_year 19 = .ok (.aload_n 0, 1) := by decide +kernel
theorem dX6_year_20 : decode cX6_year 20 = .ok (.iload_n 1, 1) := by decide +kernel
theorem dX6_year_21 : decode cX6_year 21 = .ok (.iload_n 2, 1) := by decide +kernel
theorem dX6_year_22 : decode cX6_year 22 = .ok (.iload_n 3, 1) := by decide +kernel
theorem dX6_year_23 : decode cX6_year 23 = .ok (.invokevirtual 285, 3) := by decide +kernel
theorem dX6_year_26 : decode cX6_year 26 = .ok (.goto 5, 3) := by decide +kernel
theorem dX6_year_29 : decode cX6_year 29 = .ok (.bipush (-2), 2) := by decide +kernel
theorem dX6_year_31 : decode cX6_year 31 = .ok (.ireturn, 1) := by decide +kernel
theorem dX6_meets_0 : decode cX6_meets 0 = .ok (.aload_n 0, 1) := by decide +kernel
theorem dX6_meets_1 : decode cX6_meets 1 = .ok (.iload_n 1, 1) := by decide +kernel
theorem dX6_meets_2 : decode cX6_meets 2 = .ok (.putfield 288, 3) := by decide +kernel
theorem dX6_meets_5 : decode cX6_meets 5 = .ok (.bipush (-10), 2) := by decide +kernel
theorem dX6_meets_7 : decode cX6_meets 7 = .ok (.iload_n 1, 1) := by decide +kernel
theorem dX6_meets_8 : decode cX6_meets 8 = .ok (.isub, 1) := by decide +kernel
theorem dX6_meets_9 : decode cX6_meets 9 = .ok (.ireturn, 1) := by decide +kernel
theorem dX6_isSheet_0 : decode cX6_isSheet 0 = .ok (.iload_n 0, 1) := by decide +kernel
theorem dX6_isSheet_1 : decode cX6_isSheet 1 = .ok (.iconst 0, 1) := by decide +kernel
theorem dX6_isSheet_2 : decode cX6_isSheet 2 = .ok (.iconst 3, 1) := by decide +kernel
theorem dX6_isSheet_3 : decode cX6_isSheet 3 = .ok (.invokestatic 103, 3) := by decide +kernel
theorem dX6_isSheet_6 : decode cX6_isSheet 6 = .ok (.ireturn, 1) := by decide +kernel
theorem dX6_sheet_0 : decode cX6_sheet 0 = .ok (.iload_n 1, 1) := by decide +kernel
theorem dX6_sheet_1 : decode cX6_sheet 1 = .ok (.invokestatic 160, 3) := by decide +kernel
theorem dX6_sheet_4 : decode cX6_sheet 4 = .ok (.ifCond .eq 18, 3) := by decide +kernel
theorem dX6_sheet_7 : decode cX6_sheet 7 = .ok (.iload_n 2, 1) := by decide +kernel
theorem dX6_sheet_8 : decode cX6_sheet 8 = .ok (.iconst 0, 1) := by decide +kernel
theorem dX6_sheet_9 : decode cX6_sheet 9 = .ok (.iconst 2, 1) := by decide +kernel
theorem dX6_sheet_10 : decode cX6_sheet 10 = .ok (.invokestatic 103, 3) := by decide +kernel
theorem dX6_sheet_13 : decode cX6_sheet 13 = .ok (.ifCond .eq 9, 3) := by decide +kernel
theorem dX6_sheet_16 : decode cX6_sheet 16 = .ok (.iload_n 3, 1) := by decide +kernel
theorem dX6_sheet_17 : decode cX6_sheet 17 = .ok (.bipush 60, 2) := by decide +kernel
theorem dX6_sheet_19 : decode cX6_sheet 19 = .ok (.if_icmp .le 6, 3) := by decide +kernel
theorem dX6_sheet_22 : decode cX6_sheet 22 = .ok (.bipush (-2), 2) := by decide +kernel
theorem dX6_sheet_24 : decode cX6_sheet 24 = .ok (.ireturn, 1) := by decide +kernel
theorem dX6_sheet_25 : decode cX6_sheet 25 = .ok (.iload_n 3, 1) := by decide +kernel
theorem dX6_sheet_26 : decode cX6_sheet 26 = .ok (.ifCond .ge 9, 3) := by decide +kernel
theorem dX6_sheet_29 : decode cX6_sheet 29 = .ok (.aload_n 0, 1) := by decide +kernel
theorem dX6_sheet_30 : decode cX6_sheet 30 = .ok (.iconst 5, 1) := by decide +kernel
theorem dX6_sheet_31 : decode cX6_sheet 31 = .ok (.invokevirtual 163, 3) := by decide +kernel
theorem dX6_sheet_34 : decode cX6_sheet 34 = .ok (.ireturn, 1) := by decide +kernel
theorem dX6_sheet_35 : decode cX6_sheet 35 = .ok (.aload_n 0, 1) := by decide +kernel
theorem dX6_sheet_36 : decode cX6_sheet 36 = .ok (.getfield 85, 3) := by decide +kernel
theorem dX6_sheet_39 : decode cX6_sheet 39 = .ok (.iload_n 1, 1) := by decide +kernel
theorem dX6_sheet_40 : decode cX6_sheet 40 = .ok (.iconst 1, 1) := by decide +kernel
theorem dX6_sheet_41 : decode cX6_sheet 41 = .ok (.bastore, 1) := by decide +kernel
theorem dX6_sheet_42 : decode cX6_sheet 42 = .ok (.aload_n 0, 1) := by decide +kernel
theorem dX6_sheet_43 : decode cX6_sheet 43 = .ok (.getfield 89, 3) := by decide +kernel
theorem dX6_sheet_46 : decode cX6_sheet 46 = .ok (.iload_n 1, 1) := by decide +kernel
theorem dX6_sheet_47 : decode cX6_sheet 47 = .ok (.iload_n 2, 1) := by decide +kernel
theorem dX6_sheet_48 : decode cX6_sheet 48 = .ok (.iastore, 1) := by decide +kernel
theorem dX6_sheet_49 : decode cX6_sheet 49 = .ok (.aload_n 0, 1) := by decide +kernel
theorem dX6_sheet_50 : decode cX6_sheet 50 = .ok (.getfield 92, 3) := by decide +kernel
theorem dX6_sheet_53 : decode cX6_sheet 53 = .ok (.iload_n 1, 1) := by decide +kernel
theorem dX6_sheet_54 : decode cX6_sheet 54 = .ok (.iload_n 3, 1) := by decide +kernel
theorem dX6_sheet_55 : decode cX6_sheet 55 = .ok (.iastore, 1) := by decide +kernel
theorem dX6_sheet_56 : decode cX6_sheet 56 = .ok (.iconst 0, 1) := by decide +kernel
theorem dX6_sheet_57 : decode cX6_sheet 57 = .ok (.istore 4, 2) := by decide +kernel
theorem dX6_sheet_59 : decode cX6_sheet 59 = .ok (.iload 4, 2) := by decide +kernel
theorem dX6_sheet_61 : decode cX6_sheet 61 = .ok (.bipush 60, 2) := by decide +kernel
theorem dX6_sheet_63 : decode cX6_sheet 63 = .ok (.if_icmp .ge 22, 3) := by decide +kernel
theorem dX6_sheet_66 : decode cX6_sheet 66 = .ok (.aload_n 0, 1) := by decide +kernel
theorem dX6_sheet_67 : decode cX6_sheet 67 = .ok (.getfield 95, 3) := by decide +kernel
theorem dX6_sheet_70 : decode cX6_sheet 70 = .ok (.bipush 60, 2) := by decide +kernel
theorem dX6_sheet_72 : decode cX6_sheet 72 = .ok (.iload_n 1, 1) := by decide +kernel
theorem dX6_sheet_73 : decode cX6_sheet 73 = .ok (.imul, 1) := by decide +kernel
theorem dX6_sheet_74 : decode cX6_sheet 74 = .ok (.iload 4, 2) := by decide +kernel
theorem dX6_sheet_76 : decode cX6_sheet 76 = .ok (.iadd, 1) := by decide +kernel
theorem dX6_sheet_77 : decode cX6_sheet 77 = .ok (.iconst 0, 1) := by decide +kernel
theorem dX6_sheet_78 : decode cX6_sheet 78 = .ok (.iastore, 1) := by decide +kernel
theorem dX6_sheet_79 : decode cX6_sheet 79 = .ok (.iinc 4 1, 3) := by decide +kernel
theorem dX6_sheet_82 : decode cX6_sheet 82 = .ok (.goto (-23), 3) := by decide +kernel
theorem dX6_sheet_85 : decode cX6_sheet 85 = .ok (.iload_n 3, 1) := by decide +kernel
theorem dX6_sheet_86 : decode cX6_sheet 86 = .ok (.ireturn, 1) := by decide +kernel
theorem dX6_lose_0 : decode cX6_lose 0 = .ok (.iload_n 1, 1) := by decide +kernel
theorem dX6_lose_1 : decode cX6_lose 1 = .ok (.invokestatic 160, 3) := by decide +kernel
theorem dX6_lose_4 : decode cX6_lose 4 = .ok (.ifCond .ne 6, 3) := by decide +kernel
theorem dX6_lose_7 : decode cX6_lose 7 = .ok (.bipush (-2), 2) := by decide +kernel
theorem dX6_lose_9 : decode cX6_lose 9 = .ok (.ireturn, 1) := by decide +kernel
theorem dX6_lose_10 : decode cX6_lose 10 = .ok (.aload_n 0, 1) := by decide +kernel
theorem dX6_lose_11 : decode cX6_lose 11 = .ok (.getfield 85, 3) := by decide +kernel
theorem dX6_lose_14 : decode cX6_lose 14 = .ok (.iload_n 1, 1) := by decide +kernel
theorem dX6_lose_15 : decode cX6_lose 15 = .ok (.baload, 1) := by decide +kernel
theorem dX6_lose_16 : decode cX6_lose 16 = .ok (.ifCond .ne 9, 3) := by decide +kernel
theorem dX6_lose_19 : decode cX6_lose 19 = .ok (.aload_n 0, 1) := by decide +kernel
theorem dX6_lose_20 : decode cX6_lose 20 = .ok (.iconst 1, 1) := by decide +kernel
theorem dX6_lose_21 : decode cX6_lose 21 = .ok (.invokevirtual 163, 3) := by decide +kernel
theorem dX6_lose_24 : decode cX6_lose 24 = .ok (.ireturn, 1) := by decide +kernel
theorem dX6_lose_25 : decode cX6_lose 25 = .ok (.aload_n 0, 1) := by decide +kernel
theorem dX6_lose_26 : decode cX6_lose 26 = .ok (.getfield 85, 3) := by decide +kernel
theorem dX6_lose_29 : decode cX6_lose 29 = .ok (.iload_n 1, 1) := by decide +kernel
theorem dX6_lose_30 : decode cX6_lose 30 = .ok (.iconst 0, 1) := by decide +kernel
theorem dX6_lose_31 : decode cX6_lose 31 = .ok (.bastore, 1) := by decide +kernel
theorem dX6_lose_32 : decode cX6_lose 32 = .ok (.aload_n 0, 1) := by decide +kernel
theorem dX6_lose_33 : decode cX6_lose 33 = .ok (.getfield 92, 3) := by decide +kernel
theorem dX6_lose_36 : decode cX6_lose 36 = .ok (.iload_n 1, 1) := by decide +kernel
theorem dX6_lose_37 : decode cX6_lose 37 = .ok (.iaload, 1) := by decide +kernel
theorem dX6_lose_38 : decode cX6_lose 38 = .ok (.ireturn, 1) := by decide +kernel
theorem dX6_lacks_0 : decode cX6_lacks 0 = .ok (.aload_n 0, 1) := by decide +kernel
theorem dX6_lacks_1 : decode cX6_lacks 1 = .ok (.getfield 85, 3) := by decide +kernel
theorem dX6_lacks_4 : decode cX6_lacks 4 = .ok (.iload_n 1, 1) := by decide +kernel
theorem dX6_lacks_5 : decode cX6_lacks 5 = .ok (.baload, 1) := by decide +kernel
theorem dX6_lacks_6 : decode cX6_lacks 6 = .ok (.ifCond .ne 7, 3) := by decide +kernel
theorem dX6_lacks_9 : decode cX6_lacks 9 = .ok (.iconst 1, 1) := by decide +kernel
theorem dX6_lacks_10 : decode cX6_lacks 10 = .ok (.goto 38, 3) := by decide +kernel
theorem dX6_lacks_13 : decode cX6_lacks 13 = .ok (.aload_n 0, 1) := by decide +kernel
theorem dX6_lacks_14 : decode cX6_lacks 14 = .ok (.getfield 89, 3) := by decide +kernel
theorem dX6_lacks_17 : decode cX6_lacks 17 = .ok (.iload_n 1, 1) := by decide +kernel
theorem dX6_lacks_18 : decode cX6_lacks 18 = .ok (.iaload, 1) := by decide +kernel
theorem dX6_lacks_19 : decode cX6_lacks 19 = .ok (.iload_n 2, 1) := by decide +kernel
theorem dX6_lacks_20 : decode cX6_lacks 20 = .ok (.if_icmp .eq 7, 3) := by decide +kernel
theorem dX6_lacks_23 : decode cX6_lacks 23 = .ok (.iconst 3, 1) := by decide +kernel
theorem dX6_lacks_24 : decode cX6_lacks 24 = .ok (.goto 24, 3) := by decide +kernel
theorem dX6_lacks_27 : decode cX6_lacks 27 = .ok (.iload_n 3, 1) := by decide +kernel
theorem dX6_lacks_28 : decode cX6_lacks 28 = .ok (.iconst 0, 1) := by decide +kernel
theorem dX6_lacks_29 : decode cX6_lacks 29 = .ok (.aload_n 0, 1) := by decide +kernel
theorem dX6_lacks_30 : decode cX6_lacks 30 = .ok (.getfield 92, 3) := by decide +kernel
theorem dX6_lacks_33 : decode cX6_lacks 33 = .ok (.iload_n 1, 1) := by decide +kernel
theorem dX6_lacks_34 : decode cX6_lacks 34 = .ok (.iaload, 1) := by decide +kernel
theorem dX6_lacks_35 : decode cX6_lacks 35 = .ok (.iconst 1, 1) := by decide +kernel
theorem dX6_lacks_36 : decode cX6_lacks 36 = .ok (.isub, 1) := by decide +kernel
theorem dX6_lacks_37 : decode cX6_lacks 37 = .ok (.invokestatic 103, 3) := by decide +kernel
theorem dX6_lacks_40 : decode cX6_lacks 40 = .ok (.ifCond .eq 7, 3) := by decide +kernel
theorem dX6_lacks_43 : decode cX6_lacks 43 = .ok (.iconst 0, 1) := by decide +kernel
theorem dX6_lacks_44 : decode cX6_lacks 44 = .ok (.goto 4, 3) := by decide +kernel
theorem dX6_lacks_47 : decode cX6_lacks 47 = .ok (.iconst 2, 1) := by decide +kernel
theorem dX6_lacks_48 : decode cX6_lacks 48 = .ok (.ireturn, 1) := by decide +kernel
theorem dX6_keep_0 : decode cX6_keep 0 = .ok (.aload_n 0, 1) := by decide +kernel
theorem dX6_keep_1 : decode cX6_keep 1 = .ok (.getfield 95, 3) := by decide +kernel
theorem dX6_keep_4 : decode cX6_keep 4 = .ok (.bipush 60, 2) := by decide +kernel
theorem dX6_keep_6 : decode cX6_keep 6 = .ok (.iload_n 1, 1) := by decide +kernel
theorem dX6_keep_7 : decode cX6_keep 7 = .ok (.imul, 1) := by decide +kernel
theorem dX6_keep_8 : decode cX6_keep 8 = .ok (.iload_n 2, 1) := by decide +kernel
theorem dX6_keep_9 : decode cX6_keep 9 = .ok (.iadd, 1) := by decide +kernel
theorem dX6_keep_10 : decode cX6_keep 10 = .ok (.aload_n 0, 1) := by decide +kernel
theorem dX6_keep_11 : decode cX6_keep 11 = .ok (.getfield 89, 3) := by decide +kernel
theorem dX6_keep_14 : decode cX6_keep 14 = .ok (.iload_n 1, 1) := by decide +kernel
theorem dX6_keep_15 : decode cX6_keep 15 = .ok (.iaload, 1) := by decide +kernel
theorem dX6_keep_16 : decode cX6_keep 16 = .ok (.ifCond .ne 8, 3) := by decide +kernel
theorem dX6_keep_19 : decode cX6_keep 19 = .ok (.iload_n 3, 1) := by decide +kernel
theorem dX6_keep_20 : decode cX6_keep 20 = .ok (.i2b, 1) := by decide +kernel
theorem dX6_keep_21 : decode cX6_keep 21 = .ok (.goto 19, 3) := by decide +kernel
theorem dX6_keep_24 : decode cX6_keep 24 = .ok (.aload_n 0, 1) := by decide +kernel
theorem dX6_keep_25 : decode cX6_keep 25 = .ok (.getfield 89, 3) := by decide +kernel
theorem dX6_keep_28 : decode cX6_keep 28 = .ok (.iload_n 1, 1) := by decide +kernel
theorem dX6_keep_29 : decode cX6_keep 29 = .ok (.iaload, 1) := by decide +kernel
theorem dX6_keep_30 : decode cX6_keep 30 = .ok (.iconst 1, 1) := by decide +kernel
theorem dX6_keep_31 : decode cX6_keep 31 = .ok (.if_icmp .ne 8, 3) := by decide +kernel
theorem dX6_keep_34 : decode cX6_keep 34 = .ok (.iload_n 3, 1) := by decide +kernel
theorem dX6_keep_35 : decode cX6_keep 35 = .ok (.i2s, 1) := by decide +kernel
theorem dX6_keep_36 : decode cX6_keep 36 = .ok (.goto 4, 3) := by decide +kernel
theorem dX6_keep_39 : decode cX6_keep 39 = .ok (.iload_n 3, 1) := by decide +kernel
theorem dX6_keep_40 : decode cX6_keep 40 = .ok (.iastore, 1) := by decide +kernel
theorem dX6_keep_41 : decode cX6_keep 41 = .ok (.return_, 1) := by decide +kernel
theorem dX6_put_0 : decode cX6_put 0 = .ok (.iload_n 1, 1) := by decide +kernel
theorem dX6_put_1 : decode cX6_put 1 = .ok (.invokestatic 160, 3) := by decide +kernel
theorem dX6_put_4 : decode cX6_put 4 = .ok (.ifCond .eq 12, 3) := by decide +kernel
theorem dX6_put_7 : decode cX6_put 7 = .ok (.iload_n 2, 1) := by decide +kernel
theorem dX6_put_8 : decode cX6_put 8 = .ok (.iconst 0, 1) := by decide +kernel
theorem dX6_put_9 : decode cX6_put 9 = .ok (.iconst 2, 1) := by decide +kernel
theorem dX6_put_10 : decode cX6_put 10 = .ok (.invokestatic 103, 3) := by decide +kernel
theorem dX6_put_13 : decode cX6_put 13 = .ok (.ifCond .ne 6, 3) := by decide +kernel
theorem dX6_put_16 : decode cX6_put 16 = .ok (.bipush (-2), 2) := by decide +kernel
theorem dX6_put_18 : decode cX6_put 18 = .ok (.ireturn, 1) := by decide +kernel
theorem dX6_put_19 : decode cX6_put 19 = .ok (.aload_n 0, 1) := by decide +kernel
theorem dX6_put_20 : decode cX6_put 20 = .ok (.iload_n 1, 1) := by decide +kernel
theorem dX6_put_21 : decode cX6_put 21 = .ok (.iload_n 2, 1) := by decide +kernel
theorem dX6_put_22 : decode cX6_put 22 = .ok (.iload_n 3, 1) := by decide +kernel
theorem dX6_put_23 : decode cX6_put 23 = .ok (.invokevirtual 291, 3) := by decide +kernel
theorem dX6_put_26 : decode cX6_put 26 = .ok (.istore 5, 2) := by decide +kernel
theorem dX6_put_28 : decode cX6_put 28 = .ok (.iload 5, 2) := by decide +kernel
theorem dX6_put_30 : decode cX6_put 30 = .ok (.ifCond .le 10, 3) := by decide +kernel
theorem dX6_put_33 : decode cX6_put 33 = .ok (.aload_n 0, 1) := by decide +kernel
theorem dX6_put_34 : decode cX6_put 34 = .ok (.iload 5, 2) := by decide +kernel
theorem dX6_put_36 : decode cX6_put 36 = .ok (.invokevirtual 163, 3) := by decide +kernel
theorem dX6_put_39 : decode cX6_put 39 = .ok (.ireturn, 1) := by decide +kernel
theorem dX6_put_40 : decode cX6_put 40 = .ok (.aload_n 0, 1) := by decide +kernel
theorem dX6_put_41 : decode cX6_put 41 = .ok (.iload_n 1, 1) := by decide +kernel
theorem dX6_put_42 : decode cX6_put 42 = .ok (.iload_n 3, 1) := by decide +kernel
theorem dX6_put_43 : decode cX6_put 43 = .ok (.iload 4, 2) := by decide +kernel
theorem dX6_put_45 : decode cX6_put 45 = .ok (.invokevirtual 294, 3) := by decide +kernel
theorem dX6_put_48 : decode cX6_put 48 = .ok (.iconst 1, 1) := by decide +kernel
theorem dX6_put_49 : decode cX6_put 49 = .ok (.ireturn, 1) := by decide +kernel
theorem dX6_get_0 : decode cX6_get 0 = .ok (.iload_n 1, 1) := by decide +kernel
theorem dX6_get_1 : decode cX6_get 1 = .ok (.invokestatic 160, 3) := by decide +kernel
theorem dX6_get_4 : decode cX6_get 4 = .ok (.ifCond .eq 12, 3) := by decide +kernel
theorem dX6_get_7 : decode cX6_get 7 = .ok (.iload_n 2, 1) := by decide +kernel
theorem dX6_get_8 : decode cX6_get 8 = .ok (.iconst 0, 1) := by decide +kernel
theorem dX6_get_9 : decode cX6_get 9 = .ok (.iconst 2, 1) := by decide +kernel
theorem dX6_get_10 : decode cX6_get 10 = .ok (.invokestatic 103, 3) := by decide +kernel
theorem dX6_get_13 : decode cX6_get 13 = .ok (.ifCond .ne 7, 3) := by decide +kernel
theorem dX6_get_16 : decode cX6_get 16 = .ok (.ldc_w 298, 3) := by decide +kernel
theorem dX6_get_19 : decode cX6_get 19 = .ok (.ireturn, 1) := by decide +kernel
theorem dX6_get_20 : decode cX6_get 20 = .ok (.aload_n 0, 1) := by decide +kernel
theorem dX6_get_21 : decode cX6_get 21 = .ok (.iload_n 1, 1) := by decide +kernel
theorem dX6_get_22 : decode cX6_get 22 = .ok (.iload_n 2, 1) := by decide +kernel
theorem dX6_get_23 : decode cX6_get 23 = .ok (.iload_n 3, 1) := by decide +kernel
theorem dX6_get_24 : decode cX6_get 24 = .ok (.invokevirtual 291, 3) := by decide +kernel
theorem dX6_get_27 : decode cX6_get 27 = .ok (.istore 4, 2) := by decide +kernel
theorem dX6_get_29 : decode cX6_get 29 = .ok (.iload 4, 2) := by decide +kernel
theorem dX6_get_31 : decode cX6_get 31 = .ok (.ifCond .le 13, 3) := by decide +kernel
theorem dX6_get_34 : decode cX6_get 34 = .ok (.aload_n 0, 1) := by decide +kernel
theorem dX6_get_35 : decode cX6_get 35 = .ok (.iload 4, 2) := by decide +kernel
theorem dX6_get_37 : decode cX6_get 37 = .ok (.putfield 288, 3) := by decide +kernel
theorem dX6_get_40 : decode cX6_get 40 = .ok (.ldc_w 298, 3) := by decide +kernel
theorem dX6_get_43 : decode cX6_get 43 = .ok (.ireturn, 1) := by decide +kernel
theorem dX6_get_44 : decode cX6_get 44 = .ok (.aload_n 0, 1) := by decide +kernel
theorem dX6_get_45 : decode cX6_get 45 = .ok (.getfield 95, 3) := by decide +kernel
theorem dX6_get_48 : decode cX6_get 48 = .ok (.bipush 60, 2) := by decide +kernel
theorem dX6_get_50 : decode cX6_get 50 = .ok (.iload_n 1, 1) := by decide +kernel
theorem dX6_get_51 : decode cX6_get 51 = .ok (.imul, 1) := by decide +kernel
theorem dX6_get_52 : decode cX6_get 52 = .ok (.iload_n 3, 1) := by decide +kernel
theorem dX6_get_53 : decode cX6_get 53 = .ok (.iadd, 1) := by decide +kernel
theorem dX6_get_54 : decode cX6_get 54 = .ok (.iaload, 1) := by decide +kernel
theorem dX6_get_55 : decode cX6_get 55 = .ok (.ireturn, 1) := by decide +kernel
theorem dX6_copy_0 : decode cX6_copy 0 = .ok (.iload_n 1, 1) := by decide +kernel
theorem dX6_copy_1 : decode cX6_copy 1 = .ok (.invokestatic 160, 3) := by decide +kernel
theorem dX6_copy_4 : decode cX6_copy 4 = .ok (.ifCond .eq 10, 3) := by decide +kernel
theorem dX6_copy_7 : decode cX6_copy 7 = .ok (.iload_n 3, 1) := by decide +kernel
theorem dX6_copy_8 : decode cX6_copy 8 = .ok (.invokestatic 160, 3) := by decide +kernel
theorem dX6_copy_11 : decode cX6_copy 11 = .ok (.ifCond .ne 6, 3) := by decide +kernel
theorem dX6_copy_14 : decode cX6_copy 14 = .ok (.bipush (-2), 2) := by decide +kernel
theorem dX6_copy_16 : decode cX6_copy 16 = .ok (.ireturn, 1) := by decide +kernel
theorem dX6_copy_17 : decode cX6_copy 17 = .ok (.aload_n 0, 1) := by decide +kernel
theorem dX6_copy_18 : decode cX6_copy 18 = .ok (.getfield 85, 3) := by decide +kernel
theorem dX6_copy_21 : decode cX6_copy 21 = .ok (.iload_n 1, 1) := by decide +kernel
theorem dX6_copy_22 : decode cX6_copy 22 = .ok (.baload, 1) := by decide +kernel
theorem dX6_copy_23 : decode cX6_copy 23 = .ok (.ifCond .eq 12, 3) := by decide +kernel
theorem dX6_copy_26 : decode cX6_copy 26 = .ok (.aload_n 0, 1) := by decide +kernel
theorem dX6_copy_27 : decode cX6_copy 27 = .ok (.getfield 85, 3) := by decide +kernel
theorem dX6_copy_30 : decode cX6_copy 30 = .ok (.iload_n 3, 1) := by decide +kernel
theorem dX6_copy_31 : decode cX6_copy 31 = .ok (.baload, 1) := by decide +kernel
theorem dX6_copy_32 : decode cX6_copy 32 = .ok (.ifCond .ne 9, 3) := by decide +kernel
theorem dX6_copy_35 : decode cX6_copy 35 = .ok (.aload_n 0, 1) := by decide +kernel
theorem dX6_copy_36 : decode cX6_copy 36 = .ok (.iconst 1, 1) := by decide +kernel
theorem dX6_copy_37 : decode cX6_copy 37 = .ok (.invokevirtual 163, 3) := by decide +kernel
theorem dX6_copy_40 : decode cX6_copy 40 = .ok (.ireturn, 1) := by decide +kernel
theorem dX6_copy_41 : decode cX6_copy 41 = .ok (.aload_n 0, 1) := by decide +kernel
theorem dX6_copy_42 : decode cX6_copy 42 = .ok (.getfield 89, 3) := by decide +kernel
theorem dX6_copy_45 : decode cX6_copy 45 = .ok (.iload_n 1, 1) := by decide +kernel
theorem dX6_copy_46 : decode cX6_copy 46 = .ok (.iaload, 1) := by decide +kernel
theorem dX6_copy_47 : decode cX6_copy 47 = .ok (.aload_n 0, 1) := by decide +kernel
theorem dX6_copy_48 : decode cX6_copy 48 = .ok (.getfield 89, 3) := by decide +kernel
theorem dX6_copy_51 : decode cX6_copy 51 = .ok (.iload_n 3, 1) := by decide +kernel
theorem dX6_copy_52 : decode cX6_copy 52 = .ok (.iaload, 1) := by decide +kernel
theorem dX6_copy_53 : decode cX6_copy 53 = .ok (.if_icmp .eq 9, 3) := by decide +kernel
theorem dX6_copy_56 : decode cX6_copy 56 = .ok (.aload_n 0, 1) := by decide +kernel
theorem dX6_copy_57 : decode cX6_copy 57 = .ok (.iconst 4, 1) := by decide +kernel
theorem dX6_copy_58 : decode cX6_copy 58 = .ok (.invokevirtual 163, 3) := by decide +kernel
theorem dX6_copy_61 : decode cX6_copy 61 = .ok (.ireturn, 1) := by decide +kernel
theorem dX6_copy_62 : decode cX6_copy 62 = .ok (.iload_n 2, 1) := by decide +kernel
theorem dX6_copy_63 : decode cX6_copy 63 = .ok (.ifCond .lt 48, 3) := by decide +kernel
theorem dX6_copy_66 : decode cX6_copy 66 = .ok (.iload 4, 2) := by decide +kernel
theorem dX6_copy_68 : decode cX6_copy 68 = .ok (.ifCond .lt 43, 3) := by decide +kernel
theorem dX6_copy_71 : decode cX6_copy 71 = .ok (.iload 5, 2) := by decide +kernel
theorem dX6_copy_73 : decode cX6_copy 73 = .ok (.ifCond .lt 38, 3) := by decide +kernel
theorem dX6_copy_76 : decode cX6_copy 76 = .ok (.iload_n 2, 1) := by decide +kernel
theorem dX6_copy_77 : decode cX6_copy 77 = .ok (.i2l, 1) := by decide +kernel
theorem dX6_copy_78 : decode cX6_copy 78 = .ok (.iload 5, 2) := by decide +kernel
theorem dX6_copy_80 : decode cX6_copy 80 = .ok (.i2l, 1) := by decide +kernel
theorem dX6_copy_81 : decode cX6_copy 81 = .ok (.ladd, 1) := by decide +kernel
theorem dX6_copy_82 : decode cX6_copy 82 = .ok (.aload_n 0, 1) := by decide +kernel
theorem dX6_copy_83 : decode cX6_copy 83 = .ok (.getfield 92, 3) := by decide +kernel
theorem dX6_copy_86 : decode cX6_copy 86 = .ok (.iload_n 1, 1) := by decide +kernel
theorem dX6_copy_87 : decode cX6_copy 87 = .ok (.iaload, 1) := by decide +kernel
theorem dX6_copy_88 : decode cX6_copy 88 = .ok (.i2l, 1) := by decide +kernel
theorem dX6_copy_89 : decode cX6_copy 89 = .ok (.lcmp, 1) := by decide +kernel
theorem dX6_copy_90 : decode cX6_copy 90 = .ok (.ifCond .gt 21, 3) := by decide +kernel
theorem dX6_copy_93 : decode cX6_copy 93 = .ok (.iload 4, 2) := by decide +kernel
theorem dX6_copy_95 : decode cX6_copy 95 = .ok (.i2l, 1) := by decide +kernel
theorem dX6_copy_96 : decode cX6_copy 96 = .ok (.iload 5, 2) := by decide +kernel
theorem dX6_copy_98 : decode cX6_copy 98 = .ok (.i2l, 1) := by decide +kernel
theorem dX6_copy_99 : decode cX6_copy 99 = .ok (.ladd, 1) := by decide +kernel
theorem dX6_copy_100 : decode cX6_copy 100 = .ok (.aload_n 0, 1) := by decide +kernel
theorem dX6_copy_101 : decode cX6_copy 101 = .ok (.getfield 92, 3) := by decide +kernel
theorem dX6_copy_104 : decode cX6_copy 104 = .ok (.iload_n 3, 1) := by decide +kernel
theorem dX6_copy_105 : decode cX6_copy 105 = .ok (.iaload, 1) := by decide +kernel
theorem dX6_copy_106 : decode cX6_copy 106 = .ok (.i2l, 1) := by decide +kernel
theorem dX6_copy_107 : decode cX6_copy 107 = .ok (.lcmp, 1) := by decide +kernel
theorem dX6_copy_108 : decode cX6_copy 108 = .ok (.ifCond .le 9, 3) := by decide +kernel
theorem dX6_copy_111 : decode cX6_copy 111 = .ok (.aload_n 0, 1) := by decide +kernel
theorem dX6_copy_112 : decode cX6_copy 112 = .ok (.iconst 2, 1) := by decide +kernel
theorem dX6_copy_113 : decode cX6_copy 113 = .ok (.invokevirtual 163, 3) := by decide +kernel
theorem dX6_copy_116 : decode cX6_copy 116 = .ok (.ireturn, 1) := by decide +kernel
theorem dX6_copy_117 : decode cX6_copy 117 = .ok (.iconst 0, 1) := by decide +kernel
theorem dX6_copy_118 : decode cX6_copy 118 = .ok (.istore 6, 2) := by decide +kernel
theorem dX6_copy_120 : decode cX6_copy 120 = .ok (.iload 6, 2) := by decide +kernel
theorem dX6_copy_122 : decode cX6_copy 122 = .ok (.iload 5, 2) := by decide +kernel
theorem dX6_copy_124 : decode cX6_copy 124 = .ok (.if_icmp .ge 30, 3) := by decide +kernel
theorem dX6_copy_127 : decode cX6_copy 127 = .ok (.aload_n 0, 1) := by decide +kernel
theorem dX6_copy_128 : decode cX6_copy 128 = .ok (.getfield 98, 3) := by decide +kernel
theorem dX6_copy_131 : decode cX6_copy 131 = .ok (.iload 6, 2) := by decide +kernel
theorem dX6_copy_133 : decode cX6_copy 133 = .ok (.aload_n 0, 1) := by decide +kernel
theorem dX6_copy_134 : decode cX6_copy 134 = .ok (.getfield 95, 3) := by decide +kernel
theorem dX6_copy_137 : decode cX6_copy 137 = .ok (.bipush 60, 2) := by decide +kernel
theorem dX6_copy_139 : decode cX6_copy 139 = .ok (.iload_n 1, 1) := by decide +kernel
theorem dX6_copy_140 : decode cX6_copy 140 = .ok (.imul, 1) := by decide +kernel
theorem dX6_copy_141 : decode cX6_copy 141 = .ok (.iload_n 2, 1) := by decide +kernel
theorem dX6_copy_142 : decode cX6_copy 142 = .ok (.iadd, 1) := by decide +kernel
theorem dX6_copy_143 : decode cX6_copy 143 = .ok (.iload 6, 2) := by decide +kernel
theorem dX6_copy_145 : decode cX6_copy 145 = .ok (.iadd, 1) := by decide +kernel
theorem dX6_copy_146 : decode cX6_copy 146 = .ok (.iaload, 1) := by decide +kernel
theorem dX6_copy_147 : decode cX6_copy 147 = .ok (.iastore, 1) := by decide +kernel
theorem dX6_copy_148 : decode cX6_copy 148 = .ok (.iinc 6 1, 3) := by decide +kernel
theorem dX6_copy_151 : decode cX6_copy 151 = .ok (.goto (-31), 3) := by decide +kernel
theorem dX6_copy_154 : decode cX6_copy 154 = .ok (.iconst 0, 1) := by decide +kernel
theorem dX6_copy_155 : decode cX6_copy 155 = .ok (.istore 6, 2) := by decide +kernel
theorem dX6_copy_157 : decode cX6_copy 157 = .ok (.iload 6, 2) := by decide +kernel
theorem dX6_copy_159 : decode cX6_copy 159 = .ok (.iload 5, 2) := by decide +kernel
theorem dX6_copy_161 : decode cX6_copy 161 = .ok (.if_icmp .ge 31, 3) := by decide +kernel
theorem dX6_copy_164 : decode cX6_copy 164 = .ok (.aload_n 0, 1) := by decide +kernel
theorem dX6_copy_165 : decode cX6_copy 165 = .ok (.getfield 95, 3) := by decide +kernel
theorem dX6_copy_168 : decode cX6_copy 168 = .ok (.bipush 60, 2) := by decide +kernel
theorem dX6_copy_170 : decode cX6_copy 170 = .ok (.iload_n 3, 1) := by decide +kernel
theorem dX6_copy_171 : decode cX6_copy 171 = .ok (.imul, 1) := by decide +kernel
theorem dX6_copy_172 : decode cX6_copy 172 = .ok (.iload 4, 2) := by decide +kernel
theorem dX6_copy_174 : decode cX6_copy 174 = .ok (.iadd, 1) := by decide +kernel
theorem dX6_copy_175 : decode cX6_copy 175 = .ok (.iload 6, 2) := by decide +kernel
theorem dX6_copy_177 : decode cX6_copy 177 = .ok (.iadd, 1) := by decide +kernel
theorem dX6_copy_178 : decode cX6_copy 178 = .ok (.aload_n 0, 1) := by decide +kernel
theorem dX6_copy_179 : decode cX6_copy 179 = .ok (.getfield 98, 3) := by decide +kernel
theorem dX6_copy_182 : decode cX6_copy 182 = .ok (.iload 6, 2) := by decide +kernel
theorem dX6_copy_184 : decode cX6_copy 184 = .ok (.iaload, 1) := by decide +kernel
theorem dX6_copy_185 : decode cX6_copy 185 = .ok (.iastore, 1) := by decide +kernel
theorem dX6_copy_186 : decode cX6_copy 186 = .ok (.iinc 6 1, 3) := by decide +kernel
theorem dX6_copy_189 : decode cX6_copy 189 = .ok (.goto (-32), 3) := by decide +kernel
theorem dX6_copy_192 : decode cX6_copy 192 = .ok (.iconst 1, 1) := by decide +kernel
theorem dX6_copy_193 : decode cX6_copy 193 = .ok (.ireturn, 1) := by decide +kernel
theorem dX6_write_0 : decode cX6_write 0 = .ok (.aload_n 0, 1) := by decide +kernel
theorem dX6_write_1 : decode cX6_write 1 = .ok (.iload_n 1, 1) := by decide +kernel
theorem dX6_write_2 : decode cX6_write 2 = .ok (.invokevirtual 142, 3) := by decide +kernel
theorem dX6_write_5 : decode cX6_write 5 = .ok (.ifCond .eq 10, 3) := by decide +kernel
theorem dX6_write_8 : decode cX6_write 8 = .ok (.iload_n 2, 1) := by decide +kernel
theorem dX6_write_9 : decode cX6_write 9 = .ok (.invokestatic 160, 3) := by decide +kernel
theorem dX6_write_12 : decode cX6_write 12 = .ok (.ifCond .ne 6, 3) := by decide +kernel
theorem dX6_write_15 : decode cX6_write 15 = .ok (.bipush (-2), 2) := by decide +kernel
theorem dX6_write_17 : decode cX6_write 17 = .ok (.ireturn, 1) := by decide +kernel
theorem dX6_write_18 : decode cX6_write 18 = .ok (.aload_n 0, 1) := by decide +kernel
theorem dX6_write_19 : decode cX6_write 19 = .ok (.getfield 85, 3) := by decide +kernel
theorem dX6_write_22 : decode cX6_write 22 = .ok (.iload_n 2, 1) := by decide +kernel
theorem dX6_write_23 : decode cX6_write 23 = .ok (.baload, 1) := by decide +kernel
theorem dX6_write_24 : decode cX6_write 24 = .ok (.ifCond .ne 9, 3) := by decide +kernel
theorem dX6_write_27 : decode cX6_write 27 = .ok (.aload_n 0, 1) := by decide +kernel
theorem dX6_write_28 : decode cX6_write 28 = .ok (.iconst 1, 1) := by decide +kernel
theorem dX6_write_29 : decode cX6_write 29 = .ok (.invokevirtual 163, 3) := by decide +kernel
theorem dX6_write_32 : decode cX6_write 32 = .ok (.ireturn, 1) := by decide +kernel
theorem dX6_write_33 : decode cX6_write 33 = .ok (.aload_n 0, 1) := by decide +kernel
theorem dX6_write_34 : decode cX6_write 34 = .ok (.invokevirtual 213, 3) := by decide +kernel
theorem dX6_write_37 : decode cX6_write 37 = .ok (.iconst 0, 1) := by decide +kernel
theorem dX6_write_38 : decode cX6_write 38 = .ok (.istore_n 3, 1) := by decide +kernel
theorem dX6_write_39 : decode cX6_write 39 = .ok (.iload_n 3, 1) := by decide +kernel
theorem dX6_write_40 : decode cX6_write 40 = .ok (.aload_n 0, 1) := by decide +kernel
theorem dX6_write_41 : decode cX6_write 41 = .ok (.getfield 92, 3) := by decide +kernel
theorem dX6_write_44 : decode cX6_write 44 = .ok (.iload_n 2, 1) := by decide +kernel
theorem dX6_write_45 : decode cX6_write 45 = .ok (.iaload, 1) := by decide +kernel
theorem dX6_write_46 : decode cX6_write 46 = .ok (.if_icmp .ge 32, 3) := by decide +kernel
theorem dX6_write_49 : decode cX6_write 49 = .ok (.iload_n 3, 1) := by decide +kernel
theorem dX6_write_50 : decode cX6_write 50 = .ok (.bipush 40, 2) := by decide +kernel
theorem dX6_write_52 : decode cX6_write 52 = .ok (.if_icmp .ge 26, 3) := by decide +kernel
theorem dX6_write_55 : decode cX6_write 55 = .ok (.aload_n 0, 1) := by decide +kernel
theorem dX6_write_56 : decode cX6_write 56 = .ok (.iload_n 2, 1) := by decide +kernel
theorem dX6_write_57 : decode cX6_write 57 = .ok (.iload_n 3, 1) := by decide +kernel
theorem dX6_write_58 : decode cX6_write 58 = .ok (.aload_n 0, 1) := by decide +kernel
theorem dX6_write_59 : decode cX6_write 59 = .ok (.getfield 70, 3) := by decide +kernel
theorem dX6_write_62 : decode cX6_write 62 = .ok (.bipush 8, 2) := by decide +kernel
theorem dX6_write_64 : decode cX6_write 64 = .ok (.iload_n 3, 1) := by decide +kernel
theorem dX6_write_65 : decode cX6_write 65 = .ok (.imul, 1) := by decide +kernel
theorem dX6_write_66 : decode cX6_write 66 = .ok (.iload_n 1, 1) := by decide +kernel
theorem dX6_write_67 : decode cX6_write 67 = .ok (.iadd, 1) := by decide +kernel
theorem dX6_write_68 : decode cX6_write 68 = .ok (.iaload, 1) := by decide +kernel
theorem dX6_write_69 : decode cX6_write 69 = .ok (.invokevirtual 294, 3) := by decide +kernel
theorem dX6_write_72 : decode cX6_write 72 = .ok (.iinc 3 1, 3) := by decide +kernel
theorem dX6_write_75 : decode cX6_write 75 = .ok (.goto (-36), 3) := by decide +kernel
theorem dX6_write_78 : decode cX6_write 78 = .ok (.iload_n 3, 1) := by decide +kernel
theorem dX6_write_79 : decode cX6_write 79 = .ok (.ireturn, 1) := by decide +kernel
theorem dX6_sumOf_0 : decode cX6_sumOf 0 = .ok (.aload_n 0, 1) := by decide +kernel
theorem dX6_sumOf_1 : decode cX6_sumOf 1 = .ok (.invokevirtual 213, 3) := by decide +kernel
theorem dX6_sumOf_4 : decode cX6_sumOf 4 = .ok (.iload_n 1, 1) := by decide +kernel
theorem dX6_sumOf_5 : decode cX6_sumOf 5 = .ok (.ifCond .ne 10, 3) := by decide +kernel
theorem dX6_sumOf_8 : decode cX6_sumOf 8 = .ok (.aload_n 0, 1) := by decide +kernel
theorem dX6_sumOf_9 : decode cX6_sumOf 9 = .ok (.getfield 118, 3) := by decide +kernel
theorem dX6_sumOf_12 : decode cX6_sumOf 12 = .ok (.goto 19, 3) := by decide +kernel
theorem dX6_sumOf_15 : decode cX6_sumOf 15 = .ok (.iload_n 1, 1) := by decide +kernel
theorem dX6_sumOf_16 : decode cX6_sumOf 16 = .ok (.iconst 1, 1) := by decide +kernel
theorem dX6_sumOf_17 : decode cX6_sumOf 17 = .ok (.if_icmp .ne 10, 3) := by decide +kernel
theorem dX6_sumOf_20 : decode cX6_sumOf 20 = .ok (.aload_n 0, 1) := by decide +kernel
theorem dX6_sumOf_21 : decode cX6_sumOf 21 = .ok (.getfield 126, 3) := by decide +kernel
theorem dX6_sumOf_24 : decode cX6_sumOf 24 = .ok (.goto 7, 3) := by decide +kernel
theorem dX6_sumOf_27 : decode cX6_sumOf 27 = .ok (.aload_n 0, 1) := by decide +kernel
theorem dX6_sumOf_28 : decode cX6_sumOf 28 = .ok (.invokevirtual 238, 3) := by decide +kernel
theorem dX6_sumOf_31 : decode cX6_sumOf 31 = .ok (.ireturn, 1) := by decide +kernel
theorem dX6_count_0 : decode cX6_count 0 = .ok (.iload_n 1, 1) := by decide +kernel
theorem dX6_count_1 : decode cX6_count 1 = .ok (.tableswitch 86 0 8 #[51, 51, 57, 57, 66, 71, 51, 76, 81], 51) := by decide +kernel
theorem dX6_count_52 : decode cX6_count 52 = .ok (.aload_n 0, 1) := by decide +kernel
theorem dX6_count_53 : decode cX6_count 53 = .ok (.iload_n 1, 1) := by decide +kernel
theorem dX6_count_54 : decode cX6_count 54 = .ok (.invokevirtual 299, 3) := by decide +kernel
theorem dX6_count_57 : decode cX6_count 57 = .ok (.ireturn, 1) := by decide +kernel
theorem dX6_count_58 : decode cX6_count 58 = .ok (.aload_n 0, 1) := by decide +kernel
theorem dX6_count_59 : decode cX6_count 59 = .ok (.getfield 7, 3) := by decide +kernel
theorem dX6_count_62 : decode cX6_count 62 = .ok (.iload_n 1, 1) := by decide +kernel
theorem dX6_count_63 : decode cX6_count 63 = .ok (.iconst 2, 1) := by decide +kernel
theorem dX6_count_64 : decode cX6_count 64 = .ok (.isub, 1) := by decide +kernel
theorem dX6_count_65 : decode cX6_count 65 = .ok (.iaload, 1) := by decide +kernel
theorem dX6_count_66 : decode cX6_count 66 = .ok (.ireturn, 1) := by decide +kernel
theorem dX6_count_67 : decode cX6_count 67 = .ok (.aload_n 0, 1) := by decide +kernel
theorem dX6_count_68 : decode cX6_count 68 = .ok (.getfield 154, 3) := by decide +kernel
theorem dX6_count_71 : decode cX6_count 71 = .ok (.ireturn, 1) := by decide +kernel
theorem dX6_count_72 : decode cX6_count 72 = .ok (.aload_n 0, 1) := by decide +kernel
theorem dX6_count_73 : decode cX6_count 73 = .ok (.getfield 157, 3) := by decide +kernel
theorem dX6_count_76 : decode cX6_count 76 = .ok (.ireturn, 1) := by decide +kernel
theorem dX6_count_77 : decode cX6_count 77 = .ok (.aload_n 0, 1) := by decide +kernel
theorem dX6_count_78 : decode cX6_count 78 = .ok (.getfield 253, 3) := by decide +kernel
theorem dX6_count_81 : decode cX6_count 81 = .ok (.ireturn, 1) := by decide +kernel
theorem dX6_count_82 : decode cX6_count 82 = .ok (.aload_n 0, 1) := by decide +kernel
theorem dX6_count_83 : decode cX6_count 83 = .ok (.getfield 288, 3) := by decide +kernel
theorem dX6_count_86 : decode cX6_count 86 = .ok (.ireturn, 1) := by decide +kernel
theorem dX6_count_87 : decode cX6_count 87 = .ok (.bipush (-2), 2) := by decide +kernel
theorem dX6_count_89 : decode cX6_count 89 = .ok (.ireturn, 1) := by decide +kernel
theorem dX6_hourDigest_0 : decode cX6_hourDigest 0 = .ok (.lload_n 1, 1) := by decide +kernel
theorem dX6_hourDigest_1 : decode cX6_hourDigest 1 = .ok (.lstore 5, 2) := by decide +kernel
theorem dX6_hourDigest_3 : decode cX6_hourDigest 3 = .ok (.iconst 0, 1) := by decide +kernel
theorem dX6_hourDigest_4 : decode cX6_hourDigest 4 = .ok (.istore 7, 2) := by decide +kernel
theorem dX6_hourDigest_6 : decode cX6_hourDigest 6 = .ok (.iload 7, 2) := by decide +kernel
theorem dX6_hourDigest_8 : decode cX6_hourDigest 8 = .ok (.iconst 3, 1) := by decide +kernel
theorem dX6_hourDigest_9 : decode cX6_hourDigest 9 = .ok (.if_icmp .ge 28, 3) := by decide +kernel
theorem dX6_hourDigest_12 : decode cX6_hourDigest 12 = .ok (.ldc2_w 302, 3) := by decide +kernel
theorem dX6_hourDigest_15 : decode cX6_hourDigest 15 = .ok (.lload 5, 2) := by decide +kernel
theorem dX6_hourDigest_17 : decode cX6_hourDigest 17 = .ok (.lmul, 1) := by decide +kernel
theorem dX6_hourDigest_18 : decode cX6_hourDigest 18 = .ok (.aload_n 0, 1) := by decide +kernel
theorem dX6_hourDigest_19 : decode cX6_hourDigest 19 = .ok (.iload_n 3, 1) := by decide +kernel
theorem dX6_hourDigest_20 : decode cX6_hourDigest 20 = .ok (.iload 4, 2) := by decide +kernel
theorem dX6_hourDigest_22 : decode cX6_hourDigest 22 = .ok (.iload 7, 2) := by decide +kernel
theorem dX6_hourDigest_24 : decode cX6_hourDigest 24 = .ok (.invokevirtual 219, 3) := by decide +kernel
theorem dX6_hourDigest_27 : decode cX6_hourDigest 27 = .ok (.i2l, 1) := by decide +kernel
theorem dX6_hourDigest_28 : decode cX6_hourDigest 28 = .ok (.ladd, 1) := by decide +kernel
theorem dX6_hourDigest_29 : decode cX6_hourDigest 29 = .ok (.lstore 5, 2) := by decide +kernel
theorem dX6_hourDigest_31 : decode cX6_hourDigest 31 = .ok (.iinc 7 1, 3) := by decide +kernel
theorem dX6_hourDigest_34 : decode cX6_hourDigest 34 = .ok (.goto (-28), 3) := by decide +kernel
theorem dX6_hourDigest_37 : decode cX6_hourDigest 37 = .ok (.lload 5, 2) := by decide +kernel
theorem dX6_hourDigest_39 : decode cX6_hourDigest 39 = .ok (.lreturn, 1) := by decide +kernel
theorem dX6_houseDigest_0 : decode cX6_houseDigest 0 = .ok (.lload_n 1, 1) := by decide +kernel
theorem dX6_houseDigest_1 : decode cX6_houseDigest 1 = .ok (.lstore 4, 2) := by decide +kernel
theorem dX6_houseDigest_3 : decode cX6_houseDigest 3 = .ok (.iconst 0, 1) := by decide +kernel
theorem dX6_houseDigest_4 : decode cX6_houseDigest 4 = .ok (.istore 6, 2) := by decide +kernel
theorem dX6_houseDigest_6 : decode cX6_houseDigest 6 = .ok (.iload 6, 2) := by decide +kernel
theorem dX6_houseDigest_8 : decode cX6_houseDigest 8 = .ok (.bipush 7, 2) := by decide +kernel
theorem dX6_houseDigest_10 : decode cX6_houseDigest 10 = .ok (.if_icmp .ge 26, 3) := by decide +kernel
theorem dX6_houseDigest_13 : decode cX6_houseDigest 13 = .ok (.ldc2_w 302, 3) := by decide +kernel
theorem dX6_houseDigest_16 : decode cX6_houseDigest 16 = .ok (.lload 4, 2) := by decide +kernel
theorem dX6_houseDigest_18 : decode cX6_houseDigest 18 = .ok (.lmul, 1) := by decide +kernel
theorem dX6_houseDigest_19 : decode cX6_houseDigest 19 = .ok (.aload_n 0, 1) := by decide +kernel
theorem dX6_houseDigest_20 : decode cX6_houseDigest 20 = .ok (.iload_n 3, 1) := by decide +kernel
theorem dX6_houseDigest_21 : decode cX6_houseDigest 21 = .ok (.iload 6, 2) := by decide +kernel
theorem dX6_houseDigest_23 : decode cX6_houseDigest 23 = .ok (.invokevirtual 145, 3) := by decide +kernel
theorem dX6_houseDigest_26 : decode cX6_houseDigest 26 = .ok (.i2l, 1) := by decide +kernel
theorem dX6_houseDigest_27 : decode cX6_houseDigest 27 = .ok (.ladd, 1) := by decide +kernel
theorem dX6_houseDigest_28 : decode cX6_houseDigest 28 = .ok (.lstore 4, 2) := by decide +kernel
theorem dX6_houseDigest_30 : decode cX6_houseDigest 30 = .ok (.iinc 6 1, 3) := by decide +kernel
theorem dX6_houseDigest_33 : decode cX6_houseDigest 33 = .ok (.goto (-27), 3) := by decide +kernel
theorem dX6_houseDigest_36 : decode cX6_houseDigest 36 = .ok (.aload_n 0, 1) := by decide +kernel
theorem dX6_houseDigest_37 : decode cX6_houseDigest 37 = .ok (.lload 4, 2) := by decide +kernel
theorem dX6_houseDigest_39 : decode cX6_houseDigest 39 = .ok (.iconst 0, 1) := by decide +kernel
theorem dX6_houseDigest_40 : decode cX6_houseDigest 40 = .ok (.iload_n 3, 1) := by decide +kernel
theorem dX6_houseDigest_41 : decode cX6_houseDigest 41 = .ok (.invokevirtual 304, 3) := by decide +kernel
theorem dX6_houseDigest_44 : decode cX6_houseDigest 44 = .ok (.lstore 4, 2) := by decide +kernel
theorem dX6_houseDigest_46 : decode cX6_houseDigest 46 = .ok (.aload_n 0, 1) := by decide +kernel
theorem dX6_houseDigest_47 : decode cX6_houseDigest 47 = .ok (.lload 4, 2) := by decide +kernel
theorem dX6_houseDigest_49 : decode cX6_houseDigest 49 = .ok (.bipush 7, 2) := by decide +kernel
theorem dX6_houseDigest_51 : decode cX6_houseDigest 51 = .ok (.iload_n 3, 1) := by decide +kernel
theorem dX6_houseDigest_52 : decode cX6_houseDigest 52 = .ok (.invokevirtual 304, 3) := by decide +kernel
theorem dX6_houseDigest_55 : decode cX6_houseDigest 55 = .ok (.lstore 4, 2) := by decide +kernel
theorem dX6_houseDigest_57 : decode cX6_houseDigest 57 = .ok (.aload_n 0, 1) := by decide +kernel
theorem dX6_houseDigest_58 : decode cX6_houseDigest 58 = .ok (.lload 4, 2) := by decide +kernel
theorem dX6_houseDigest_60 : decode cX6_houseDigest 60 = .ok (.bipush 20, 2) := by decide +kernel
theorem dX6_houseDigest_62 : decode cX6_houseDigest 62 = .ok (.iload_n 3, 1) := by decide +kernel
theorem dX6_houseDigest_63 : decode cX6_houseDigest 63 = .ok (.invokevirtual 304, 3) := by decide +kernel
theorem dX6_houseDigest_66 : decode cX6_houseDigest 66 = .ok (.lstore 4, 2) := by decide +kernel
theorem dX6_houseDigest_68 : decode cX6_houseDigest 68 = .ok (.aload_n 0, 1) := by decide +kernel
theorem dX6_houseDigest_69 : decode cX6_houseDigest 69 = .ok (.lload 4, 2) := by decide +kernel
theorem dX6_houseDigest_71 : decode cX6_houseDigest 71 = .ok (.bipush 39, 2) := by decide +kernel
theorem dX6_houseDigest_73 : decode cX6_houseDigest 73 = .ok (.iload_n 3, 1) := by decide +kernel
theorem dX6_houseDigest_74 : decode cX6_houseDigest 74 = .ok (.invokevirtual 304, 3) := by decide +kernel
theorem dX6_houseDigest_77 : decode cX6_houseDigest 77 = .ok (.lstore 4, 2) := by decide +kernel
theorem dX6_houseDigest_79 : decode cX6_houseDigest 79 = .ok (.ldc2_w 302, 3) := by decide +kernel
theorem dX6_houseDigest_82 : decode cX6_houseDigest 82 = .ok (.lload 4, 2) := by decide +kernel
theorem dX6_houseDigest_84 : decode cX6_houseDigest 84 = .ok (.lmul, 1) := by decide +kernel
theorem dX6_houseDigest_85 : decode cX6_houseDigest 85 = .ok (.aload_n 0, 1) := by decide +kernel
theorem dX6_houseDigest_86 : decode cX6_houseDigest 86 = .ok (.iload_n 3, 1) := by decide +kernel
theorem dX6_houseDigest_87 : decode cX6_houseDigest 87 = .ok (.iconst 0, 1) := by decide +kernel
theorem dX6_houseDigest_88 : decode cX6_houseDigest 88 = .ok (.invokevirtual 226, 3) := by decide +kernel
theorem dX6_houseDigest_91 : decode cX6_houseDigest 91 = .ok (.i2l, 1) := by decide +kernel
theorem dX6_houseDigest_92 : decode cX6_houseDigest 92 = .ok (.ladd, 1) := by decide +kernel
theorem dX6_houseDigest_93 : decode cX6_houseDigest 93 = .ok (.lstore 4, 2) := by decide +kernel
theorem dX6_houseDigest_95 : decode cX6_houseDigest 95 = .ok (.ldc2_w 302, 3) := by decide +kernel
theorem dX6_houseDigest_98 : decode cX6_houseDigest 98 = .ok (.lload 4, 2) := by decide +kernel
theorem dX6_houseDigest_100 : decode cX6_houseDigest 100 = .ok (.lmul, 1) := by decide +kernel
theorem dX6_houseDigest_101 : decode cX6_houseDigest 101 = .ok (.aload_n 0, 1) := by decide +kernel
theorem dX6_houseDigest_102 : decode cX6_houseDigest 102 = .ok (.iload_n 3, 1) := by decide +kernel
theorem dX6_houseDigest_103 : decode cX6_houseDigest 103 = .ok (.iconst 1, 1) := by decide +kernel
theorem dX6_houseDigest_104 : decode cX6_houseDigest 104 = .ok (.invokevirtual 226, 3) := by decide +kernel
theorem dX6_houseDigest_107 : decode cX6_houseDigest 107 = .ok (.i2l, 1) := by decide +kernel
theorem dX6_houseDigest_108 : decode cX6_houseDigest 108 = .ok (.ladd, 1) := by decide +kernel
theorem dX6_houseDigest_109 : decode cX6_houseDigest 109 = .ok (.lstore 4, 2) := by decide +kernel
theorem dX6_houseDigest_111 : decode cX6_houseDigest 111 = .ok (.ldc2_w 302, 3) := by decide +kernel
theorem dX6_houseDigest_114 : decode cX6_houseDigest 114 = .ok (.lload 4, 2) := by decide +kernel
theorem dX6_houseDigest_116 : decode cX6_houseDigest 116 = .ok (.lmul, 1) := by decide +kernel
theorem dX6_houseDigest_117 : decode cX6_houseDigest 117 = .ok (.aload_n 0, 1) := by decide +kernel
theorem dX6_houseDigest_118 : decode cX6_houseDigest 118 = .ok (.iload_n 3, 1) := by decide +kernel
theorem dX6_houseDigest_119 : decode cX6_houseDigest 119 = .ok (.iconst 0, 1) := by decide +kernel
theorem dX6_houseDigest_120 : decode cX6_houseDigest 120 = .ok (.invokevirtual 244, 3) := by decide +kernel
theorem dX6_houseDigest_123 : decode cX6_houseDigest 123 = .ok (.i2l, 1) := by decide +kernel
theorem dX6_houseDigest_124 : decode cX6_houseDigest 124 = .ok (.ladd, 1) := by decide +kernel
theorem dX6_houseDigest_125 : decode cX6_houseDigest 125 = .ok (.lstore 4, 2) := by decide +kernel
theorem dX6_houseDigest_127 : decode cX6_houseDigest 127 = .ok (.ldc2_w 302, 3) := by decide +kernel
theorem dX6_houseDigest_130 : decode cX6_houseDigest 130 = .ok (.lload 4, 2) := by decide +kernel
theorem dX6_houseDigest_132 : decode cX6_houseDigest 132 = .ok (.lmul, 1) := by decide +kernel
theorem dX6_houseDigest_133 : decode cX6_houseDigest 133 = .ok (.aload_n 0, 1) := by decide +kernel
theorem dX6_houseDigest_134 : decode cX6_houseDigest 134 = .ok (.iload_n 3, 1) := by decide +kernel
theorem dX6_houseDigest_135 : decode cX6_houseDigest 135 = .ok (.iconst 1, 1) := by decide +kernel
theorem dX6_houseDigest_136 : decode cX6_houseDigest 136 = .ok (.invokevirtual 244, 3) := by decide +kernel
theorem dX6_houseDigest_139 : decode cX6_houseDigest 139 = .ok (.i2l, 1) := by decide +kernel
theorem dX6_houseDigest_140 : decode cX6_houseDigest 140 = .ok (.ladd, 1) := by decide +kernel
theorem dX6_houseDigest_141 : decode cX6_houseDigest 141 = .ok (.lstore 4, 2) := by decide +kernel
theorem dX6_houseDigest_143 : decode cX6_houseDigest 143 = .ok (.ldc2_w 302, 3) := by decide +kernel
theorem dX6_houseDigest_146 : decode cX6_houseDigest 146 = .ok (.lload 4, 2) := by decide +kernel
theorem dX6_houseDigest_148 : decode cX6_houseDigest 148 = .ok (.lmul, 1) := by decide +kernel
theorem dX6_houseDigest_149 : decode cX6_houseDigest 149 = .ok (.aload_n 0, 1) := by decide +kernel
theorem dX6_houseDigest_150 : decode cX6_houseDigest 150 = .ok (.iload_n 3, 1) := by decide +kernel
theorem dX6_houseDigest_151 : decode cX6_houseDigest 151 = .ok (.invokevirtual 263, 3) := by decide +kernel
theorem dX6_houseDigest_154 : decode cX6_houseDigest 154 = .ok (.i2l, 1) := by decide +kernel
theorem dX6_houseDigest_155 : decode cX6_houseDigest 155 = .ok (.ladd, 1) := by decide +kernel
theorem dX6_houseDigest_156 : decode cX6_houseDigest 156 = .ok (.lstore 4, 2) := by decide +kernel
theorem dX6_houseDigest_158 : decode cX6_houseDigest 158 = .ok (.ldc2_w 302, 3) := by decide +kernel
theorem dX6_houseDigest_161 : decode cX6_houseDigest 161 = .ok (.lload 4, 2) := by decide +kernel
theorem dX6_houseDigest_163 : decode cX6_houseDigest 163 = .ok (.lmul, 1) := by decide +kernel
theorem dX6_houseDigest_164 : decode cX6_houseDigest 164 = .ok (.aload_n 0, 1) := by decide +kernel
theorem dX6_houseDigest_165 : decode cX6_houseDigest 165 = .ok (.iload_n 3, 1) := by decide +kernel
theorem dX6_houseDigest_166 : decode cX6_houseDigest 166 = .ok (.invokevirtual 269, 3) := by decide +kernel
theorem dX6_houseDigest_169 : decode cX6_houseDigest 169 = .ok (.i2l, 1) := by decide +kernel
theorem dX6_houseDigest_170 : decode cX6_houseDigest 170 = .ok (.ladd, 1) := by decide +kernel
theorem dX6_houseDigest_171 : decode cX6_houseDigest 171 = .ok (.lstore 4, 2) := by decide +kernel
theorem dX6_houseDigest_173 : decode cX6_houseDigest 173 = .ok (.ldc2_w 302, 3) := by decide +kernel
theorem dX6_houseDigest_176 : decode cX6_houseDigest 176 = .ok (.lload 4, 2) := by decide +kernel
theorem dX6_houseDigest_178 : decode cX6_houseDigest 178 = .ok (.lmul, 1) := by decide +kernel
theorem dX6_houseDigest_179 : decode cX6_houseDigest 179 = .ok (.aload_n 0, 1) := by decide +kernel
theorem dX6_houseDigest_180 : decode cX6_houseDigest 180 = .ok (.iconst 5, 1) := by decide +kernel
theorem dX6_houseDigest_181 : decode cX6_houseDigest 181 = .ok (.iload_n 3, 1) := by decide +kernel
theorem dX6_houseDigest_182 : decode cX6_houseDigest 182 = .ok (.iconst 0, 1) := by decide +kernel
theorem dX6_houseDigest_183 : decode cX6_houseDigest 183 = .ok (.invokevirtual 276, 3) := by decide +kernel
theorem dX6_houseDigest_186 : decode cX6_houseDigest 186 = .ok (.ladd, 1) := by decide +kernel
theorem dX6_houseDigest_187 : decode cX6_houseDigest 187 = .ok (.lstore 4, 2) := by decide +kernel
theorem dX6_houseDigest_189 : decode cX6_houseDigest 189 = .ok (.ldc2_w 302, 3) := by decide +kernel
theorem dX6_houseDigest_192 : decode cX6_houseDigest 192 = .ok (.lload 4, 2) := by decide +kernel
theorem dX6_houseDigest_194 : decode cX6_houseDigest 194 = .ok (.lmul, 1) := by decide +kernel
theorem dX6_houseDigest_195 : decode cX6_houseDigest 195 = .ok (.aload_n 0, 1) := by decide +kernel
theorem dX6_houseDigest_196 : decode cX6_houseDigest 196 = .ok (.iconst 5, 1) := by decide +kernel
theorem dX6_houseDigest_197 : decode cX6_houseDigest 197 = .ok (.iload_n 3, 1) := by decide +kernel
theorem dX6_houseDigest_198 : decode cX6_houseDigest 198 = .ok (.iconst 1, 1) := by decide +kernel
theorem dX6_houseDigest_199 : decode cX6_houseDigest 199 = .ok (.invokevirtual 276, 3) := by decide +kernel
theorem dX6_houseDigest_202 : decode cX6_houseDigest 202 = .ok (.ladd, 1) := by decide +kernel
theorem dX6_houseDigest_203 : decode cX6_houseDigest 203 = .ok (.lreturn, 1) := by decide +kernel
theorem dX6_digest_0 : decode cX6_digest 0 = .ok (.ldc2_w 308, 3) := by decide +kernel
theorem dX6_digest_3 : decode cX6_digest 3 = .ok (.lstore_n 1, 1) := by decide +kernel
theorem dX6_digest_4 : decode cX6_digest 4 = .ok (.iconst 0, 1) := by decide +kernel
theorem dX6_digest_5 : decode cX6_digest 5 = .ok (.istore_n 3, 1) := by decide +kernel
theorem dX6_digest_6 : decode cX6_digest 6 = .ok (.iload_n 3, 1) := by decide +kernel
theorem dX6_digest_7 : decode cX6_digest 7 = .ok (.bipush 8, 2) := by decide +kernel
theorem dX6_digest_9 : decode cX6_digest 9 = .ok (.if_icmp .ge 22, 3) := by decide +kernel
theorem dX6_digest_12 : decode cX6_digest 12 = .ok (.ldc2_w 302, 3) := by decide +kernel
theorem dX6_digest_15 : decode cX6_digest 15 = .ok (.lload_n 1, 1) := by decide +kernel
theorem dX6_digest_16 : decode cX6_digest 16 = .ok (.lmul, 1) := by decide +kernel
theorem dX6_digest_17 : decode cX6_digest 17 = .ok (.aload_n 0, 1) := by decide +kernel
theorem dX6_digest_18 : decode cX6_digest 18 = .ok (.iload_n 3, 1) := by decide +kernel
theorem dX6_digest_19 : decode cX6_digest 19 = .ok (.invokevirtual 310, 3) := by decide +kernel
theorem dX6_digest_22 : decode cX6_digest 22 = .ok (.i2l, 1) := by decide +kernel
theorem dX6_digest_23 : decode cX6_digest 23 = .ok (.ladd, 1) := by decide +kernel
theorem dX6_digest_24 : decode cX6_digest 24 = .ok (.lstore_n 1, 1) := by decide +kernel
theorem dX6_digest_25 : decode cX6_digest 25 = .ok (.iinc 3 1, 3) := by decide +kernel
theorem dX6_digest_28 : decode cX6_digest 28 = .ok (.goto (-22), 3) := by decide +kernel
theorem dX6_digest_31 : decode cX6_digest 31 = .ok (.ldc2_w 302, 3) := by decide +kernel
theorem dX6_digest_34 : decode cX6_digest 34 = .ok (.lload_n 1, 1) := by decide +kernel
theorem dX6_digest_35 : decode cX6_digest 35 = .ok (.lmul, 1) := by decide +kernel
theorem dX6_digest_36 : decode cX6_digest 36 = .ok (.aload_n 0, 1) := by decide +kernel
theorem dX6_digest_37 : decode cX6_digest 37 = .ok (.iconst 0, 1) := by decide +kernel
theorem dX6_digest_38 : decode cX6_digest 38 = .ok (.invokevirtual 136, 3) := by decide +kernel
theorem dX6_digest_41 : decode cX6_digest 41 = .ok (.i2l, 1) := by decide +kernel
theorem dX6_digest_42 : decode cX6_digest 42 = .ok (.ladd, 1) := by decide +kernel
theorem dX6_digest_43 : decode cX6_digest 43 = .ok (.lstore_n 1, 1) := by decide +kernel
theorem dX6_digest_44 : decode cX6_digest 44 = .ok (.ldc2_w 302, 3) := by decide +kernel
theorem dX6_digest_47 : decode cX6_digest 47 = .ok (.lload_n 1, 1) := by decide +kernel
theorem dX6_digest_48 : decode cX6_digest 48 = .ok (.lmul, 1) := by decide +kernel
theorem dX6_digest_49 : decode cX6_digest 49 = .ok (.aload_n 0, 1) := by decide +kernel
theorem dX6_digest_50 : decode cX6_digest 50 = .ok (.iconst 1, 1) := by decide +kernel
theorem dX6_digest_51 : decode cX6_digest 51 = .ok (.invokevirtual 136, 3) := by decide +kernel
theorem dX6_digest_54 : decode cX6_digest 54 = .ok (.i2l, 1) := by decide +kernel
theorem dX6_digest_55 : decode cX6_digest 55 = .ok (.ladd, 1) := by decide +kernel
theorem dX6_digest_56 : decode cX6_digest 56 = .ok (.lstore_n 1, 1) := by decide +kernel
theorem dX6_digest_57 : decode cX6_digest 57 = .ok (.iconst 0, 1) := by decide +kernel
theorem dX6_digest_58 : decode cX6_digest 58 = .ok (.istore_n 3, 1) := by decide +kernel
theorem dX6_digest_59 : decode cX6_digest 59 = .ok (.iload_n 3, 1) := by decide +kernel
theorem dX6_digest_60 : decode cX6_digest 60 = .ok (.bipush 40, 2) := by decide +kernel
theorem dX6_digest_62 : decode cX6_digest 62 = .ok (.if_icmp .ge 52, 3) := by decide +kernel
theorem dX6_digest_65 : decode cX6_digest 65 = .ok (.ldc2_w 302, 3) := by decide +kernel
theorem dX6_digest_68 : decode cX6_digest 68 = .ok (.lload_n 1, 1) := by decide +kernel
theorem dX6_digest_69 : decode cX6_digest 69 = .ok (.lmul, 1) := by decide +kernel
theorem dX6_digest_70 : decode cX6_digest 70 = .ok (.aload_n 0, 1) := by decide +kernel
theorem dX6_digest_71 : decode cX6_digest 71 = .ok (.iload_n 3, 1) := by decide +kernel
theorem dX6_digest_72 : decode cX6_digest 72 = .ok (.invokevirtual 151, 3) := by decide +kernel
theorem dX6_digest_75 : decode cX6_digest 75 = .ok (.i2l, 1) := by decide +kernel
theorem dX6_digest_76 : decode cX6_digest 76 = .ok (.ladd, 1) := by decide +kernel
theorem dX6_digest_77 : decode cX6_digest 77 = .ok (.lstore_n 1, 1) := by decide +kernel
theorem dX6_digest_78 : decode cX6_digest 78 = .ok (.iconst 0, 1) := by decide +kernel
theorem dX6_digest_79 : decode cX6_digest 79 = .ok (.istore 4, 2) := by decide +kernel
theorem dX6_digest_81 : decode cX6_digest 81 = .ok (.iload 4, 2) := by decide +kernel
theorem dX6_digest_83 : decode cX6_digest 83 = .ok (.iconst 4, 1) := by decide +kernel
theorem dX6_digest_84 : decode cX6_digest 84 = .ok (.if_icmp .ge 24, 3) := by decide +kernel
theorem dX6_digest_87 : decode cX6_digest 87 = .ok (.ldc2_w 302, 3) := by decide +kernel
theorem dX6_digest_90 : decode cX6_digest 90 = .ok (.lload_n 1, 1) := by decide +kernel
theorem dX6_digest_91 : decode cX6_digest 91 = .ok (.lmul, 1) := by decide +kernel
theorem dX6_digest_92 : decode cX6_digest 92 = .ok (.aload_n 0, 1) := by decide +kernel
theorem dX6_digest_93 : decode cX6_digest 93 = .ok (.iload_n 3, 1) := by decide +kernel
theorem dX6_digest_94 : decode cX6_digest 94 = .ok (.iload 4, 2) := by decide +kernel
theorem dX6_digest_96 : decode cX6_digest 96 = .ok (.invokevirtual 216, 3) := by decide +kernel
theorem dX6_digest_99 : decode cX6_digest 99 = .ok (.i2l, 1) := by decide +kernel
theorem dX6_digest_100 : decode cX6_digest 100 = .ok (.ladd, 1) := by decide +kernel
theorem dX6_digest_101 : decode cX6_digest 101 = .ok (.lstore_n 1, 1) := by decide +kernel
theorem dX6_digest_102 : decode cX6_digest 102 = .ok (.iinc 4 1, 3) := by decide +kernel
theorem dX6_digest_105 : decode cX6_digest 105 = .ok (.goto (-24), 3) := by decide +kernel
theorem dX6_digest_108 : decode cX6_digest 108 = .ok (.iinc 3 1, 3) := by decide +kernel
theorem dX6_digest_111 : decode cX6_digest 111 = .ok (.goto (-52), 3) := by decide +kernel
theorem dX6_digest_114 : decode cX6_digest 114 = .ok (.iconst 0, 1) := by decide +kernel
theorem dX6_digest_115 : decode cX6_digest 115 = .ok (.istore_n 3, 1) := by decide +kernel
theorem dX6_digest_116 : decode cX6_digest 116 = .ok (.iload_n 3, 1) := by decide +kernel
theorem dX6_digest_117 : decode cX6_digest 117 = .ok (.aload_n 0, 1) := by decide +kernel
theorem dX6_digest_118 : decode cX6_digest 118 = .ok (.getfield 118, 3) := by decide +kernel
theorem dX6_digest_121 : decode cX6_digest 121 = .ok (.if_icmp .ge 16, 3) := by decide +kernel
theorem dX6_digest_124 : decode cX6_digest 124 = .ok (.aload_n 0, 1) := by decide +kernel
theorem dX6_digest_125 : decode cX6_digest 125 = .ok (.lload_n 1, 1) := by decide +kernel
theorem dX6_digest_126 : decode cX6_digest 126 = .ok (.iload_n 3, 1) := by decide +kernel
theorem dX6_digest_127 : decode cX6_digest 127 = .ok (.invokevirtual 313, 3) := by decide +kernel
theorem dX6_digest_130 : decode cX6_digest 130 = .ok (.lstore_n 1, 1) := by decide +kernel
theorem dX6_digest_131 : decode cX6_digest 131 = .ok (.iinc 3 1, 3) := by decide +kernel
theorem dX6_digest_134 : decode cX6_digest 134 = .ok (.goto (-18), 3) := by decide +kernel
theorem dX6_digest_137 : decode cX6_digest 137 = .ok (.ldc2_w 302, 3) := by decide +kernel
theorem dX6_digest_140 : decode cX6_digest 140 = .ok (.lload_n 1, 1) := by decide +kernel
theorem dX6_digest_141 : decode cX6_digest 141 = .ok (.lmul, 1) := by decide +kernel
theorem dX6_digest_142 : decode cX6_digest 142 = .ok (.aload_n 0, 1) := by decide +kernel
theorem dX6_digest_143 : decode cX6_digest 143 = .ok (.invokevirtual 229, 3) := by decide +kernel
theorem dX6_digest_146 : decode cX6_digest 146 = .ok (.i2l, 1) := by decide +kernel
theorem dX6_digest_147 : decode cX6_digest 147 = .ok (.ladd, 1) := by decide +kernel
theorem dX6_digest_148 : decode cX6_digest 148 = .ok (.lstore_n 1, 1) := by decide +kernel
theorem dX6_digest_149 : decode cX6_digest 149 = .ok (.ldc2_w 302, 3) := by decide +kernel
theorem dX6_digest_152 : decode cX6_digest 152 = .ok (.lload_n 1, 1) := by decide +kernel
theorem dX6_digest_153 : decode cX6_digest 153 = .ok (.lmul, 1) := by decide +kernel
theorem dX6_digest_154 : decode cX6_digest 154 = .ok (.aload_n 0, 1) := by decide +kernel
theorem dX6_digest_155 : decode cX6_digest 155 = .ok (.invokevirtual 232, 3) := by decide +kernel
theorem dX6_digest_158 : decode cX6_digest 158 = .ok (.i2l, 1) := by decide +kernel
theorem dX6_digest_159 : decode cX6_digest 159 = .ok (.ladd, 1) := by decide +kernel
theorem dX6_digest_160 : decode cX6_digest 160 = .ok (.lstore_n 1, 1) := by decide +kernel
theorem dX6_digest_161 : decode cX6_digest 161 = .ok (.ldc2_w 302, 3) := by decide +kernel
theorem dX6_digest_164 : decode cX6_digest 164 = .ok (.lload_n 1, 1) := by decide +kernel
theorem dX6_digest_165 : decode cX6_digest 165 = .ok (.lmul, 1) := by decide +kernel
theorem dX6_digest_166 : decode cX6_digest 166 = .ok (.aload_n 0, 1) := by decide +kernel
theorem dX6_digest_167 : decode cX6_digest 167 = .ok (.invokevirtual 235, 3) := by decide +kernel
theorem dX6_digest_170 : decode cX6_digest 170 = .ok (.i2l, 1) := by decide +kernel
theorem dX6_digest_171 : decode cX6_digest 171 = .ok (.ladd, 1) := by decide +kernel
theorem dX6_digest_172 : decode cX6_digest 172 = .ok (.lstore_n 1, 1) := by decide +kernel
theorem dX6_digest_173 : decode cX6_digest 173 = .ok (.ldc2_w 302, 3) := by decide +kernel
theorem dX6_digest_176 : decode cX6_digest 176 = .ok (.lload_n 1, 1) := by decide +kernel
theorem dX6_digest_177 : decode cX6_digest 177 = .ok (.lmul, 1) := by decide +kernel
theorem dX6_digest_178 : decode cX6_digest 178 = .ok (.aload_n 0, 1) := by decide +kernel
theorem dX6_digest_179 : decode cX6_digest 179 = .ok (.iconst 0, 1) := by decide +kernel
theorem dX6_digest_180 : decode cX6_digest 180 = .ok (.invokevirtual 241, 3) := by decide +kernel
theorem dX6_digest_183 : decode cX6_digest 183 = .ok (.i2l, 1) := by decide +kernel
theorem dX6_digest_184 : decode cX6_digest 184 = .ok (.ladd, 1) := by decide +kernel
theorem dX6_digest_185 : decode cX6_digest 185 = .ok (.lstore_n 1, 1) := by decide +kernel
theorem dX6_digest_186 : decode cX6_digest 186 = .ok (.ldc2_w 302, 3) := by decide +kernel
theorem dX6_digest_189 : decode cX6_digest 189 = .ok (.lload_n 1, 1) := by decide +kernel
theorem dX6_digest_190 : decode cX6_digest 190 = .ok (.lmul, 1) := by decide +kernel
theorem dX6_digest_191 : decode cX6_digest 191 = .ok (.aload_n 0, 1) := by decide +kernel
theorem dX6_digest_192 : decode cX6_digest 192 = .ok (.iconst 1, 1) := by decide +kernel
theorem dX6_digest_193 : decode cX6_digest 193 = .ok (.invokevirtual 241, 3) := by decide +kernel
theorem dX6_digest_196 : decode cX6_digest 196 = .ok (.i2l, 1) := by decide +kernel
theorem dX6_digest_197 : decode cX6_digest 197 = .ok (.ladd, 1) := by decide +kernel
theorem dX6_digest_198 : decode cX6_digest 198 = .ok (.lstore_n 1, 1) := by decide +kernel
theorem dX6_digest_199 : decode cX6_digest 199 = .ok (.ldc2_w 302, 3) := by decide +kernel
theorem dX6_digest_202 : decode cX6_digest 202 = .ok (.lload_n 1, 1) := by decide +kernel
theorem dX6_digest_203 : decode cX6_digest 203 = .ok (.lmul, 1) := by decide +kernel
theorem dX6_digest_204 : decode cX6_digest 204 = .ok (.aload_n 0, 1) := by decide +kernel
theorem dX6_digest_205 : decode cX6_digest 205 = .ok (.invokevirtual 247, 3) := by decide +kernel
theorem dX6_digest_208 : decode cX6_digest 208 = .ok (.i2l, 1) := by decide +kernel
theorem dX6_digest_209 : decode cX6_digest 209 = .ok (.ladd, 1) := by decide +kernel
theorem dX6_digest_210 : decode cX6_digest 210 = .ok (.lstore_n 1, 1) := by decide +kernel
theorem dX6_digest_211 : decode cX6_digest 211 = .ok (.ldc2_w 302, 3) := by decide +kernel
theorem dX6_digest_214 : decode cX6_digest 214 = .ok (.lload_n 1, 1) := by decide +kernel
theorem dX6_digest_215 : decode cX6_digest 215 = .ok (.lmul, 1) := by decide +kernel
theorem dX6_digest_216 : decode cX6_digest 216 = .ok (.aload_n 0, 1) := by decide +kernel
theorem dX6_digest_217 : decode cX6_digest 217 = .ok (.iconst 0, 1) := by decide +kernel
theorem dX6_digest_218 : decode cX6_digest 218 = .ok (.invokevirtual 250, 3) := by decide +kernel
theorem dX6_digest_221 : decode cX6_digest 221 = .ok (.i2l, 1) := by decide +kernel
theorem dX6_digest_222 : decode cX6_digest 222 = .ok (.ladd, 1) := by decide +kernel
theorem dX6_digest_223 : decode cX6_digest 223 = .ok (.lstore_n 1, 1) := by decide +kernel
theorem dX6_digest_224 : decode cX6_digest 224 = .ok (.ldc2_w 302, 3) := by decide +kernel
theorem dX6_digest_227 : decode cX6_digest 227 = .ok (.lload_n 1, 1) := by decide +kernel
theorem dX6_digest_228 : decode cX6_digest 228 = .ok (.lmul, 1) := by decide +kernel
theorem dX6_digest_229 : decode cX6_digest 229 = .ok (.aload_n 0, 1) := by decide +kernel
theorem dX6_digest_230 : decode cX6_digest 230 = .ok (.iconst 1, 1) := by decide +kernel
theorem dX6_digest_231 : decode cX6_digest 231 = .ok (.invokevirtual 250, 3) := by decide +kernel
theorem dX6_digest_234 : decode cX6_digest 234 = .ok (.i2l, 1) := by decide +kernel
theorem dX6_digest_235 : decode cX6_digest 235 = .ok (.ladd, 1) := by decide +kernel
theorem dX6_digest_236 : decode cX6_digest 236 = .ok (.lstore_n 1, 1) := by decide +kernel
theorem dX6_digest_237 : decode cX6_digest 237 = .ok (.ldc2_w 302, 3) := by decide +kernel
theorem dX6_digest_240 : decode cX6_digest 240 = .ok (.lload_n 1, 1) := by decide +kernel
theorem dX6_digest_241 : decode cX6_digest 241 = .ok (.lmul, 1) := by decide +kernel
theorem dX6_digest_242 : decode cX6_digest 242 = .ok (.aload_n 0, 1) := by decide +kernel
theorem dX6_digest_243 : decode cX6_digest 243 = .ok (.invokevirtual 260, 3) := by decide +kernel
theorem dX6_digest_246 : decode cX6_digest 246 = .ok (.i2l, 1) := by decide +kernel
theorem dX6_digest_247 : decode cX6_digest 247 = .ok (.ladd, 1) := by decide +kernel
theorem dX6_digest_248 : decode cX6_digest 248 = .ok (.lstore_n 1, 1) := by decide +kernel
theorem dX6_digest_249 : decode cX6_digest 249 = .ok (.iconst 0, 1) := by decide +kernel
theorem dX6_digest_250 : decode cX6_digest 250 = .ok (.istore_n 3, 1) := by decide +kernel
theorem dX6_digest_251 : decode cX6_digest 251 = .ok (.iload_n 3, 1) := by decide +kernel
theorem dX6_digest_252 : decode cX6_digest 252 = .ok (.iconst 3, 1) := by decide +kernel
theorem dX6_digest_253 : decode cX6_digest 253 = .ok (.if_icmp .ge 22, 3) := by decide +kernel
theorem dX6_digest_256 : decode cX6_digest 256 = .ok (.ldc2_w 302, 3) := by decide +kernel
theorem dX6_digest_259 : decode cX6_digest 259 = .ok (.lload_n 1, 1) := by decide +kernel
theorem dX6_digest_260 : decode cX6_digest 260 = .ok (.lmul, 1) := by decide +kernel
theorem dX6_digest_261 : decode cX6_digest 261 = .ok (.aload_n 0, 1) := by decide +kernel
theorem dX6_digest_262 : decode cX6_digest 262 = .ok (.iload_n 3, 1) := by decide +kernel
theorem dX6_digest_263 : decode cX6_digest 263 = .ok (.invokevirtual 266, 3) := by decide +kernel
theorem dX6_digest_266 : decode cX6_digest 266 = .ok (.i2l, 1) := by decide +kernel
theorem dX6_digest_267 : decode cX6_digest 267 = .ok (.ladd, 1) := by decide +kernel
theorem dX6_digest_268 : decode cX6_digest 268 = .ok (.lstore_n 1, 1) := by decide +kernel
theorem dX6_digest_269 : decode cX6_digest 269 = .ok (.iinc 3 1, 3) := by decide +kernel
theorem dX6_digest_272 : decode cX6_digest 272 = .ok (.goto (-21), 3) := by decide +kernel
theorem dX6_digest_275 : decode cX6_digest 275 = .ok (.ldc2_w 302, 3) := by decide +kernel
theorem dX6_digest_278 : decode cX6_digest 278 = .ok (.lload_n 1, 1) := by decide +kernel
theorem dX6_digest_279 : decode cX6_digest 279 = .ok (.lmul, 1) := by decide +kernel
theorem dX6_digest_280 : decode cX6_digest 280 = .ok (.aload_n 0, 1) := by decide +kernel
theorem dX6_digest_281 : decode cX6_digest 281 = .ok (.bipush 7, 2) := by decide +kernel
theorem dX6_digest_283 : decode cX6_digest 283 = .ok (.bipush 25, 2) := by decide +kernel
theorem dX6_digest_285 : decode cX6_digest 285 = .ok (.iconst 0, 1) := by decide +kernel
theorem dX6_digest_286 : decode cX6_digest 286 = .ok (.invokevirtual 285, 3) := by decide +kernel
theorem dX6_digest_289 : decode cX6_digest 289 = .ok (.i2l, 1) := by decide +kernel
theorem dX6_digest_290 : decode cX6_digest 290 = .ok (.ladd, 1) := by decide +kernel
theorem dX6_digest_291 : decode cX6_digest 291 = .ok (.lstore_n 1, 1) := by decide +kernel
theorem dX6_digest_292 : decode cX6_digest 292 = .ok (.ldc2_w 302, 3) := by decide +kernel
theorem dX6_digest_295 : decode cX6_digest 295 = .ok (.lload_n 1, 1) := by decide +kernel
theorem dX6_digest_296 : decode cX6_digest 296 = .ok (.lmul, 1) := by decide +kernel
theorem dX6_digest_297 : decode cX6_digest 297 = .ok (.aload_n 0, 1) := by decide +kernel
theorem dX6_digest_298 : decode cX6_digest 298 = .ok (.bipush 7, 2) := by decide +kernel
theorem dX6_digest_300 : decode cX6_digest 300 = .ok (.bipush 25, 2) := by decide +kernel
theorem dX6_digest_302 : decode cX6_digest 302 = .ok (.iconst 1, 1) := by decide +kernel
theorem dX6_digest_303 : decode cX6_digest 303 = .ok (.invokevirtual 285, 3) := by decide +kernel
theorem dX6_digest_306 : decode cX6_digest 306 = .ok (.i2l, 1) := by decide +kernel
theorem dX6_digest_307 : decode cX6_digest 307 = .ok (.ladd, 1) := by decide +kernel
theorem dX6_digest_308 : decode cX6_digest 308 = .ok (.lreturn, 1) := by decide +kernel
end
section
theorem dL_law_0 : decode cL_law 0 = .ok (.new 7, 3) := by decide +kernel
theorem dL_law_3 : decode cL_law 3 = .ok (.dup, 1) := by decide +kernel
theorem dL_law_4 : decode cL_law 4 = .ok (.invokespecial 9, 3) := by decide +kernel
theorem dL_law_7 : decode cL_law 7 = .ok (.astore_n 1, 1) := by decide +kernel
theorem dL_law_8 : decode cL_law 8 = .ok (.new 10, 3) := by decide +kernel
theorem dL_law_11 : decode cL_law 11 = .ok (.dup, 1) := by decide +kernel
theorem dL_law_12 : decode cL_law 12 = .ok (.invokespecial 12, 3) := by decide +kernel
theorem dL_law_15 : decode cL_law 15 = .ok (.astore_n 2, 1) := by decide +kernel
theorem dL_law_16 : decode cL_law 16 = .ok (.iconst 0, 1) := by decide +kernel
theorem dL_law_17 : decode cL_law 17 = .ok (.istore_n 3, 1) := by decide +kernel
theorem dL_law_18 : decode cL_law 18 = .ok (.iload_n 3, 1) := by decide +kernel
theorem dL_law_19 : decode cL_law 19 = .ok (.aload_n 0, 1) := by decide +kernel
theorem dL_law_20 : decode cL_law 20 = .ok (.arraylength, 1) := by decide +kernel
theorem dL_law_21 : decode cL_law 21 = .ok (.bipush 6, 2) := by decide +kernel
theorem dL_law_23 : decode cL_law 23 = .ok (.isub, 1) := by decide +kernel
theorem dL_law_24 : decode cL_law 24 = .ok (.if_icmp .gt 1251, 3) := by decide +kernel
theorem dL_law_27 : decode cL_law 27 = .ok (.aload_n 0, 1) := by decide +kernel
theorem dL_law_28 : decode cL_law 28 = .ok (.iload_n 3, 1) := by decide +kernel
theorem dL_law_29 : decode cL_law 29 = .ok (.iaload, 1) := by decide +kernel
theorem dL_law_30 : decode cL_law 30 = .ok (.bipush 63, 2) := by decide +kernel
theorem dL_law_32 : decode cL_law 32 = .ok (.iand, 1) := by decide +kernel
theorem dL_law_33 : decode cL_law 33 = .ok (.tableswitch 1236 0 36 #[163, 196, 219, 242, 265, 298, 321, 354, 397, 430, 453, 476, 509, 552, 585, 598, 611, 624, 647, 680, 693, 716, 759, 772, 785, 808, 831, 854, 898, 941, 984, 1007, 1060, 1103, 1166, 1199, 1222], 163) := by decide +kernel
theorem dL_law_196 : decode cL_law 196 = .ok (.aload_n 1, 1) := by decide +kernel
theorem dL_law_197 : decode cL_law 197 = .ok (.aload_n 0, 1) := by decide +kernel
theorem dL_law_198 : decode cL_law 198 = .ok (.iload_n 3, 1) := by decide +kernel
theorem dL_law_199 : decode cL_law 199 = .ok (.iconst 1, 1) := by decide +kernel
theorem dL_law_200 : decode cL_law 200 = .ok (.iadd, 1) := by decide +kernel
theorem dL_law_201 : decode cL_law 201 = .ok (.iaload, 1) := by decide +kernel
theorem dL_law_202 : decode cL_law 202 = .ok (.aload_n 0, 1) := by decide +kernel
theorem dL_law_203 : decode cL_law 203 = .ok (.iload_n 3, 1) := by decide +kernel
theorem dL_law_204 : decode cL_law 204 = .ok (.iconst 2, 1) := by decide +kernel
theorem dL_law_205 : decode cL_law 205 = .ok (.iadd, 1) := by decide +kernel
theorem dL_law_206 : decode cL_law 206 = .ok (.iaload, 1) := by decide +kernel
theorem dL_law_207 : decode cL_law 207 = .ok (.invokevirtual 13, 3) := by decide +kernel
theorem dL_law_210 : decode cL_law 210 = .ok (.aload_n 2, 1) := by decide +kernel
theorem dL_law_211 : decode cL_law 211 = .ok (.aload_n 0, 1) := by decide +kernel
theorem dL_law_212 : decode cL_law 212 = .ok (.iload_n 3, 1) := by decide +kernel
theorem dL_law_213 : decode cL_law 213 = .ok (.iconst 1, 1) := by decide +kernel
theorem dL_law_214 : decode cL_law 214 = .ok (.iadd, 1) := by decide +kernel
theorem dL_law_215 : decode cL_law 215 = .ok (.iaload, 1) := by decide +kernel
theorem dL_law_216 : decode cL_law 216 = .ok (.aload_n 0, 1) := by decide +kernel
theorem dL_law_217 : decode cL_law 217 = .ok (.iload_n 3, 1) := by decide +kernel
theorem dL_law_218 : decode cL_law 218 = .ok (.iconst 2, 1) := by decide +kernel
theorem dL_law_219 : decode cL_law 219 = .ok (.iadd, 1) := by decide +kernel
theorem dL_law_220 : decode cL_law 220 = .ok (.iaload, 1) := by decide +kernel
theorem dL_law_221 : decode cL_law 221 = .ok (.invokevirtual 17, 3) := by decide +kernel
theorem dL_law_224 : decode cL_law 224 = .ok (.if_icmp .eq 1045, 3) := by decide +kernel
theorem dL_law_227 : decode cL_law 227 = .ok (.iconst 0, 1) := by decide +kernel
theorem dL_law_228 : decode cL_law 228 = .ok (.ireturn, 1) := by decide +kernel
theorem dL_law_229 : decode cL_law 229 = .ok (.aload_n 1, 1) := by decide +kernel
theorem dL_law_230 : decode cL_law 230 = .ok (.aload_n 0, 1) := by decide +kernel
theorem dL_law_231 : decode cL_law 231 = .ok (.iload_n 3, 1) := by decide +kernel
theorem dL_law_232 : decode cL_law 232 = .ok (.iconst 1, 1) := by decide +kernel
theorem dL_law_233 : decode cL_law 233 = .ok (.iadd, 1) := by decide +kernel
theorem dL_law_234 : decode cL_law 234 = .ok (.iaload, 1) := by decide +kernel
theorem dL_law_235 : decode cL_law 235 = .ok (.invokevirtual 18, 3) := by decide +kernel
theorem dL_law_238 : decode cL_law 238 = .ok (.aload_n 2, 1) := by decide +kernel
theorem dL_law_239 : decode cL_law 239 = .ok (.aload_n 0, 1) := by decide +kernel
theorem dL_law_240 : decode cL_law 240 = .ok (.iload_n 3, 1) := by decide +kernel
theorem dL_law_241 : decode cL_law 241 = .ok (.iconst 1, 1) := by decide +kernel
theorem dL_law_242 : decode cL_law 242 = .ok (.iadd, 1) := by decide +kernel
theorem dL_law_243 : decode cL_law 243 = .ok (.iaload, 1) := by decide +kernel
theorem dL_law_244 : decode cL_law 244 = .ok (.invokevirtual 22, 3) := by decide +kernel
theorem dL_law_247 : decode cL_law 247 = .ok (.if_icmp .eq 1022, 3) := by decide +kernel
theorem dL_law_250 : decode cL_law 250 = .ok (.iconst 0, 1) := by decide +kernel
theorem dL_law_251 : decode cL_law 251 = .ok (.ireturn, 1) := by decide +kernel
theorem dL_law_252 : decode cL_law 252 = .ok (.aload_n 1, 1) := by decide +kernel
theorem dL_law_253 : decode cL_law 253 = .ok (.aload_n 0, 1) := by decide +kernel
theorem dL_law_254 : decode cL_law 254 = .ok (.iload_n 3, 1) := by decide +kernel
theorem dL_law_255 : decode cL_law 255 = .ok (.iconst 1, 1) := by decide +kernel
theorem dL_law_256 : decode cL_law 256 = .ok (.iadd, 1) := by decide +kernel
theorem dL_law_257 : decode cL_law 257 = .ok (.iaload, 1) := by decide +kernel
theorem dL_law_258 : decode cL_law 258 = .ok (.invokevirtual 23, 3) := by decide +kernel
theorem dL_law_261 : decode cL_law 261 = .ok (.aload_n 2, 1) := by decide +kernel
theorem dL_law_262 : decode cL_law 262 = .ok (.aload_n 0, 1) := by decide +kernel
theorem dL_law_263 : decode cL_law 263 = .ok (.iload_n 3, 1) := by decide +kernel
theorem dL_law_264 : decode cL_law 264 = .ok (.iconst 1, 1) := by decide +kernel
theorem dL_law_265 : decode cL_law 265 = .ok (.iadd, 1) := by decide +kernel
theorem dL_law_266 : decode cL_law 266 = .ok (.iaload, 1) := by decide +kernel
theorem dL_law_267 : decode cL_law 267 = .ok (.invokevirtual 26, 3) := by decide +kernel
theorem dL_law_270 : decode cL_law 270 = .ok (.if_icmp .eq 999, 3) := by decide +kernel
theorem dL_law_273 : decode cL_law 273 = .ok (.iconst 0, 1) := by decide +kernel
theorem dL_law_274 : decode cL_law 274 = .ok (.ireturn, 1) := by decide +kernel
theorem dL_law_275 : decode cL_law 275 = .ok (.aload_n 1, 1) := by decide +kernel
theorem dL_law_276 : decode cL_law 276 = .ok (.aload_n 0, 1) := by decide +kernel
theorem dL_law_277 : decode cL_law 277 = .ok (.iload_n 3, 1) := by decide +kernel
theorem dL_law_278 : decode cL_law 278 = .ok (.iconst 1, 1) := by decide +kernel
theorem dL_law_279 : decode cL_law 279 = .ok (.iadd, 1) := by decide +kernel
theorem dL_law_280 : decode cL_law 280 = .ok (.iaload, 1) := by decide +kernel
theorem dL_law_281 : decode cL_law 281 = .ok (.invokevirtual 27, 3) := by decide +kernel
theorem dL_law_284 : decode cL_law 284 = .ok (.aload_n 2, 1) := by decide +kernel
theorem dL_law_285 : decode cL_law 285 = .ok (.aload_n 0, 1) := by decide +kernel
theorem dL_law_286 : decode cL_law 286 = .ok (.iload_n 3, 1) := by decide +kernel
theorem dL_law_287 : decode cL_law 287 = .ok (.iconst 1, 1) := by decide +kernel
theorem dL_law_288 : decode cL_law 288 = .ok (.iadd, 1) := by decide +kernel
theorem dL_law_289 : decode cL_law 289 = .ok (.iaload, 1) := by decide +kernel
theorem dL_law_290 : decode cL_law 290 = .ok (.invokevirtual 30, 3) := by decide +kernel
theorem dL_law_293 : decode cL_law 293 = .ok (.if_icmp .eq 976, 3) := by decide +kernel
theorem dL_law_296 : decode cL_law 296 = .ok (.iconst 0, 1) := by decide +kernel
theorem dL_law_297 : decode cL_law 297 = .ok (.ireturn, 1) := by decide +kernel
theorem dL_law_298 : decode cL_law 298 = .ok (.aload_n 1, 1) := by decide +kernel
theorem dL_law_299 : decode cL_law 299 = .ok (.aload_n 0, 1) := by decide +kernel
theorem dL_law_300 : decode cL_law 300 = .ok (.iload_n 3, 1) := by decide +kernel
theorem dL_law_301 : decode cL_law 301 = .ok (.iconst 1, 1) := by decide +kernel
theorem dL_law_302 : decode cL_law 302 = .ok (.iadd, 1) := by decide +kernel
theorem dL_law_303 : decode cL_law 303 = .ok (.iaload, 1) := by decide +kernel
theorem dL_law_304 : decode cL_law 304 = .ok (.aload_n 0, 1) := by decide +kernel
theorem dL_law_305 : decode cL_law 305 = .ok (.iload_n 3, 1) := by decide +kernel
theorem dL_law_306 : decode cL_law 306 = .ok (.iconst 2, 1) := by decide +kernel
theorem dL_law_307 : decode cL_law 307 = .ok (.iadd, 1) := by decide +kernel
theorem dL_law_308 : decode cL_law 308 = .ok (.iaload, 1) := by decide +kernel
theorem dL_law_309 : decode cL_law 309 = .ok (.invokevirtual 31, 3) := by decide +kernel
theorem dL_law_312 : decode cL_law 312 = .ok (.aload_n 2, 1) := by decide +kernel
theorem dL_law_313 : decode cL_law 313 = .ok (.aload_n 0, 1) := by decide +kernel
theorem dL_law_314 : decode cL_law 314 = .ok (.iload_n 3, 1) := by decide +kernel
theorem dL_law_315 : decode cL_law 315 = .ok (.iconst 1, 1) := by decide +kernel
theorem dL_law_316 : decode cL_law 316 = .ok (.iadd, 1) := by decide +kernel
theorem dL_law_317 : decode cL_law 317 = .ok (.iaload, 1) := by decide +kernel
theorem dL_law_318 : decode cL_law 318 = .ok (.aload_n 0, 1) := by decide +kernel
theorem dL_law_319 : decode cL_law 319 = .ok (.iload_n 3, 1) := by decide +kernel
theorem dL_law_320 : decode cL_law 320 = .ok (.iconst 2, 1) := by decide +kernel
theorem dL_law_321 : decode cL_law 321 = .ok (.iadd, 1) := by decide +kernel
theorem dL_law_322 : decode cL_law 322 = .ok (.iaload, 1) := by decide +kernel
theorem dL_law_323 : decode cL_law 323 = .ok (.invokevirtual 34, 3) := by decide +kernel
theorem dL_law_326 : decode cL_law 326 = .ok (.if_icmp .eq 943, 3) := by decide +kernel
theorem dL_law_329 : decode cL_law 329 = .ok (.iconst 0, 1) := by decide +kernel
theorem dL_law_330 : decode cL_law 330 = .ok (.ireturn, 1) := by decide +kernel
theorem dL_law_331 : decode cL_law 331 = .ok (.aload_n 1, 1) := by decide +kernel
theorem dL_law_332 : decode cL_law 332 = .ok (.aload_n 0, 1) := by decide +kernel
theorem dL_law_333 : decode cL_law 333 = .ok (.iload_n 3, 1) := by decide +kernel
theorem dL_law_334 : decode cL_law 334 = .ok (.iconst 1, 1) := by decide +kernel
theorem dL_law_335 : decode cL_law 335 = .ok (.iadd, 1) := by decide +kernel
theorem dL_law_336 : decode cL_law 336 = .ok (.iaload, 1) := by decide +kernel
theorem dL_law_337 : decode cL_law 337 = .ok (.invokevirtual 35, 3) := by decide +kernel
theorem dL_law_340 : decode cL_law 340 = .ok (.aload_n 2, 1) := by decide +kernel
theorem dL_law_341 : decode cL_law 341 = .ok (.aload_n 0, 1) := by decide +kernel
theorem dL_law_342 : decode cL_law 342 = .ok (.iload_n 3, 1) := by decide +kernel
theorem dL_law_343 : decode cL_law 343 = .ok (.iconst 1, 1) := by decide +kernel
theorem dL_law_344 : decode cL_law 344 = .ok (.iadd, 1) := by decide +kernel
theorem dL_law_345 : decode cL_law 345 = .ok (.iaload, 1) := by decide +kernel
theorem dL_law_346 : decode cL_law 346 = .ok (.invokevirtual 38, 3) := by decide +kernel
theorem dL_law_349 : decode cL_law 349 = .ok (.if_icmp .eq 920, 3) := by decide +kernel
theorem dL_law_352 : decode cL_law 352 = .ok (.iconst 0, 1) := by decide +kernel
theorem dL_law_353 : decode cL_law 353 = .ok (.ireturn, 1) := by decide +kernel
theorem dL_law_354 : decode cL_law 354 = .ok (.aload_n 1, 1) := by decide +kernel
theorem dL_law_355 : decode cL_law 355 = .ok (.aload_n 0, 1) := by decide +kernel
theorem dL_law_356 : decode cL_law 356 = .ok (.iload_n 3, 1) := by decide +kernel
theorem dL_law_357 : decode cL_law 357 = .ok (.iconst 1, 1) := by decide +kernel
theorem dL_law_358 : decode cL_law 358 = .ok (.iadd, 1) := by decide +kernel
theorem dL_law_359 : decode cL_law 359 = .ok (.iaload, 1) := by decide +kernel
theorem dL_law_360 : decode cL_law 360 = .ok (.aload_n 0, 1) := by decide +kernel
theorem dL_law_361 : decode cL_law 361 = .ok (.iload_n 3, 1) := by decide +kernel
theorem dL_law_362 : decode cL_law 362 = .ok (.iconst 2, 1) := by decide +kernel
theorem dL_law_363 : decode cL_law 363 = .ok (.iadd, 1) := by decide +kernel
theorem dL_law_364 : decode cL_law 364 = .ok (.iaload, 1) := by decide +kernel
theorem dL_law_365 : decode cL_law 365 = .ok (.invokevirtual 39, 3) := by decide +kernel
theorem dL_law_368 : decode cL_law 368 = .ok (.aload_n 2, 1) := by decide +kernel
theorem dL_law_369 : decode cL_law 369 = .ok (.aload_n 0, 1) := by decide +kernel
theorem dL_law_370 : decode cL_law 370 = .ok (.iload_n 3, 1) := by decide +kernel
theorem dL_law_371 : decode cL_law 371 = .ok (.iconst 1, 1) := by decide +kernel
theorem dL_law_372 : decode cL_law 372 = .ok (.iadd, 1) := by decide +kernel
theorem dL_law_373 : decode cL_law 373 = .ok (.iaload, 1) := by decide +kernel
theorem dL_law_374 : decode cL_law 374 = .ok (.aload_n 0, 1) := by decide +kernel
theorem dL_law_375 : decode cL_law 375 = .ok (.iload_n 3, 1) := by decide +kernel
theorem dL_law_376 : decode cL_law 376 = .ok (.iconst 2, 1) := by decide +kernel
theorem dL_law_377 : decode cL_law 377 = .ok (.iadd, 1) := by decide +kernel
theorem dL_law_378 : decode cL_law 378 = .ok (.iaload, 1) := by decide +kernel
theorem dL_law_379 : decode cL_law 379 = .ok (.invokevirtual 42, 3) := by decide +kernel
theorem dL_law_382 : decode cL_law 382 = .ok (.if_icmp .eq 887, 3) := by decide +kernel
theorem dL_law_385 : decode cL_law 385 = .ok (.iconst 0, 1) := by decide +kernel
theorem dL_law_386 : decode cL_law 386 = .ok (.ireturn, 1) := by decide +kernel
theorem dL_law_387 : decode cL_law 387 = .ok (.aload_n 1, 1) := by decide +kernel
theorem dL_law_388 : decode cL_law 388 = .ok (.aload_n 0, 1) := by decide +kernel
theorem dL_law_389 : decode cL_law 389 = .ok (.iload_n 3, 1) := by decide +kernel
theorem dL_law_390 : decode cL_law 390 = .ok (.iconst 1, 1) := by decide +kernel
theorem dL_law_391 : decode cL_law 391 = .ok (.iadd, 1) := by decide +kernel
theorem dL_law_392 : decode cL_law 392 = .ok (.iaload, 1) := by decide +kernel
theorem dL_law_393 : decode cL_law 393 = .ok (.aload_n 0, 1) := by decide +kernel
theorem dL_law_394 : decode cL_law 394 = .ok (.iload_n 3, 1) := by decide +kernel
theorem dL_law_395 : decode cL_law 395 = .ok (.iconst 2, 1) := by decide +kernel
theorem dL_law_396 : decode cL_law 396 = .ok (.iadd, 1) := by decide +kernel
theorem dL_law_397 : decode cL_law 397 = .ok (.iaload, 1) := by decide +kernel
theorem dL_law_398 : decode cL_law 398 = .ok (.aload_n 0, 1) := by decide +kernel
theorem dL_law_399 : decode cL_law 399 = .ok (.iload_n 3, 1) := by decide +kernel
theorem dL_law_400 : decode cL_law 400 = .ok (.iconst 3, 1) := by decide +kernel
theorem dL_law_401 : decode cL_law 401 = .ok (.iadd, 1) := by decide +kernel
theorem dL_law_402 : decode cL_law 402 = .ok (.iaload, 1) := by decide +kernel
theorem dL_law_403 : decode cL_law 403 = .ok (.invokevirtual 43, 3) := by decide +kernel
theorem dL_law_406 : decode cL_law 406 = .ok (.aload_n 2, 1) := by decide +kernel
theorem dL_law_407 : decode cL_law 407 = .ok (.aload_n 0, 1) := by decide +kernel
theorem dL_law_408 : decode cL_law 408 = .ok (.iload_n 3, 1) := by decide +kernel
theorem dL_law_409 : decode cL_law 409 = .ok (.iconst 1, 1) := by decide +kernel
theorem dL_law_410 : decode cL_law 410 = .ok (.iadd, 1) := by decide +kernel
theorem dL_law_411 : decode cL_law 411 = .ok (.iaload, 1) := by decide +kernel
theorem dL_law_412 : decode cL_law 412 = .ok (.aload_n 0, 1) := by decide +kernel
theorem dL_law_413 : decode cL_law 413 = .ok (.iload_n 3, 1) := by decide +kernel
theorem dL_law_414 : decode cL_law 414 = .ok (.iconst 2, 1) := by decide +kernel
theorem dL_law_415 : decode cL_law 415 = .ok (.iadd, 1) := by decide +kernel
theorem dL_law_416 : decode cL_law 416 = .ok (.iaload, 1) := by decide +kernel
theorem dL_law_417 : decode cL_law 417 = .ok (.aload_n 0, 1) := by decide +kernel
theorem dL_law_418 : decode cL_law 418 = .ok (.iload_n 3, 1) := by decide +kernel
theorem dL_law_419 : decode cL_law 419 = .ok (.iconst 3, 1) := by decide +kernel
theorem dL_law_420 : decode cL_law 420 = .ok (.iadd, 1) := by decide +kernel
theorem dL_law_421 : decode cL_law 421 = .ok (.iaload, 1) := by decide +kernel
theorem dL_law_422 : decode cL_law 422 = .ok (.invokevirtual 47, 3) := by decide +kernel
theorem dL_law_425 : decode cL_law 425 = .ok (.if_icmp .eq 844, 3) := by decide +kernel
theorem dL_law_428 : decode cL_law 428 = .ok (.iconst 0, 1) := by decide +kernel
theorem dL_law_429 : decode cL_law 429 = .ok (.ireturn, 1) := by decide +kernel
theorem dL_law_430 : decode cL_law 430 = .ok (.aload_n 1, 1) := by decide +kernel
theorem dL_law_431 : decode cL_law 431 = .ok (.aload_n 0, 1) := by decide +kernel
theorem dL_law_432 : decode cL_law 432 = .ok (.iload_n 3, 1) := by decide +kernel
theorem dL_law_433 : decode cL_law 433 = .ok (.iconst 1, 1) := by decide +kernel
theorem dL_law_434 : decode cL_law 434 = .ok (.iadd, 1) := by decide +kernel
theorem dL_law_435 : decode cL_law 435 = .ok (.iaload, 1) := by decide +kernel
theorem dL_law_436 : decode cL_law 436 = .ok (.aload_n 0, 1) := by decide +kernel
theorem dL_law_437 : decode cL_law 437 = .ok (.iload_n 3, 1) := by decide +kernel
theorem dL_law_438 : decode cL_law 438 = .ok (.iconst 2, 1) := by decide +kernel
theorem dL_law_439 : decode cL_law 439 = .ok (.iadd, 1) := by decide +kernel
theorem dL_law_440 : decode cL_law 440 = .ok (.iaload, 1) := by decide +kernel
theorem dL_law_441 : decode cL_law 441 = .ok (.invokevirtual 48, 3) := by decide +kernel
theorem dL_law_444 : decode cL_law 444 = .ok (.aload_n 2, 1) := by decide +kernel
theorem dL_law_445 : decode cL_law 445 = .ok (.aload_n 0, 1) := by decide +kernel
theorem dL_law_446 : decode cL_law 446 = .ok (.iload_n 3, 1) := by decide +kernel
theorem dL_law_447 : decode cL_law 447 = .ok (.iconst 1, 1) := by decide +kernel
theorem dL_law_448 : decode cL_law 448 = .ok (.iadd, 1) := by decide +kernel
theorem dL_law_449 : decode cL_law 449 = .ok (.iaload, 1) := by decide +kernel
theorem dL_law_450 : decode cL_law 450 = .ok (.aload_n 0, 1) := by decide +kernel
theorem dL_law_451 : decode cL_law 451 = .ok (.iload_n 3, 1) := by decide +kernel
theorem dL_law_452 : decode cL_law 452 = .ok (.iconst 2, 1) := by decide +kernel
theorem dL_law_453 : decode cL_law 453 = .ok (.iadd, 1) := by decide +kernel
theorem dL_law_454 : decode cL_law 454 = .ok (.iaload, 1) := by decide +kernel
theorem dL_law_455 : decode cL_law 455 = .ok (.invokevirtual 51, 3) := by decide +kernel
theorem dL_law_458 : decode cL_law 458 = .ok (.if_icmp .eq 811, 3) := by decide +kernel
theorem dL_law_461 : decode cL_law 461 = .ok (.iconst 0, 1) := by decide +kernel
theorem dL_law_462 : decode cL_law 462 = .ok (.ireturn, 1) := by decide +kernel
theorem dL_law_463 : decode cL_law 463 = .ok (.aload_n 1, 1) := by decide +kernel
theorem dL_law_464 : decode cL_law 464 = .ok (.aload_n 0, 1) := by decide +kernel
theorem dL_law_465 : decode cL_law 465 = .ok (.iload_n 3, 1) := by decide +kernel
theorem dL_law_466 : decode cL_law 466 = .ok (.iconst 1, 1) := by decide +kernel
theorem dL_law_467 : decode cL_law 467 = .ok (.iadd, 1) := by decide +kernel
theorem dL_law_468 : decode cL_law 468 = .ok (.iaload, 1) := by decide +kernel
theorem dL_law_469 : decode cL_law 469 = .ok (.invokevirtual 52, 3) := by decide +kernel
theorem dL_law_472 : decode cL_law 472 = .ok (.aload_n 2, 1) := by decide +kernel
theorem dL_law_473 : decode cL_law 473 = .ok (.aload_n 0, 1) := by decide +kernel
theorem dL_law_474 : decode cL_law 474 = .ok (.iload_n 3, 1) := by decide +kernel
theorem dL_law_475 : decode cL_law 475 = .ok (.iconst 1, 1) := by decide +kernel
theorem dL_law_476 : decode cL_law 476 = .ok (.iadd, 1) := by decide +kernel
theorem dL_law_477 : decode cL_law 477 = .ok (.iaload, 1) := by decide +kernel
theorem dL_law_478 : decode cL_law 478 = .ok (.invokevirtual 55, 3) := by decide +kernel
theorem dL_law_481 : decode cL_law 481 = .ok (.if_icmp .eq 788, 3) := by decide +kernel
theorem dL_law_484 : decode cL_law 484 = .ok (.iconst 0, 1) := by decide +kernel
theorem dL_law_485 : decode cL_law 485 = .ok (.ireturn, 1) := by decide +kernel
theorem dL_law_486 : decode cL_law 486 = .ok (.aload_n 1, 1) := by decide +kernel
theorem dL_law_487 : decode cL_law 487 = .ok (.aload_n 0, 1) := by decide +kernel
theorem dL_law_488 : decode cL_law 488 = .ok (.iload_n 3, 1) := by decide +kernel
theorem dL_law_489 : decode cL_law 489 = .ok (.iconst 1, 1) := by decide +kernel
theorem dL_law_490 : decode cL_law 490 = .ok (.iadd, 1) := by decide +kernel
theorem dL_law_491 : decode cL_law 491 = .ok (.iaload, 1) := by decide +kernel
theorem dL_law_492 : decode cL_law 492 = .ok (.invokevirtual 56, 3) := by decide +kernel
theorem dL_law_495 : decode cL_law 495 = .ok (.aload_n 2, 1) := by decide +kernel
theorem dL_law_496 : decode cL_law 496 = .ok (.aload_n 0, 1) := by decide +kernel
theorem dL_law_497 : decode cL_law 497 = .ok (.iload_n 3, 1) := by decide +kernel
theorem dL_law_498 : decode cL_law 498 = .ok (.iconst 1, 1) := by decide +kernel
theorem dL_law_499 : decode cL_law 499 = .ok (.iadd, 1) := by decide +kernel
theorem dL_law_500 : decode cL_law 500 = .ok (.iaload, 1) := by decide +kernel
theorem dL_law_501 : decode cL_law 501 = .ok (.invokevirtual 59, 3) := by decide +kernel
theorem dL_law_504 : decode cL_law 504 = .ok (.if_icmp .eq 765, 3) := by decide +kernel
theorem dL_law_507 : decode cL_law 507 = .ok (.iconst 0, 1) := by decide +kernel
theorem dL_law_508 : decode cL_law 508 = .ok (.ireturn, 1) := by decide +kernel
theorem dL_law_509 : decode cL_law 509 = .ok (.aload_n 1, 1) := by decide +kernel
theorem dL_law_510 : decode cL_law 510 = .ok (.aload_n 0, 1) := by decide +kernel
theorem dL_law_511 : decode cL_law 511 = .ok (.iload_n 3, 1) := by decide +kernel
theorem dL_law_512 : decode cL_law 512 = .ok (.iconst 1, 1) := by decide +kernel
theorem dL_law_513 : decode cL_law 513 = .ok (.iadd, 1) := by decide +kernel
theorem dL_law_514 : decode cL_law 514 = .ok (.iaload, 1) := by decide +kernel
theorem dL_law_515 : decode cL_law 515 = .ok (.aload_n 0, 1) := by decide +kernel
theorem dL_law_516 : decode cL_law 516 = .ok (.iload_n 3, 1) := by decide +kernel
theorem dL_law_517 : decode cL_law 517 = .ok (.iconst 2, 1) := by decide +kernel
theorem dL_law_518 : decode cL_law 518 = .ok (.iadd, 1) := by decide +kernel
theorem dL_law_519 : decode cL_law 519 = .ok (.iaload, 1) := by decide +kernel
theorem dL_law_520 : decode cL_law 520 = .ok (.invokevirtual 60, 3) := by decide +kernel
theorem dL_law_523 : decode cL_law 523 = .ok (.aload_n 2, 1) := by decide +kernel
theorem dL_law_524 : decode cL_law 524 = .ok (.aload_n 0, 1) := by decide +kernel
theorem dL_law_525 : decode cL_law 525 = .ok (.iload_n 3, 1) := by decide +kernel
theorem dL_law_526 : decode cL_law 526 = .ok (.iconst 1, 1) := by decide +kernel
theorem dL_law_527 : decode cL_law 527 = .ok (.iadd, 1) := by decide +kernel
theorem dL_law_528 : decode cL_law 528 = .ok (.iaload, 1) := by decide +kernel
theorem dL_law_529 : decode cL_law 529 = .ok (.aload_n 0, 1) := by decide +kernel
theorem dL_law_530 : decode cL_law 530 = .ok (.iload_n 3, 1) := by decide +kernel
theorem dL_law_531 : decode cL_law 531 = .ok (.iconst 2, 1) := by decide +kernel
theorem dL_law_532 : decode cL_law 532 = .ok (.iadd, 1) := by decide +kernel
theorem dL_law_533 : decode cL_law 533 = .ok (.iaload, 1) := by decide +kernel
theorem dL_law_534 : decode cL_law 534 = .ok (.invokevirtual 63, 3) := by decide +kernel
theorem dL_law_537 : decode cL_law 537 = .ok (.if_icmp .eq 732, 3) := by decide +kernel
theorem dL_law_540 : decode cL_law 540 = .ok (.iconst 0, 1) := by decide +kernel
theorem dL_law_541 : decode cL_law 541 = .ok (.ireturn, 1) := by decide +kernel
theorem dL_law_542 : decode cL_law 542 = .ok (.aload_n 1, 1) := by decide +kernel
theorem dL_law_543 : decode cL_law 543 = .ok (.aload_n 0, 1) := by decide +kernel
theorem dL_law_544 : decode cL_law 544 = .ok (.iload_n 3, 1) := by decide +kernel
theorem dL_law_545 : decode cL_law 545 = .ok (.iconst 1, 1) := by decide +kernel
theorem dL_law_546 : decode cL_law 546 = .ok (.iadd, 1) := by decide +kernel
theorem dL_law_547 : decode cL_law 547 = .ok (.iaload, 1) := by decide +kernel
theorem dL_law_548 : decode cL_law 548 = .ok (.aload_n 0, 1) := by decide +kernel
theorem dL_law_549 : decode cL_law 549 = .ok (.iload_n 3, 1) := by decide +kernel
theorem dL_law_550 : decode cL_law 550 = .ok (.iconst 2, 1) := by decide +kernel
theorem dL_law_551 : decode cL_law 551 = .ok (.iadd, 1) := by decide +kernel
theorem dL_law_552 : decode cL_law 552 = .ok (.iaload, 1) := by decide +kernel
theorem dL_law_553 : decode cL_law 553 = .ok (.aload_n 0, 1) := by decide +kernel
theorem dL_law_554 : decode cL_law 554 = .ok (.iload_n 3, 1) := by decide +kernel
theorem dL_law_555 : decode cL_law 555 = .ok (.iconst 3, 1) := by decide +kernel
theorem dL_law_556 : decode cL_law 556 = .ok (.iadd, 1) := by decide +kernel
theorem dL_law_557 : decode cL_law 557 = .ok (.iaload, 1) := by decide +kernel
theorem dL_law_558 : decode cL_law 558 = .ok (.invokevirtual 64, 3) := by decide +kernel
theorem dL_law_561 : decode cL_law 561 = .ok (.aload_n 2, 1) := by decide +kernel
theorem dL_law_562 : decode cL_law 562 = .ok (.aload_n 0, 1) := by decide +kernel
theorem dL_law_563 : decode cL_law 563 = .ok (.iload_n 3, 1) := by decide +kernel
theorem dL_law_564 : decode cL_law 564 = .ok (.iconst 1, 1) := by decide +kernel
theorem dL_law_565 : decode cL_law 565 = .ok (.iadd, 1) := by decide +kernel
theorem dL_law_566 : decode cL_law 566 = .ok (.iaload, 1) := by decide +kernel
theorem dL_law_567 : decode cL_law 567 = .ok (.aload_n 0, 1) := by decide +kernel
theorem dL_law_568 : decode cL_law 568 = .ok (.iload_n 3, 1) := by decide +kernel
theorem dL_law_569 : decode cL_law 569 = .ok (.iconst 2, 1) := by decide +kernel
theorem dL_law_570 : decode cL_law 570 = .ok (.iadd, 1) := by decide +kernel
theorem dL_law_571 : decode cL_law 571 = .ok (.iaload, 1) := by decide +kernel
theorem dL_law_572 : decode cL_law 572 = .ok (.aload_n 0, 1) := by decide +kernel
theorem dL_law_573 : decode cL_law 573 = .ok (.iload_n 3, 1) := by decide +kernel
theorem dL_law_574 : decode cL_law 574 = .ok (.iconst 3, 1) := by decide +kernel
theorem dL_law_575 : decode cL_law 575 = .ok (.iadd, 1) := by decide +kernel
theorem dL_law_576 : decode cL_law 576 = .ok (.iaload, 1) := by decide +kernel
theorem dL_law_577 : decode cL_law 577 = .ok (.invokevirtual 67, 3) := by decide +kernel
theorem dL_law_580 : decode cL_law 580 = .ok (.if_icmp .eq 689, 3) := by decide +kernel
theorem dL_law_583 : decode cL_law 583 = .ok (.iconst 0, 1) := by decide +kernel
theorem dL_law_584 : decode cL_law 584 = .ok (.ireturn, 1) := by decide +kernel
theorem dL_law_585 : decode cL_law 585 = .ok (.aload_n 1, 1) := by decide +kernel
theorem dL_law_586 : decode cL_law 586 = .ok (.aload_n 0, 1) := by decide +kernel
theorem dL_law_587 : decode cL_law 587 = .ok (.iload_n 3, 1) := by decide +kernel
theorem dL_law_588 : decode cL_law 588 = .ok (.iconst 1, 1) := by decide +kernel
theorem dL_law_589 : decode cL_law 589 = .ok (.iadd, 1) := by decide +kernel
theorem dL_law_590 : decode cL_law 590 = .ok (.iaload, 1) := by decide +kernel
theorem dL_law_591 : decode cL_law 591 = .ok (.aload_n 0, 1) := by decide +kernel
theorem dL_law_592 : decode cL_law 592 = .ok (.iload_n 3, 1) := by decide +kernel
theorem dL_law_593 : decode cL_law 593 = .ok (.iconst 2, 1) := by decide +kernel
theorem dL_law_594 : decode cL_law 594 = .ok (.iadd, 1) := by decide +kernel
theorem dL_law_595 : decode cL_law 595 = .ok (.iaload, 1) := by decide +kernel
theorem dL_law_596 : decode cL_law 596 = .ok (.invokevirtual 68, 3) := by decide +kernel
theorem dL_law_599 : decode cL_law 599 = .ok (.aload_n 2, 1) := by decide +kernel
theorem dL_law_600 : decode cL_law 600 = .ok (.aload_n 0, 1) := by decide +kernel
theorem dL_law_601 : decode cL_law 601 = .ok (.iload_n 3, 1) := by decide +kernel
theorem dL_law_602 : decode cL_law 602 = .ok (.iconst 1, 1) := by decide +kernel
theorem dL_law_603 : decode cL_law 603 = .ok (.iadd, 1) := by decide +kernel
theorem dL_law_604 : decode cL_law 604 = .ok (.iaload, 1) := by decide +kernel
theorem dL_law_605 : decode cL_law 605 = .ok (.aload_n 0, 1) := by decide +kernel
theorem dL_law_606 : decode cL_law 606 = .ok (.iload_n 3, 1) := by decide +kernel
theorem dL_law_607 : decode cL_law 607 = .ok (.iconst 2, 1) := by decide +kernel
theorem dL_law_608 : decode cL_law 608 = .ok (.iadd, 1) := by decide +kernel
theorem dL_law_609 : decode cL_law 609 = .ok (.iaload, 1) := by decide +kernel
theorem dL_law_610 : decode cL_law 610 = .ok (.invokevirtual 71, 3) := by decide +kernel
theorem dL_law_613 : decode cL_law 613 = .ok (.if_icmp .eq 656, 3) := by decide +kernel
theorem dL_law_616 : decode cL_law 616 = .ok (.iconst 0, 1) := by decide +kernel
theorem dL_law_617 : decode cL_law 617 = .ok (.ireturn, 1) := by decide +kernel
theorem dL_law_618 : decode cL_law 618 = .ok (.aload_n 1, 1) := by decide +kernel
theorem dL_law_619 : decode cL_law 619 = .ok (.invokevirtual 72, 3) := by decide +kernel
theorem dL_law_622 : decode cL_law 622 = .ok (.aload_n 2, 1) := by decide +kernel
theorem dL_law_623 : decode cL_law 623 = .ok (.invokevirtual 76, 3) := by decide +kernel
theorem dL_law_626 : decode cL_law 626 = .ok (.if_icmp .eq 643, 3) := by decide +kernel
theorem dL_law_629 : decode cL_law 629 = .ok (.iconst 0, 1) := by decide +kernel
theorem dL_law_630 : decode cL_law 630 = .ok (.ireturn, 1) := by decide +kernel
theorem dL_law_631 : decode cL_law 631 = .ok (.aload_n 1, 1) := by decide +kernel
theorem dL_law_632 : decode cL_law 632 = .ok (.invokevirtual 77, 3) := by decide +kernel
theorem dL_law_635 : decode cL_law 635 = .ok (.aload_n 2, 1) := by decide +kernel
theorem dL_law_636 : decode cL_law 636 = .ok (.invokevirtual 80, 3) := by decide +kernel
theorem dL_law_639 : decode cL_law 639 = .ok (.if_icmp .eq 630, 3) := by decide +kernel
theorem dL_law_642 : decode cL_law 642 = .ok (.iconst 0, 1) := by decide +kernel
theorem dL_law_643 : decode cL_law 643 = .ok (.ireturn, 1) := by decide +kernel
theorem dL_law_644 : decode cL_law 644 = .ok (.aload_n 1, 1) := by decide +kernel
theorem dL_law_645 : decode cL_law 645 = .ok (.invokevirtual 81, 3) := by decide +kernel
theorem dL_law_648 : decode cL_law 648 = .ok (.aload_n 2, 1) := by decide +kernel
theorem dL_law_649 : decode cL_law 649 = .ok (.invokevirtual 84, 3) := by decide +kernel
theorem dL_law_652 : decode cL_law 652 = .ok (.if_icmp .eq 617, 3) := by decide +kernel
theorem dL_law_655 : decode cL_law 655 = .ok (.iconst 0, 1) := by decide +kernel
theorem dL_law_656 : decode cL_law 656 = .ok (.ireturn, 1) := by decide +kernel
theorem dL_law_657 : decode cL_law 657 = .ok (.aload_n 1, 1) := by decide +kernel
theorem dL_law_658 : decode cL_law 658 = .ok (.aload_n 0, 1) := by decide +kernel
theorem dL_law_659 : decode cL_law 659 = .ok (.iload_n 3, 1) := by decide +kernel
theorem dL_law_660 : decode cL_law 660 = .ok (.iconst 1, 1) := by decide +kernel
theorem dL_law_661 : decode cL_law 661 = .ok (.iadd, 1) := by decide +kernel
theorem dL_law_662 : decode cL_law 662 = .ok (.iaload, 1) := by decide +kernel
theorem dL_law_663 : decode cL_law 663 = .ok (.invokevirtual 85, 3) := by decide +kernel
theorem dL_law_666 : decode cL_law 666 = .ok (.aload_n 2, 1) := by decide +kernel
theorem dL_law_667 : decode cL_law 667 = .ok (.aload_n 0, 1) := by decide +kernel
theorem dL_law_668 : decode cL_law 668 = .ok (.iload_n 3, 1) := by decide +kernel
theorem dL_law_669 : decode cL_law 669 = .ok (.iconst 1, 1) := by decide +kernel
theorem dL_law_670 : decode cL_law 670 = .ok (.iadd, 1) := by decide +kernel
theorem dL_law_671 : decode cL_law 671 = .ok (.iaload, 1) := by decide +kernel
theorem dL_law_672 : decode cL_law 672 = .ok (.invokevirtual 88, 3) := by decide +kernel
theorem dL_law_675 : decode cL_law 675 = .ok (.if_icmp .eq 594, 3) := by decide +kernel
theorem dL_law_678 : decode cL_law 678 = .ok (.iconst 0, 1) := by decide +kernel
theorem dL_law_679 : decode cL_law 679 = .ok (.ireturn, 1) := by decide +kernel
theorem dL_law_680 : decode cL_law 680 = .ok (.aload_n 1, 1) := by decide +kernel
theorem dL_law_681 : decode cL_law 681 = .ok (.aload_n 0, 1) := by decide +kernel
theorem dL_law_682 : decode cL_law 682 = .ok (.iload_n 3, 1) := by decide +kernel
theorem dL_law_683 : decode cL_law 683 = .ok (.iconst 1, 1) := by decide +kernel
theorem dL_law_684 : decode cL_law 684 = .ok (.iadd, 1) := by decide +kernel
theorem dL_law_685 : decode cL_law 685 = .ok (.iaload, 1) := by decide +kernel
theorem dL_law_686 : decode cL_law 686 = .ok (.aload_n 0, 1) := by decide +kernel
theorem dL_law_687 : decode cL_law 687 = .ok (.iload_n 3, 1) := by decide +kernel
theorem dL_law_688 : decode cL_law 688 = .ok (.iconst 2, 1) := by decide +kernel
theorem dL_law_689 : decode cL_law 689 = .ok (.iadd, 1) := by decide +kernel
theorem dL_law_690 : decode cL_law 690 = .ok (.iaload, 1) := by decide +kernel
theorem dL_law_691 : decode cL_law 691 = .ok (.invokevirtual 89, 3) := by decide +kernel
theorem dL_law_694 : decode cL_law 694 = .ok (.aload_n 2, 1) := by decide +kernel
theorem dL_law_695 : decode cL_law 695 = .ok (.aload_n 0, 1) := by decide +kernel
theorem dL_law_696 : decode cL_law 696 = .ok (.iload_n 3, 1) := by decide +kernel
theorem dL_law_697 : decode cL_law 697 = .ok (.iconst 1, 1) := by decide +kernel
theorem dL_law_698 : decode cL_law 698 = .ok (.iadd, 1) := by decide +kernel
theorem dL_law_699 : decode cL_law 699 = .ok (.iaload, 1) := by decide +kernel
theorem dL_law_700 : decode cL_law 700 = .ok (.aload_n 0, 1) := by decide +kernel
theorem dL_law_701 : decode cL_law 701 = .ok (.iload_n 3, 1) := by decide +kernel
theorem dL_law_702 : decode cL_law 702 = .ok (.iconst 2, 1) := by decide +kernel
theorem dL_law_703 : decode cL_law 703 = .ok (.iadd, 1) := by decide +kernel
theorem dL_law_704 : decode cL_law 704 = .ok (.iaload, 1) := by decide +kernel
theorem dL_law_705 : decode cL_law 705 = .ok (.invokevirtual 92, 3) := by decide +kernel
theorem dL_law_708 : decode cL_law 708 = .ok (.if_icmp .eq 561, 3) := by decide +kernel
theorem dL_law_711 : decode cL_law 711 = .ok (.iconst 0, 1) := by decide +kernel
theorem dL_law_712 : decode cL_law 712 = .ok (.ireturn, 1) := by decide +kernel
theorem dL_law_713 : decode cL_law 713 = .ok (.aload_n 1, 1) := by decide +kernel
theorem dL_law_714 : decode cL_law 714 = .ok (.invokevirtual 93, 3) := by decide +kernel
theorem dL_law_717 : decode cL_law 717 = .ok (.aload_n 2, 1) := by decide +kernel
theorem dL_law_718 : decode cL_law 718 = .ok (.invokevirtual 96, 3) := by decide +kernel
theorem dL_law_721 : decode cL_law 721 = .ok (.if_icmp .eq 548, 3) := by decide +kernel
theorem dL_law_724 : decode cL_law 724 = .ok (.iconst 0, 1) := by decide +kernel
theorem dL_law_725 : decode cL_law 725 = .ok (.ireturn, 1) := by decide +kernel
theorem dL_law_726 : decode cL_law 726 = .ok (.aload_n 1, 1) := by decide +kernel
theorem dL_law_727 : decode cL_law 727 = .ok (.aload_n 0, 1) := by decide +kernel
theorem dL_law_728 : decode cL_law 728 = .ok (.iload_n 3, 1) := by decide +kernel
theorem dL_law_729 : decode cL_law 729 = .ok (.iconst 1, 1) := by decide +kernel
theorem dL_law_730 : decode cL_law 730 = .ok (.iadd, 1) := by decide +kernel
theorem dL_law_731 : decode cL_law 731 = .ok (.iaload, 1) := by decide +kernel
theorem dL_law_732 : decode cL_law 732 = .ok (.invokevirtual 97, 3) := by decide +kernel
theorem dL_law_735 : decode cL_law 735 = .ok (.aload_n 2, 1) := by decide +kernel
theorem dL_law_736 : decode cL_law 736 = .ok (.aload_n 0, 1) := by decide +kernel
theorem dL_law_737 : decode cL_law 737 = .ok (.iload_n 3, 1) := by decide +kernel
theorem dL_law_738 : decode cL_law 738 = .ok (.iconst 1, 1) := by decide +kernel
theorem dL_law_739 : decode cL_law 739 = .ok (.iadd, 1) := by decide +kernel
theorem dL_law_740 : decode cL_law 740 = .ok (.iaload, 1) := by decide +kernel
theorem dL_law_741 : decode cL_law 741 = .ok (.invokevirtual 100, 3) := by decide +kernel
theorem dL_law_744 : decode cL_law 744 = .ok (.if_icmp .eq 525, 3) := by decide +kernel
theorem dL_law_747 : decode cL_law 747 = .ok (.iconst 0, 1) := by decide +kernel
theorem dL_law_748 : decode cL_law 748 = .ok (.ireturn, 1) := by decide +kernel
theorem dL_law_749 : decode cL_law 749 = .ok (.aload_n 1, 1) := by decide +kernel
theorem dL_law_750 : decode cL_law 750 = .ok (.aload_n 0, 1) := by decide +kernel
theorem dL_law_751 : decode cL_law 751 = .ok (.iload_n 3, 1) := by decide +kernel
theorem dL_law_752 : decode cL_law 752 = .ok (.iconst 1, 1) := by decide +kernel
theorem dL_law_753 : decode cL_law 753 = .ok (.iadd, 1) := by decide +kernel
theorem dL_law_754 : decode cL_law 754 = .ok (.iaload, 1) := by decide +kernel
theorem dL_law_755 : decode cL_law 755 = .ok (.aload_n 0, 1) := by decide +kernel
theorem dL_law_756 : decode cL_law 756 = .ok (.iload_n 3, 1) := by decide +kernel
theorem dL_law_757 : decode cL_law 757 = .ok (.iconst 2, 1) := by decide +kernel
theorem dL_law_758 : decode cL_law 758 = .ok (.iadd, 1) := by decide +kernel
theorem dL_law_759 : decode cL_law 759 = .ok (.iaload, 1) := by decide +kernel
theorem dL_law_760 : decode cL_law 760 = .ok (.aload_n 0, 1) := by decide +kernel
theorem dL_law_761 : decode cL_law 761 = .ok (.iload_n 3, 1) := by decide +kernel
theorem dL_law_762 : decode cL_law 762 = .ok (.iconst 3, 1) := by decide +kernel
theorem dL_law_763 : decode cL_law 763 = .ok (.iadd, 1) := by decide +kernel
theorem dL_law_764 : decode cL_law 764 = .ok (.iaload, 1) := by decide +kernel
theorem dL_law_765 : decode cL_law 765 = .ok (.invokevirtual 101, 3) := by decide +kernel
theorem dL_law_768 : decode cL_law 768 = .ok (.aload_n 2, 1) := by decide +kernel
theorem dL_law_769 : decode cL_law 769 = .ok (.aload_n 0, 1) := by decide +kernel
theorem dL_law_770 : decode cL_law 770 = .ok (.iload_n 3, 1) := by decide +kernel
theorem dL_law_771 : decode cL_law 771 = .ok (.iconst 1, 1) := by decide +kernel
theorem dL_law_772 : decode cL_law 772 = .ok (.iadd, 1) := by decide +kernel
theorem dL_law_773 : decode cL_law 773 = .ok (.iaload, 1) := by decide +kernel
theorem dL_law_774 : decode cL_law 774 = .ok (.aload_n 0, 1) := by decide +kernel
theorem dL_law_775 : decode cL_law 775 = .ok (.iload_n 3, 1) := by decide +kernel
theorem dL_law_776 : decode cL_law 776 = .ok (.iconst 2, 1) := by decide +kernel
theorem dL_law_777 : decode cL_law 777 = .ok (.iadd, 1) := by decide +kernel
theorem dL_law_778 : decode cL_law 778 = .ok (.iaload, 1) := by decide +kernel
theorem dL_law_779 : decode cL_law 779 = .ok (.aload_n 0, 1) := by decide +kernel
theorem dL_law_780 : decode cL_law 780 = .ok (.iload_n 3, 1) := by decide +kernel
theorem dL_law_781 : decode cL_law 781 = .ok (.iconst 3, 1) := by decide +kernel
theorem dL_law_782 : decode cL_law 782 = .ok (.iadd, 1) := by decide +kernel
theorem dL_law_783 : decode cL_law 783 = .ok (.iaload, 1) := by decide +kernel
theorem dL_law_784 : decode cL_law 784 = .ok (.invokevirtual 104, 3) := by decide +kernel
theorem dL_law_787 : decode cL_law 787 = .ok (.if_icmp .eq 482, 3) := by decide +kernel
theorem dL_law_790 : decode cL_law 790 = .ok (.iconst 0, 1) := by decide +kernel
theorem dL_law_791 : decode cL_law 791 = .ok (.ireturn, 1) := by decide +kernel
theorem dL_law_792 : decode cL_law 792 = .ok (.aload_n 1, 1) := by decide +kernel
theorem dL_law_793 : decode cL_law 793 = .ok (.invokevirtual 105, 3) := by decide +kernel
theorem dL_law_796 : decode cL_law 796 = .ok (.aload_n 2, 1) := by decide +kernel
theorem dL_law_797 : decode cL_law 797 = .ok (.invokevirtual 108, 3) := by decide +kernel
theorem dL_law_800 : decode cL_law 800 = .ok (.if_icmp .eq 469, 3) := by decide +kernel
theorem dL_law_803 : decode cL_law 803 = .ok (.iconst 0, 1) := by decide +kernel
theorem dL_law_804 : decode cL_law 804 = .ok (.ireturn, 1) := by decide +kernel
theorem dL_law_805 : decode cL_law 805 = .ok (.aload_n 1, 1) := by decide +kernel
theorem dL_law_806 : decode cL_law 806 = .ok (.invokevirtual 109, 3) := by decide +kernel
theorem dL_law_809 : decode cL_law 809 = .ok (.aload_n 2, 1) := by decide +kernel
theorem dL_law_810 : decode cL_law 810 = .ok (.invokevirtual 112, 3) := by decide +kernel
theorem dL_law_813 : decode cL_law 813 = .ok (.if_icmp .eq 456, 3) := by decide +kernel
theorem dL_law_816 : decode cL_law 816 = .ok (.iconst 0, 1) := by decide +kernel
theorem dL_law_817 : decode cL_law 817 = .ok (.ireturn, 1) := by decide +kernel
theorem dL_law_818 : decode cL_law 818 = .ok (.aload_n 1, 1) := by decide +kernel
theorem dL_law_819 : decode cL_law 819 = .ok (.aload_n 0, 1) := by decide +kernel
theorem dL_law_820 : decode cL_law 820 = .ok (.iload_n 3, 1) := by decide +kernel
theorem dL_law_821 : decode cL_law 821 = .ok (.iconst 1, 1) := by decide +kernel
theorem dL_law_822 : decode cL_law 822 = .ok (.iadd, 1) := by decide +kernel
theorem dL_law_823 : decode cL_law 823 = .ok (.iaload, 1) := by decide +kernel
theorem dL_law_824 : decode cL_law 824 = .ok (.invokevirtual 113, 3) := by decide +kernel
theorem dL_law_827 : decode cL_law 827 = .ok (.aload_n 2, 1) := by decide +kernel
theorem dL_law_828 : decode cL_law 828 = .ok (.aload_n 0, 1) := by decide +kernel
theorem dL_law_829 : decode cL_law 829 = .ok (.iload_n 3, 1) := by decide +kernel
theorem dL_law_830 : decode cL_law 830 = .ok (.iconst 1, 1) := by decide +kernel
theorem dL_law_831 : decode cL_law 831 = .ok (.iadd, 1) := by decide +kernel
theorem dL_law_832 : decode cL_law 832 = .ok (.iaload, 1) := by decide +kernel
theorem dL_law_833 : decode cL_law 833 = .ok (.invokevirtual 116, 3) := by decide +kernel
theorem dL_law_836 : decode cL_law 836 = .ok (.if_icmp .eq 433, 3) := by decide +kernel
theorem dL_law_839 : decode cL_law 839 = .ok (.iconst 0, 1) := by decide +kernel
theorem dL_law_840 : decode cL_law 840 = .ok (.ireturn, 1) := by decide +kernel
theorem dL_law_841 : decode cL_law 841 = .ok (.aload_n 1, 1) := by decide +kernel
theorem dL_law_842 : decode cL_law 842 = .ok (.aload_n 0, 1) := by decide +kernel
theorem dL_law_843 : decode cL_law 843 = .ok (.iload_n 3, 1) := by decide +kernel
theorem dL_law_844 : decode cL_law 844 = .ok (.iconst 1, 1) := by decide +kernel
theorem dL_law_845 : decode cL_law 845 = .ok (.iadd, 1) := by decide +kernel
theorem dL_law_846 : decode cL_law 846 = .ok (.iaload, 1) := by decide +kernel
theorem dL_law_847 : decode cL_law 847 = .ok (.invokevirtual 117, 3) := by decide +kernel
theorem dL_law_850 : decode cL_law 850 = .ok (.aload_n 2, 1) := by decide +kernel
theorem dL_law_851 : decode cL_law 851 = .ok (.aload_n 0, 1) := by decide +kernel
theorem dL_law_852 : decode cL_law 852 = .ok (.iload_n 3, 1) := by decide +kernel
theorem dL_law_853 : decode cL_law 853 = .ok (.iconst 1, 1) := by decide +kernel
theorem dL_law_854 : decode cL_law 854 = .ok (.iadd, 1) := by decide +kernel
theorem dL_law_855 : decode cL_law 855 = .ok (.iaload, 1) := by decide +kernel
theorem dL_law_856 : decode cL_law 856 = .ok (.invokevirtual 120, 3) := by decide +kernel
theorem dL_law_859 : decode cL_law 859 = .ok (.if_icmp .eq 410, 3) := by decide +kernel
theorem dL_law_862 : decode cL_law 862 = .ok (.iconst 0, 1) := by decide +kernel
theorem dL_law_863 : decode cL_law 863 = .ok (.ireturn, 1) := by decide +kernel
theorem dL_law_864 : decode cL_law 864 = .ok (.aload_n 1, 1) := by decide +kernel
theorem dL_law_865 : decode cL_law 865 = .ok (.aload_n 0, 1) := by decide +kernel
theorem dL_law_866 : decode cL_law 866 = .ok (.iload_n 3, 1) := by decide +kernel
theorem dL_law_867 : decode cL_law 867 = .ok (.iconst 1, 1) := by decide +kernel
theorem dL_law_868 : decode cL_law 868 = .ok (.iadd, 1) := by decide +kernel
theorem dL_law_869 : decode cL_law 869 = .ok (.iaload, 1) := by decide +kernel
theorem dL_law_870 : decode cL_law 870 = .ok (.invokevirtual 121, 3) := by decide +kernel
theorem dL_law_873 : decode cL_law 873 = .ok (.aload_n 2, 1) := by decide +kernel
theorem dL_law_874 : decode cL_law 874 = .ok (.aload_n 0, 1) := by decide +kernel
theorem dL_law_875 : decode cL_law 875 = .ok (.iload_n 3, 1) := by decide +kernel
theorem dL_law_876 : decode cL_law 876 = .ok (.iconst 1, 1) := by decide +kernel
theorem dL_law_877 : decode cL_law 877 = .ok (.iadd, 1) := by decide +kernel
theorem dL_law_878 : decode cL_law 878 = .ok (.iaload, 1) := by decide +kernel
theorem dL_law_879 : decode cL_law 879 = .ok (.invokevirtual 124, 3) := by decide +kernel
theorem dL_law_882 : decode cL_law 882 = .ok (.if_icmp .eq 387, 3) := by decide +kernel
theorem dL_law_885 : decode cL_law 885 = .ok (.iconst 0, 1) := by decide +kernel
theorem dL_law_886 : decode cL_law 886 = .ok (.ireturn, 1) := by decide +kernel
theorem dL_law_887 : decode cL_law 887 = .ok (.aload_n 1, 1) := by decide +kernel
theorem dL_law_888 : decode cL_law 888 = .ok (.aload_n 0, 1) := by decide +kernel
theorem dL_law_889 : decode cL_law 889 = .ok (.iload_n 3, 1) := by decide +kernel
theorem dL_law_890 : decode cL_law 890 = .ok (.iconst 1, 1) := by decide +kernel
theorem dL_law_891 : decode cL_law 891 = .ok (.iadd, 1) := by decide +kernel
theorem dL_law_892 : decode cL_law 892 = .ok (.iaload, 1) := by decide +kernel
theorem dL_law_893 : decode cL_law 893 = .ok (.aload_n 0, 1) := by decide +kernel
theorem dL_law_894 : decode cL_law 894 = .ok (.iload_n 3, 1) := by decide +kernel
theorem dL_law_895 : decode cL_law 895 = .ok (.iconst 2, 1) := by decide +kernel
theorem dL_law_896 : decode cL_law 896 = .ok (.iadd, 1) := by decide +kernel
theorem dL_law_897 : decode cL_law 897 = .ok (.iaload, 1) := by decide +kernel
theorem dL_law_898 : decode cL_law 898 = .ok (.aload_n 0, 1) := by decide +kernel
theorem dL_law_899 : decode cL_law 899 = .ok (.iload_n 3, 1) := by decide +kernel
theorem dL_law_900 : decode cL_law 900 = .ok (.iconst 3, 1) := by decide +kernel
theorem dL_law_901 : decode cL_law 901 = .ok (.iadd, 1) := by decide +kernel
theorem dL_law_902 : decode cL_law 902 = .ok (.iaload, 1) := by decide +kernel
theorem dL_law_903 : decode cL_law 903 = .ok (.invokevirtual 125, 3) := by decide +kernel
theorem dL_law_906 : decode cL_law 906 = .ok (.aload_n 2, 1) := by decide +kernel
theorem dL_law_907 : decode cL_law 907 = .ok (.aload_n 0, 1) := by decide +kernel
theorem dL_law_908 : decode cL_law 908 = .ok (.iload_n 3, 1) := by decide +kernel
theorem dL_law_909 : decode cL_law 909 = .ok (.iconst 1, 1) := by decide +kernel
theorem dL_law_910 : decode cL_law 910 = .ok (.iadd, 1) := by decide +kernel
theorem dL_law_911 : decode cL_law 911 = .ok (.iaload, 1) := by decide +kernel
theorem dL_law_912 : decode cL_law 912 = .ok (.aload_n 0, 1) := by decide +kernel
theorem dL_law_913 : decode cL_law 913 = .ok (.iload_n 3, 1) := by decide +kernel
theorem dL_law_914 : decode cL_law 914 = .ok (.iconst 2, 1) := by decide +kernel
theorem dL_law_915 : decode cL_law 915 = .ok (.iadd, 1) := by decide +kernel
theorem dL_law_916 : decode cL_law 916 = .ok (.iaload, 1) := by decide +kernel
theorem dL_law_917 : decode cL_law 917 = .ok (.aload_n 0, 1) := by decide +kernel
theorem dL_law_918 : decode cL_law 918 = .ok (.iload_n 3, 1) := by decide +kernel
theorem dL_law_919 : decode cL_law 919 = .ok (.iconst 3, 1) := by decide +kernel
theorem dL_law_920 : decode cL_law 920 = .ok (.iadd, 1) := by decide +kernel
theorem dL_law_921 : decode cL_law 921 = .ok (.iaload, 1) := by decide +kernel
theorem dL_law_922 : decode cL_law 922 = .ok (.invokevirtual 129, 3) := by decide +kernel
theorem dL_law_925 : decode cL_law 925 = .ok (.lcmp, 1) := by decide +kernel
theorem dL_law_926 : decode cL_law 926 = .ok (.ifCond .eq 343, 3) := by decide +kernel
theorem dL_law_929 : decode cL_law 929 = .ok (.iconst 0, 1) := by decide +kernel
theorem dL_law_930 : decode cL_law 930 = .ok (.ireturn, 1) := by decide +kernel
theorem dL_law_931 : decode cL_law 931 = .ok (.aload_n 1, 1) := by decide +kernel
theorem dL_law_932 : decode cL_law 932 = .ok (.aload_n 0, 1) := by decide +kernel
theorem dL_law_933 : decode cL_law 933 = .ok (.iload_n 3, 1) := by decide +kernel
theorem dL_law_934 : decode cL_law 934 = .ok (.iconst 1, 1) := by decide +kernel
theorem dL_law_935 : decode cL_law 935 = .ok (.iadd, 1) := by decide +kernel
theorem dL_law_936 : decode cL_law 936 = .ok (.iaload, 1) := by decide +kernel
theorem dL_law_937 : decode cL_law 937 = .ok (.aload_n 0, 1) := by decide +kernel
theorem dL_law_938 : decode cL_law 938 = .ok (.iload_n 3, 1) := by decide +kernel
theorem dL_law_939 : decode cL_law 939 = .ok (.iconst 2, 1) := by decide +kernel
theorem dL_law_940 : decode cL_law 940 = .ok (.iadd, 1) := by decide +kernel
theorem dL_law_941 : decode cL_law 941 = .ok (.iaload, 1) := by decide +kernel
theorem dL_law_942 : decode cL_law 942 = .ok (.aload_n 0, 1) := by decide +kernel
theorem dL_law_943 : decode cL_law 943 = .ok (.iload_n 3, 1) := by decide +kernel
theorem dL_law_944 : decode cL_law 944 = .ok (.iconst 3, 1) := by decide +kernel
theorem dL_law_945 : decode cL_law 945 = .ok (.iadd, 1) := by decide +kernel
theorem dL_law_946 : decode cL_law 946 = .ok (.iaload, 1) := by decide +kernel
theorem dL_law_947 : decode cL_law 947 = .ok (.invokevirtual 130, 3) := by decide +kernel
theorem dL_law_950 : decode cL_law 950 = .ok (.aload_n 2, 1) := by decide +kernel
theorem dL_law_951 : decode cL_law 951 = .ok (.aload_n 0, 1) := by decide +kernel
theorem dL_law_952 : decode cL_law 952 = .ok (.iload_n 3, 1) := by decide +kernel
theorem dL_law_953 : decode cL_law 953 = .ok (.iconst 1, 1) := by decide +kernel
theorem dL_law_954 : decode cL_law 954 = .ok (.iadd, 1) := by decide +kernel
theorem dL_law_955 : decode cL_law 955 = .ok (.iaload, 1) := by decide +kernel
theorem dL_law_956 : decode cL_law 956 = .ok (.aload_n 0, 1) := by decide +kernel
theorem dL_law_957 : decode cL_law 957 = .ok (.iload_n 3, 1) := by decide +kernel
theorem dL_law_958 : decode cL_law 958 = .ok (.iconst 2, 1) := by decide +kernel
theorem dL_law_959 : decode cL_law 959 = .ok (.iadd, 1) := by decide +kernel
theorem dL_law_960 : decode cL_law 960 = .ok (.iaload, 1) := by decide +kernel
theorem dL_law_961 : decode cL_law 961 = .ok (.aload_n 0, 1) := by decide +kernel
theorem dL_law_962 : decode cL_law 962 = .ok (.iload_n 3, 1) := by decide +kernel
theorem dL_law_963 : decode cL_law 963 = .ok (.iconst 3, 1) := by decide +kernel
theorem dL_law_964 : decode cL_law 964 = .ok (.iadd, 1) := by decide +kernel
theorem dL_law_965 : decode cL_law 965 = .ok (.iaload, 1) := by decide +kernel
theorem dL_law_966 : decode cL_law 966 = .ok (.invokevirtual 133, 3) := by decide +kernel
theorem dL_law_969 : decode cL_law 969 = .ok (.if_icmp .eq 300, 3) := by decide +kernel
theorem dL_law_972 : decode cL_law 972 = .ok (.iconst 0, 1) := by decide +kernel
theorem dL_law_973 : decode cL_law 973 = .ok (.ireturn, 1) := by decide +kernel
theorem dL_law_974 : decode cL_law 974 = .ok (.aload_n 1, 1) := by decide +kernel
theorem dL_law_975 : decode cL_law 975 = .ok (.aload_n 0, 1) := by decide +kernel
theorem dL_law_976 : decode cL_law 976 = .ok (.iload_n 3, 1) := by decide +kernel
theorem dL_law_977 : decode cL_law 977 = .ok (.iconst 1, 1) := by decide +kernel
theorem dL_law_978 : decode cL_law 978 = .ok (.iadd, 1) := by decide +kernel
theorem dL_law_979 : decode cL_law 979 = .ok (.iaload, 1) := by decide +kernel
theorem dL_law_980 : decode cL_law 980 = .ok (.aload_n 0, 1) := by decide +kernel
theorem dL_law_981 : decode cL_law 981 = .ok (.iload_n 3, 1) := by decide +kernel
theorem dL_law_982 : decode cL_law 982 = .ok (.iconst 2, 1) := by decide +kernel
theorem dL_law_983 : decode cL_law 983 = .ok (.iadd, 1) := by decide +kernel
theorem dL_law_984 : decode cL_law 984 = .ok (.iaload, 1) := by decide +kernel
theorem dL_law_985 : decode cL_law 985 = .ok (.aload_n 0, 1) := by decide +kernel
theorem dL_law_986 : decode cL_law 986 = .ok (.iload_n 3, 1) := by decide +kernel
theorem dL_law_987 : decode cL_law 987 = .ok (.iconst 3, 1) := by decide +kernel
theorem dL_law_988 : decode cL_law 988 = .ok (.iadd, 1) := by decide +kernel
theorem dL_law_989 : decode cL_law 989 = .ok (.iaload, 1) := by decide +kernel
theorem dL_law_990 : decode cL_law 990 = .ok (.invokevirtual 134, 3) := by decide +kernel
theorem dL_law_993 : decode cL_law 993 = .ok (.aload_n 2, 1) := by decide +kernel
theorem dL_law_994 : decode cL_law 994 = .ok (.aload_n 0, 1) := by decide +kernel
theorem dL_law_995 : decode cL_law 995 = .ok (.iload_n 3, 1) := by decide +kernel
theorem dL_law_996 : decode cL_law 996 = .ok (.iconst 1, 1) := by decide +kernel
theorem dL_law_997 : decode cL_law 997 = .ok (.iadd, 1) := by decide +kernel
theorem dL_law_998 : decode cL_law 998 = .ok (.iaload, 1) := by decide +kernel
theorem dL_law_999 : decode cL_law 999 = .ok (.aload_n 0, 1) := by decide +kernel
theorem dL_law_1000 : decode cL_law 1000 = .ok (.iload_n 3, 1) := by decide +kernel
theorem dL_law_1001 : decode cL_law 1001 = .ok (.iconst 2, 1) := by decide +kernel
theorem dL_law_1002 : decode cL_law 1002 = .ok (.iadd, 1) := by decide +kernel
theorem dL_law_1003 : decode cL_law 1003 = .ok (.iaload, 1) := by decide +kernel
theorem dL_law_1004 : decode cL_law 1004 = .ok (.aload_n 0, 1) := by decide +kernel
theorem dL_law_1005 : decode cL_law 1005 = .ok (.iload_n 3, 1) := by decide +kernel
theorem dL_law_1006 : decode cL_law 1006 = .ok (.iconst 3, 1) := by decide +kernel
theorem dL_law_1007 : decode cL_law 1007 = .ok (.iadd, 1) := by decide +kernel
theorem dL_law_1008 : decode cL_law 1008 = .ok (.iaload, 1) := by decide +kernel
theorem dL_law_1009 : decode cL_law 1009 = .ok (.invokevirtual 137, 3) := by decide +kernel
theorem dL_law_1012 : decode cL_law 1012 = .ok (.if_icmp .eq 257, 3) := by decide +kernel
theorem dL_law_1015 : decode cL_law 1015 = .ok (.iconst 0, 1) := by decide +kernel
theorem dL_law_1016 : decode cL_law 1016 = .ok (.ireturn, 1) := by decide +kernel
theorem dL_law_1017 : decode cL_law 1017 = .ok (.aload_n 1, 1) := by decide +kernel
theorem dL_law_1018 : decode cL_law 1018 = .ok (.aload_n 0, 1) := by decide +kernel
theorem dL_law_1019 : decode cL_law 1019 = .ok (.iload_n 3, 1) := by decide +kernel
theorem dL_law_1020 : decode cL_law 1020 = .ok (.iconst 1, 1) := by decide +kernel
theorem dL_law_1021 : decode cL_law 1021 = .ok (.iadd, 1) := by decide +kernel
theorem dL_law_1022 : decode cL_law 1022 = .ok (.iaload, 1) := by decide +kernel
theorem dL_law_1023 : decode cL_law 1023 = .ok (.invokevirtual 138, 3) := by decide +kernel
theorem dL_law_1026 : decode cL_law 1026 = .ok (.aload_n 2, 1) := by decide +kernel
theorem dL_law_1027 : decode cL_law 1027 = .ok (.aload_n 0, 1) := by decide +kernel
theorem dL_law_1028 : decode cL_law 1028 = .ok (.iload_n 3, 1) := by decide +kernel
theorem dL_law_1029 : decode cL_law 1029 = .ok (.iconst 1, 1) := by decide +kernel
theorem dL_law_1030 : decode cL_law 1030 = .ok (.iadd, 1) := by decide +kernel
theorem dL_law_1031 : decode cL_law 1031 = .ok (.iaload, 1) := by decide +kernel
theorem dL_law_1032 : decode cL_law 1032 = .ok (.invokevirtual 141, 3) := by decide +kernel
theorem dL_law_1035 : decode cL_law 1035 = .ok (.if_icmp .eq 234, 3) := by decide +kernel
theorem dL_law_1038 : decode cL_law 1038 = .ok (.iconst 0, 1) := by decide +kernel
theorem dL_law_1039 : decode cL_law 1039 = .ok (.ireturn, 1) := by decide +kernel
theorem dL_law_1040 : decode cL_law 1040 = .ok (.aload_n 1, 1) := by decide +kernel
theorem dL_law_1041 : decode cL_law 1041 = .ok (.aload_n 0, 1) := by decide +kernel
theorem dL_law_1042 : decode cL_law 1042 = .ok (.iload_n 3, 1) := by decide +kernel
theorem dL_law_1043 : decode cL_law 1043 = .ok (.iconst 1, 1) := by decide +kernel
theorem dL_law_1044 : decode cL_law 1044 = .ok (.iadd, 1) := by decide +kernel
theorem dL_law_1045 : decode cL_law 1045 = .ok (.iaload, 1) := by decide +kernel
theorem dL_law_1046 : decode cL_law 1046 = .ok (.aload_n 0, 1) := by decide +kernel
theorem dL_law_1047 : decode cL_law 1047 = .ok (.iload_n 3, 1) := by decide +kernel
theorem dL_law_1048 : decode cL_law 1048 = .ok (.iconst 2, 1) := by decide +kernel
theorem dL_law_1049 : decode cL_law 1049 = .ok (.iadd, 1) := by decide +kernel
theorem dL_law_1050 : decode cL_law 1050 = .ok (.iaload, 1) := by decide +kernel
theorem dL_law_1051 : decode cL_law 1051 = .ok (.aload_n 0, 1) := by decide +kernel
theorem dL_law_1052 : decode cL_law 1052 = .ok (.iload_n 3, 1) := by decide +kernel
theorem dL_law_1053 : decode cL_law 1053 = .ok (.iconst 3, 1) := by decide +kernel
theorem dL_law_1054 : decode cL_law 1054 = .ok (.iadd, 1) := by decide +kernel
theorem dL_law_1055 : decode cL_law 1055 = .ok (.iaload, 1) := by decide +kernel
theorem dL_law_1056 : decode cL_law 1056 = .ok (.aload_n 0, 1) := by decide +kernel
theorem dL_law_1057 : decode cL_law 1057 = .ok (.iload_n 3, 1) := by decide +kernel
theorem dL_law_1058 : decode cL_law 1058 = .ok (.iconst 4, 1) := by decide +kernel
theorem dL_law_1059 : decode cL_law 1059 = .ok (.iadd, 1) := by decide +kernel
theorem dL_law_1060 : decode cL_law 1060 = .ok (.iaload, 1) := by decide +kernel
theorem dL_law_1061 : decode cL_law 1061 = .ok (.invokevirtual 142, 3) := by decide +kernel
theorem dL_law_1064 : decode cL_law 1064 = .ok (.aload_n 2, 1) := by decide +kernel
theorem dL_law_1065 : decode cL_law 1065 = .ok (.aload_n 0, 1) := by decide +kernel
theorem dL_law_1066 : decode cL_law 1066 = .ok (.iload_n 3, 1) := by decide +kernel
theorem dL_law_1067 : decode cL_law 1067 = .ok (.iconst 1, 1) := by decide +kernel
theorem dL_law_1068 : decode cL_law 1068 = .ok (.iadd, 1) := by decide +kernel
theorem dL_law_1069 : decode cL_law 1069 = .ok (.iaload, 1) := by decide +kernel
theorem dL_law_1070 : decode cL_law 1070 = .ok (.aload_n 0, 1) := by decide +kernel
theorem dL_law_1071 : decode cL_law 1071 = .ok (.iload_n 3, 1) := by decide +kernel
theorem dL_law_1072 : decode cL_law 1072 = .ok (.iconst 2, 1) := by decide +kernel
theorem dL_law_1073 : decode cL_law 1073 = .ok (.iadd, 1) := by decide +kernel
theorem dL_law_1074 : decode cL_law 1074 = .ok (.iaload, 1) := by decide +kernel
theorem dL_law_1075 : decode cL_law 1075 = .ok (.aload_n 0, 1) := by decide +kernel
theorem dL_law_1076 : decode cL_law 1076 = .ok (.iload_n 3, 1) := by decide +kernel
theorem dL_law_1077 : decode cL_law 1077 = .ok (.iconst 3, 1) := by decide +kernel
theorem dL_law_1078 : decode cL_law 1078 = .ok (.iadd, 1) := by decide +kernel
theorem dL_law_1079 : decode cL_law 1079 = .ok (.iaload, 1) := by decide +kernel
theorem dL_law_1080 : decode cL_law 1080 = .ok (.aload_n 0, 1) := by decide +kernel
theorem dL_law_1081 : decode cL_law 1081 = .ok (.iload_n 3, 1) := by decide +kernel
theorem dL_law_1082 : decode cL_law 1082 = .ok (.iconst 4, 1) := by decide +kernel
theorem dL_law_1083 : decode cL_law 1083 = .ok (.iadd, 1) := by decide +kernel
theorem dL_law_1084 : decode cL_law 1084 = .ok (.iaload, 1) := by decide +kernel
theorem dL_law_1085 : decode cL_law 1085 = .ok (.invokevirtual 146, 3) := by decide +kernel
theorem dL_law_1088 : decode cL_law 1088 = .ok (.if_icmp .eq 181, 3) := by decide +kernel
theorem dL_law_1091 : decode cL_law 1091 = .ok (.iconst 0, 1) := by decide +kernel
theorem dL_law_1092 : decode cL_law 1092 = .ok (.ireturn, 1) := by decide +kernel
theorem dL_law_1093 : decode cL_law 1093 = .ok (.aload_n 1, 1) := by decide +kernel
theorem dL_law_1094 : decode cL_law 1094 = .ok (.aload_n 0, 1) := by decide +kernel
theorem dL_law_1095 : decode cL_law 1095 = .ok (.iload_n 3, 1) := by decide +kernel
theorem dL_law_1096 : decode cL_law 1096 = .ok (.iconst 1, 1) := by decide +kernel
theorem dL_law_1097 : decode cL_law 1097 = .ok (.iadd, 1) := by decide +kernel
theorem dL_law_1098 : decode cL_law 1098 = .ok (.iaload, 1) := by decide +kernel
theorem dL_law_1099 : decode cL_law 1099 = .ok (.aload_n 0, 1) := by decide +kernel
theorem dL_law_1100 : decode cL_law 1100 = .ok (.iload_n 3, 1) := by decide +kernel
theorem dL_law_1101 : decode cL_law 1101 = .ok (.iconst 2, 1) := by decide +kernel
theorem dL_law_1102 : decode cL_law 1102 = .ok (.iadd, 1) := by decide +kernel
theorem dL_law_1103 : decode cL_law 1103 = .ok (.iaload, 1) := by decide +kernel
theorem dL_law_1104 : decode cL_law 1104 = .ok (.aload_n 0, 1) := by decide +kernel
theorem dL_law_1105 : decode cL_law 1105 = .ok (.iload_n 3, 1) := by decide +kernel
theorem dL_law_1106 : decode cL_law 1106 = .ok (.iconst 3, 1) := by decide +kernel
theorem dL_law_1107 : decode cL_law 1107 = .ok (.iadd, 1) := by decide +kernel
theorem dL_law_1108 : decode cL_law 1108 = .ok (.iaload, 1) := by decide +kernel
theorem dL_law_1109 : decode cL_law 1109 = .ok (.invokevirtual 147, 3) := by decide +kernel
theorem dL_law_1112 : decode cL_law 1112 = .ok (.aload_n 2, 1) := by decide +kernel
theorem dL_law_1113 : decode cL_law 1113 = .ok (.aload_n 0, 1) := by decide +kernel
theorem dL_law_1114 : decode cL_law 1114 = .ok (.iload_n 3, 1) := by decide +kernel
theorem dL_law_1115 : decode cL_law 1115 = .ok (.iconst 1, 1) := by decide +kernel
theorem dL_law_1116 : decode cL_law 1116 = .ok (.iadd, 1) := by decide +kernel
theorem dL_law_1117 : decode cL_law 1117 = .ok (.iaload, 1) := by decide +kernel
theorem dL_law_1118 : decode cL_law 1118 = .ok (.aload_n 0, 1) := by decide +kernel
theorem dL_law_1119 : decode cL_law 1119 = .ok (.iload_n 3, 1) := by decide +kernel
theorem dL_law_1120 : decode cL_law 1120 = .ok (.iconst 2, 1) := by decide +kernel
theorem dL_law_1121 : decode cL_law 1121 = .ok (.iadd, 1) := by decide +kernel
theorem dL_law_1122 : decode cL_law 1122 = .ok (.iaload, 1) := by decide +kernel
theorem dL_law_1123 : decode cL_law 1123 = .ok (.aload_n 0, 1) := by decide +kernel
theorem dL_law_1124 : decode cL_law 1124 = .ok (.iload_n 3, 1) := by decide +kernel
theorem dL_law_1125 : decode cL_law 1125 = .ok (.iconst 3, 1) := by decide +kernel
theorem dL_law_1126 : decode cL_law 1126 = .ok (.iadd, 1) := by decide +kernel
theorem dL_law_1127 : decode cL_law 1127 = .ok (.iaload, 1) := by decide +kernel
theorem dL_law_1128 : decode cL_law 1128 = .ok (.invokevirtual 150, 3) := by decide +kernel
theorem dL_law_1131 : decode cL_law 1131 = .ok (.if_icmp .eq 138, 3) := by decide +kernel
theorem dL_law_1134 : decode cL_law 1134 = .ok (.iconst 0, 1) := by decide +kernel
theorem dL_law_1135 : decode cL_law 1135 = .ok (.ireturn, 1) := by decide +kernel
theorem dL_law_1136 : decode cL_law 1136 = .ok (.aload_n 1, 1) := by decide +kernel
theorem dL_law_1137 : decode cL_law 1137 = .ok (.aload_n 0, 1) := by decide +kernel
theorem dL_law_1138 : decode cL_law 1138 = .ok (.iload_n 3, 1) := by decide +kernel
theorem dL_law_1139 : decode cL_law 1139 = .ok (.iconst 1, 1) := by decide +kernel
theorem dL_law_1140 : decode cL_law 1140 = .ok (.iadd, 1) := by decide +kernel
theorem dL_law_1141 : decode cL_law 1141 = .ok (.iaload, 1) := by decide +kernel
theorem dL_law_1142 : decode cL_law 1142 = .ok (.aload_n 0, 1) := by decide +kernel
theorem dL_law_1143 : decode cL_law 1143 = .ok (.iload_n 3, 1) := by decide +kernel
theorem dL_law_1144 : decode cL_law 1144 = .ok (.iconst 2, 1) := by decide +kernel
theorem dL_law_1145 : decode cL_law 1145 = .ok (.iadd, 1) := by decide +kernel
theorem dL_law_1146 : decode cL_law 1146 = .ok (.iaload, 1) := by decide +kernel
theorem dL_law_1147 : decode cL_law 1147 = .ok (.aload_n 0, 1) := by decide +kernel
theorem dL_law_1148 : decode cL_law 1148 = .ok (.iload_n 3, 1) := by decide +kernel
theorem dL_law_1149 : decode cL_law 1149 = .ok (.iconst 3, 1) := by decide +kernel
theorem dL_law_1150 : decode cL_law 1150 = .ok (.iadd, 1) := by decide +kernel
theorem dL_law_1151 : decode cL_law 1151 = .ok (.iaload, 1) := by decide +kernel
theorem dL_law_1152 : decode cL_law 1152 = .ok (.aload_n 0, 1) := by decide +kernel
theorem dL_law_1153 : decode cL_law 1153 = .ok (.iload_n 3, 1) := by decide +kernel
theorem dL_law_1154 : decode cL_law 1154 = .ok (.iconst 4, 1) := by decide +kernel
theorem dL_law_1155 : decode cL_law 1155 = .ok (.iadd, 1) := by decide +kernel
theorem dL_law_1156 : decode cL_law 1156 = .ok (.iaload, 1) := by decide +kernel
theorem dL_law_1157 : decode cL_law 1157 = .ok (.aload_n 0, 1) := by decide +kernel
theorem dL_law_1158 : decode cL_law 1158 = .ok (.iload_n 3, 1) := by decide +kernel
theorem dL_law_1159 : decode cL_law 1159 = .ok (.iconst 5, 1) := by decide +kernel
theorem dL_law_1160 : decode cL_law 1160 = .ok (.iadd, 1) := by decide +kernel
theorem dL_law_1161 : decode cL_law 1161 = .ok (.iaload, 1) := by decide +kernel
theorem dL_law_1162 : decode cL_law 1162 = .ok (.invokevirtual 151, 3) := by decide +kernel
theorem dL_law_1165 : decode cL_law 1165 = .ok (.aload_n 2, 1) := by decide +kernel
theorem dL_law_1166 : decode cL_law 1166 = .ok (.aload_n 0, 1) := by decide +kernel
theorem dL_law_1167 : decode cL_law 1167 = .ok (.iload_n 3, 1) := by decide +kernel
theorem dL_law_1168 : decode cL_law 1168 = .ok (.iconst 1, 1) := by decide +kernel
theorem dL_law_1169 : decode cL_law 1169 = .ok (.iadd, 1) := by decide +kernel
theorem dL_law_1170 : decode cL_law 1170 = .ok (.iaload, 1) := by decide +kernel
theorem dL_law_1171 : decode cL_law 1171 = .ok (.aload_n 0, 1) := by decide +kernel
theorem dL_law_1172 : decode cL_law 1172 = .ok (.iload_n 3, 1) := by decide +kernel
theorem dL_law_1173 : decode cL_law 1173 = .ok (.iconst 2, 1) := by decide +kernel
theorem dL_law_1174 : decode cL_law 1174 = .ok (.iadd, 1) := by decide +kernel
theorem dL_law_1175 : decode cL_law 1175 = .ok (.iaload, 1) := by decide +kernel
theorem dL_law_1176 : decode cL_law 1176 = .ok (.aload_n 0, 1) := by decide +kernel
theorem dL_law_1177 : decode cL_law 1177 = .ok (.iload_n 3, 1) := by decide +kernel
theorem dL_law_1178 : decode cL_law 1178 = .ok (.iconst 3, 1) := by decide +kernel
theorem dL_law_1179 : decode cL_law 1179 = .ok (.iadd, 1) := by decide +kernel
theorem dL_law_1180 : decode cL_law 1180 = .ok (.iaload, 1) := by decide +kernel
theorem dL_law_1181 : decode cL_law 1181 = .ok (.aload_n 0, 1) := by decide +kernel
theorem dL_law_1182 : decode cL_law 1182 = .ok (.iload_n 3, 1) := by decide +kernel
theorem dL_law_1183 : decode cL_law 1183 = .ok (.iconst 4, 1) := by decide +kernel
theorem dL_law_1184 : decode cL_law 1184 = .ok (.iadd, 1) := by decide +kernel
theorem dL_law_1185 : decode cL_law 1185 = .ok (.iaload, 1) := by decide +kernel
theorem dL_law_1186 : decode cL_law 1186 = .ok (.aload_n 0, 1) := by decide +kernel
theorem dL_law_1187 : decode cL_law 1187 = .ok (.iload_n 3, 1) := by decide +kernel
theorem dL_law_1188 : decode cL_law 1188 = .ok (.iconst 5, 1) := by decide +kernel
theorem dL_law_1189 : decode cL_law 1189 = .ok (.iadd, 1) := by decide +kernel
theorem dL_law_1190 : decode cL_law 1190 = .ok (.iaload, 1) := by decide +kernel
theorem dL_law_1191 : decode cL_law 1191 = .ok (.invokevirtual 155, 3) := by decide +kernel
theorem dL_law_1194 : decode cL_law 1194 = .ok (.if_icmp .eq 75, 3) := by decide +kernel
theorem dL_law_1197 : decode cL_law 1197 = .ok (.iconst 0, 1) := by decide +kernel
theorem dL_law_1198 : decode cL_law 1198 = .ok (.ireturn, 1) := by decide +kernel
theorem dL_law_1199 : decode cL_law 1199 = .ok (.aload_n 1, 1) := by decide +kernel
theorem dL_law_1200 : decode cL_law 1200 = .ok (.aload_n 0, 1) := by decide +kernel
theorem dL_law_1201 : decode cL_law 1201 = .ok (.iload_n 3, 1) := by decide +kernel
theorem dL_law_1202 : decode cL_law 1202 = .ok (.iconst 1, 1) := by decide +kernel
theorem dL_law_1203 : decode cL_law 1203 = .ok (.iadd, 1) := by decide +kernel
theorem dL_law_1204 : decode cL_law 1204 = .ok (.iaload, 1) := by decide +kernel
theorem dL_law_1205 : decode cL_law 1205 = .ok (.aload_n 0, 1) := by decide +kernel
theorem dL_law_1206 : decode cL_law 1206 = .ok (.iload_n 3, 1) := by decide +kernel
theorem dL_law_1207 : decode cL_law 1207 = .ok (.iconst 2, 1) := by decide +kernel
theorem dL_law_1208 : decode cL_law 1208 = .ok (.iadd, 1) := by decide +kernel
theorem dL_law_1209 : decode cL_law 1209 = .ok (.iaload, 1) := by decide +kernel
theorem dL_law_1210 : decode cL_law 1210 = .ok (.invokevirtual 156, 3) := by decide +kernel
theorem dL_law_1213 : decode cL_law 1213 = .ok (.aload_n 2, 1) := by decide +kernel
theorem dL_law_1214 : decode cL_law 1214 = .ok (.aload_n 0, 1) := by decide +kernel
theorem dL_law_1215 : decode cL_law 1215 = .ok (.iload_n 3, 1) := by decide +kernel
theorem dL_law_1216 : decode cL_law 1216 = .ok (.iconst 1, 1) := by decide +kernel
theorem dL_law_1217 : decode cL_law 1217 = .ok (.iadd, 1) := by decide +kernel
theorem dL_law_1218 : decode cL_law 1218 = .ok (.iaload, 1) := by decide +kernel
theorem dL_law_1219 : decode cL_law 1219 = .ok (.aload_n 0, 1) := by decide +kernel
theorem dL_law_1220 : decode cL_law 1220 = .ok (.iload_n 3, 1) := by decide +kernel
theorem dL_law_1221 : decode cL_law 1221 = .ok (.iconst 2, 1) := by decide +kernel
theorem dL_law_1222 : decode cL_law 1222 = .ok (.iadd, 1) := by decide +kernel
theorem dL_law_1223 : decode cL_law 1223 = .ok (.iaload, 1) := by decide +kernel
theorem dL_law_1224 : decode cL_law 1224 = .ok (.invokevirtual 159, 3) := by decide +kernel
theorem dL_law_1227 : decode cL_law 1227 = .ok (.if_icmp .eq 42, 3) := by decide +kernel
theorem dL_law_1230 : decode cL_law 1230 = .ok (.iconst 0, 1) := by decide +kernel
theorem dL_law_1231 : decode cL_law 1231 = .ok (.ireturn, 1) := by decide +kernel
theorem dL_law_1232 : decode cL_law 1232 = .ok (.aload_n 1, 1) := by decide +kernel
theorem dL_law_1233 : decode cL_law 1233 = .ok (.aload_n 0, 1) := by decide +kernel
theorem dL_law_1234 : decode cL_law 1234 = .ok (.iload_n 3, 1) := by decide +kernel
theorem dL_law_1235 : decode cL_law 1235 = .ok (.iconst 1, 1) := by decide +kernel
theorem dL_law_1236 : decode cL_law 1236 = .ok (.iadd, 1) := by decide +kernel
theorem dL_law_1237 : decode cL_law 1237 = .ok (.iaload, 1) := by decide +kernel
theorem dL_law_1238 : decode cL_law 1238 = .ok (.invokevirtual 160, 3) := by decide +kernel
theorem dL_law_1241 : decode cL_law 1241 = .ok (.aload_n 2, 1) := by decide +kernel
theorem dL_law_1242 : decode cL_law 1242 = .ok (.aload_n 0, 1) := by decide +kernel
theorem dL_law_1243 : decode cL_law 1243 = .ok (.iload_n 3, 1) := by decide +kernel
theorem dL_law_1244 : decode cL_law 1244 = .ok (.iconst 1, 1) := by decide +kernel
theorem dL_law_1245 : decode cL_law 1245 = .ok (.iadd, 1) := by decide +kernel
theorem dL_law_1246 : decode cL_law 1246 = .ok (.iaload, 1) := by decide +kernel
theorem dL_law_1247 : decode cL_law 1247 = .ok (.invokevirtual 163, 3) := by decide +kernel
theorem dL_law_1250 : decode cL_law 1250 = .ok (.if_icmp .eq 19, 3) := by decide +kernel
theorem dL_law_1253 : decode cL_law 1253 = .ok (.iconst 0, 1) := by decide +kernel
theorem dL_law_1254 : decode cL_law 1254 = .ok (.ireturn, 1) := by decide +kernel
theorem dL_law_1255 : decode cL_law 1255 = .ok (.aload_n 1, 1) := by decide +kernel
theorem dL_law_1256 : decode cL_law 1256 = .ok (.invokevirtual 164, 3) := by decide +kernel
theorem dL_law_1259 : decode cL_law 1259 = .ok (.aload_n 2, 1) := by decide +kernel
theorem dL_law_1260 : decode cL_law 1260 = .ok (.invokevirtual 168, 3) := by decide +kernel
theorem dL_law_1263 : decode cL_law 1263 = .ok (.lcmp, 1) := by decide +kernel
theorem dL_law_1264 : decode cL_law 1264 = .ok (.ifCond .eq 5, 3) := by decide +kernel
theorem dL_law_1267 : decode cL_law 1267 = .ok (.iconst 0, 1) := by decide +kernel
theorem dL_law_1268 : decode cL_law 1268 = .ok (.ireturn, 1) := by decide +kernel
theorem dL_law_1269 : decode cL_law 1269 = .ok (.iinc 3 6, 3) := by decide +kernel
theorem dL_law_1272 : decode cL_law 1272 = .ok (.goto (-1254), 3) := by decide +kernel
theorem dL_law_1275 : decode cL_law 1275 = .ok (.iconst 1, 1) := by decide +kernel
theorem dL_law_1276 : decode cL_law 1276 = .ok (.ireturn, 1) := by decide +kernel
end
section
/-! A SHADOW MACHINE: frames over a store of cells by their places; what its runs say, the machine does (rows s_..). -/
-- layout: an array (kind, length; kinds: 0 int, 1 boolean, 2 int and only read), or an object (class, fields: none = an int of the memory, some = a reference or null)
abbrev zL : Type := List ((Nat × Nat) ⊕ (Nat × List (Option Value)))
abbrev zM : Type := Nat → Nat → Int32
abbrev zO : Type := List (Option Value)
abbrev zN : Type := zO → List Value → zL → zM → Prop
abbrev zJ : Type := Nat → zN
abbrev zR : Type := Option Value → zL → zM → Prop
abbrev zOp : Type := zN → zJ → zR → zN
-- a method: its name, bytes, locals, what it returns, the frames and the words below it
abbrev zI : Type := MethodName × ByteArray × Nat × Option FieldType × Nat × Nat
def z_v (ad : Nat → Nat) (v : Value) : Value := match v with
  | .ref p => .ref (ad p)
  | w => w
def z_f (ad : Nat → Nat) (f : Nat → Int32) (fs : List (Option Value)) : List Value := fs.mapIdx (fun k o => match o with
  | none => .int (f k)
  | some v => z_v ad v)
def z_e (ad : Nat → Nat) (cA : ClassId) (f : Nat → Int32) (c : (Nat × Nat) ⊕ (Nat × List (Option Value))) : va_E := match c with
  | .inl q => .inl (cA, q.2, .inl f)
  | .inr o => .inr (o.1, z_f ad f o.2)
def z_ws (ad : Nat → Nat) (cA : Nat → ClassId) (L : zL) (M : zM) : va_W := (L.drop 2).mapIdx (fun k c => (ad (k + 2), z_e ad (cA (k + 2)) (M (k + 2)) c))
def z_sz : zL → Nat
  | [] => 0
  | .inl q :: r => q.2 + z_sz r
  | .inr o :: r => o.2.length + z_sz r
def z_ty (k : Nat) : FieldType := match k with
  | 0 => .int
  | _ => .boolean
def z_Ar (s : State) (cA : Nat → ClassId) (L : zL) : Prop := ∀ (p k n : Nat), L[p]? = some (.inl (k, n)) → 2 ≤ p → k < 2 ∧ ArrOfT s (cA p) (z_ty k) ∧ va_RA s (cA p) (z_ty k)
def z_Fz (nS : Nat) (f0 f1 : Nat → Int32) (L : zL) (M : zM) : Prop := L[0]? = some (.inl (2, nS)) ∧ L[1]? = some (.inl (2, 4)) ∧ M 0 = f0 ∧ M 1 = f1
-- the words of the tables that keep, and the nest's links
def z_isN : Cond → Bool
  | .fieldLinkNest _ _ _ _ _ _ => true
  | .methodLinkNest _ _ _ _ => true
  | _ => false
def z_Ts : List Cond := lw_tbl.filter goodWord
def z_Ns : List Cond := lw_tbl.filter z_isN
theorem z_in {w : Cond} (i : Nat) (h : lw_tbl[i]? = some w) (hg : goodWord w = true) : w ∈ z_Ts := List.mem_filter.mpr ⟨List.mem_of_getElem? h, hg⟩
theorem z_inN {w : Cond} (i : Nat) (h : lw_tbl[i]? = some w) (hg : z_isN w = true) : w ∈ z_Ns := List.mem_filter.mpr ⟨List.mem_of_getElem? h, hg⟩
theorem z_warm {w : Cond} (hw : z_isN w = true) {s U : State} (hW : s.WarmedH U.vm) (h : va_Nw w s) : va_Nw w U := by
  cases w <;> first | (cases hw; done) | exact va_Nw.warmF hW h | exact va_Nw.warmM hW h
theorem z_good (w : Cond) (h : w ∈ z_Ts) : goodWord w = true := (List.mem_filter.mp h).2
/-- what a state gives to every method -/
def z_En (D : va_G) (A : Nat → Prop) (a0 a1 nS : Nat) (f0 f1 : Nat → Int32) (U : State) : Prop :=
  (∀ w ∈ z_Ns, va_Nw w U) ∧ va_K D vwCl [] U ∧ va_Z "TownBagpipes" "DIGEST_HOURS" "[I" (.ref a1) A U U.heap ∧ (va_X a0 nS f0 U U.heap ∧ a0 < U.heap.size ∧ ¬ A a0) ∧ (va_X a1 4 f1 U U.heap ∧ a1 < U.heap.size ∧ ¬ A a1) ∧ ∀ q, U.heap.size ≤ q → A q
def z_Pre (D : va_G) (ad : Nat → Nat) (cA : Nat → ClassId) (nS : Nat) (f0 f1 : Nat → Int32) (sz : Nat) (L : zL) (M : zM) (U : State) : Prop :=
  U.heap.size = sz ∧ va_P D vwCl (z_ws ad cA L M) U.heap ∧ va_D (fun _ => True) (z_ws ad cA L M) ∧ z_Ar U cA L ∧ z_Fz nS f0 f1 L M ∧ z_En D (va_A (z_ws ad cA L M) sz) (ad 0) (ad 1) nS f0 f1 U
def z_Post (D : va_G) (ad : Nat → Nat) (cA : Nat → ClassId) (nS : Nat) (f0 f1 : Nat → Int32) (sz : Nat) (L : zL) (M : zM) (v : Option Value) (L' : zL) (M' : zM) (st : State) (oc : Outcome) (t : State) : Prop :=
  ∃ (ad' : Nat → Nat) (cA' : Nat → ClassId), oc = .returned (v.map (z_v ad')) ∧ (∀ p, p < L.length ∨ L'.length ≤ p → ad' p = ad p) ∧ va_P D vwCl (z_ws ad' cA' L' M') t.heap ∧ va_D (va_A (z_ws ad cA L M) sz) (z_ws ad' cA' L' M') ∧ z_Ar t cA' L' ∧ z_Fz nS f0 f1 L' M' ∧ va_F (va_A (z_ws ad cA L M) sz) st t
/-- the contract of one run of a method: from the store (L, M) it answers v and leaves the store (L', M') -/
def zMet (i : zI) (as : List Value) (L : zL) (M : zM) (v : Option Value) (L' : zL) (M' : zM) : Prop :=
  L.length ≤ L'.length ∧ z_sz L ≤ z_sz L' ∧ ∀ (l : Launch) (D : va_G) (ad : Nat → Nat) (cA : Nat → ClassId) (nS : Nat) (f0 f1 : Nat → Int32) (sz : Nat),
    Met l i.1 (Cond.code i.1 i.2.1 i.2.2.1 i.2.2.2.1 :: z_Ts) { frames := i.2.2.2.2.1, cells := L'.length - L.length, slots := z_sz L' - z_sz L, locals := i.2.2.2.2.2 }
      (va_Pc (as.map (z_v ad)) (z_Pre D ad cA nS f0 f1 sz L M)) (fun _ st oc t => z_Post D ad cA nS f0 f1 sz L M v L' M' st oc t) (L'.length - L.length) (z_sz L' - z_sz L) (va_A (z_ws ad cA L M) sz)
-- the operations
def z_n1 (lo : zO) (i : Nat) : Bool := match i with
  | 0 => true
  | k + 1 => match lo[k]? with
    | some (some (.long _)) => false
    | some (some (.double _)) => false
    | _ => true
def z_cat (st : List Value) : Nat := (st.map fun v => v.category).sum
def z_rok (n : Nat) (v : Value) : Bool := match v with
  | .ref p => Nat.blt p n
  | _ => true
def z_ook (n : Nat) (o : Option Value) : Bool := match o with
  | none => true
  | some v => z_rok n v
def z_cok (n : Nat) (c : (Nat × Nat) ⊕ (Nat × List (Option Value))) : Bool := match c with
  | .inl _ => true
  | .inr o => o.2.all (z_ook n)
def z_ok (lo : zO) (st : List Value) (L : zL) : Bool := lo.all (z_ook L.length) && (st.all (z_rok L.length) && L.all (z_cok L.length))
def z_len (L : zL) (p : Nat) : Option Nat := match L[p]? with
  | some (.inl q) => bif Nat.beq q.1 0 then some q.2 else bif Nat.blt p 2 then some q.2 else none
  | _ => none
def z_lenK (k : Nat) (L : zL) (p : Nat) : Option Nat := match L[p]? with
  | some (.inl q) => bif Nat.beq q.1 k then some q.2 else none
  | _ => none
def z_obj (L : zL) (p ci : Nat) : Option (List (Option Value)) := match L[p]? with
  | some (.inr o) => bif Nat.beq o.1 ci then some o.2 else none
  | _ => none
def o_mark (t : Nat) : zOp := fun _ jump _ lo st L M => jump t lo st L M
def o_ic (x : Int32) : zOp := fun next _ _ lo st L M => next lo (.int x :: st) L M
def o_lc (x : Int64) : zOp := fun next _ _ lo st L M => next lo (.long x :: st) L M
def o_il (i : Nat) : zOp := fun next _ _ lo st L M => match lo[i]? with
  | some (some (.int x)) => next lo (.int x :: st) L M
  | _ => False
def o_ll (i : Nat) : zOp := fun next _ _ lo st L M => match lo[i]? with
  | some (some (.long x)) => next lo (.long x :: st) L M
  | _ => False
def o_al (i : Nat) : zOp := fun next _ _ lo st L M => match lo[i]? with
  | some (some (.ref x)) => next lo (.ref x :: st) L M
  | _ => False
def o_is (i : Nat) : zOp := fun next _ _ lo st L M => match st with
  | .int x :: r => bif z_n1 lo i && Nat.blt i lo.length then next (lo.set i (some (.int x))) r L M else False
  | _ => False
def o_ls (i : Nat) : zOp := fun next _ _ lo st L M => match st with
  | .long x :: r => bif z_n1 lo i && Nat.blt (i + 1) lo.length then next ((lo.set i (some (.long x))).set (i + 1) none) r L M else False
  | _ => False
def o_as (i : Nat) : zOp := fun next _ _ lo st L M => match st with
  | .ref x :: r => bif z_n1 lo i && Nat.blt i lo.length then next (lo.set i (some (.ref x))) r L M else False
  | _ => False
def o_inc (i : Nat) (v : Int32) : zOp := fun next _ _ lo st L M => match lo[i]? with
  | some (some (.int x)) => bif z_n1 lo i && Nat.blt i lo.length then next (lo.set i (some (.int (x + v)))) st L M else False
  | _ => False
def o_ii (f : Int32 → Int32 → Int32) : zOp := fun next _ _ lo st L M => match st with
  | .int y :: .int x :: r => next lo (.int (f x y) :: r) L M
  | _ => False
def o_iz (f : Int32 → Int32 → Int32) : zOp := fun next _ _ lo st L M => match st with
  | .int y :: .int x :: r => ¬ y = 0 ∧ next lo (.int (f x y) :: r) L M
  | _ => False
def o_jj (f : Int64 → Int64 → Int64) : zOp := fun next _ _ lo st L M => match st with
  | .long y :: .long x :: r => next lo (.long (f x y) :: r) L M
  | _ => False
def o_jz (f : Int64 → Int64 → Int64) : zOp := fun next _ _ lo st L M => match st with
  | .long y :: .long x :: r => ¬ y = 0 ∧ next lo (.long (f x y) :: r) L M
  | _ => False
def o_js (f : Int64 → Int32 → Int64) : zOp := fun next _ _ lo st L M => match st with
  | .int y :: .long x :: r => next lo (.long (f x y) :: r) L M
  | _ => False
def o_i1 (f : Int32 → Int32) : zOp := fun next _ _ lo st L M => match st with
  | .int x :: r => next lo (.int (f x) :: r) L M
  | _ => False
def o_i2l : zOp := fun next _ _ lo st L M => match st with
  | .int x :: r => next lo (.long x.toInt64 :: r) L M
  | _ => False
def o_l2i : zOp := fun next _ _ lo st L M => match st with
  | .long x :: r => next lo (.int x.toInt32 :: r) L M
  | _ => False
def o_jc (f : Int64 → Int64 → Int32) : zOp := fun next _ _ lo st L M => match st with
  | .long y :: .long x :: r => next lo (.int (f x y) :: r) L M
  | _ => False
def o_dup : zOp := fun next _ _ lo st L M => match st with
  | v :: r => bif Nat.beq v.category 1 then next lo (v :: v :: r) L M else False
  | _ => False
def o_dup2 : zOp := fun next _ _ lo st L M => match st with
  | v :: w :: r => bif Nat.beq v.category 1 && Nat.beq w.category 1 then next lo (v :: w :: v :: w :: r) L M else False
  | _ => False
def o_if (P : Int32 → Prop) (t : Nat) : zOp := fun next jump _ lo st L M => match st with
  | .int x :: r => (P x → jump t lo r L M) ∧ (¬ P x → next lo r L M)
  | _ => False
def o_cmp (P : Int32 → Int32 → Prop) (t : Nat) : zOp := fun next jump _ lo st L M => match st with
  | .int y :: .int x :: r => (P x y → jump t lo r L M) ∧ (¬ P x y → next lo r L M)
  | _ => False
def o_in (P : Int32 → Prop) (t : Nat) : zOp := fun next jump _ lo st L M => match st with
  | .int x :: r => (P x → next lo r L M) ∧ (¬ P x → jump t lo r L M)
  | _ => False
def o_cn (P : Int32 → Int32 → Prop) (t : Nat) : zOp := fun next jump _ lo st L M => match st with
  | .int y :: .int x :: r => (P x y → next lo r L M) ∧ (¬ P x y → jump t lo r L M)
  | _ => False
def o_go (t : Nat) : zOp := fun _ jump _ lo st L M => jump t lo st L M
def o_sw (lw : Int) (ts : List Nat) (d : Nat) : zOp := fun _ jump _ lo st L M => match st with
  | .int x :: r => (x.toInt < lw ∨ lw + ts.length ≤ x.toInt → jump d lo r L M) ∧ ∀ (k t : Nat), ts[k]? = some t → x.toInt = lw + k → jump t lo r L M
  | _ => False
def o_gf (ci k : Nat) : zOp := fun next _ _ lo st L M => match st with
  | .ref p :: r => match z_obj L p ci with
    | some fs => match fs[k]? with
      | some none => next lo (.int (M p k) :: r) L M
      | some (some v) => next lo (v :: r) L M
      | none => False
    | none => False
  | _ => False
def o_pi (ci k : Nat) : zOp := fun next _ _ lo st L M => match st with
  | .int x :: .ref p :: r => match z_obj L p ci with
    | some fs => match fs[k]? with
      | some none => next lo r L (va_up M p (upd (M p) k x))
      | _ => False
    | none => False
  | _ => False
def o_pz (ci k : Nat) : zOp := fun next _ _ lo st L M => match st with
  | .int x :: .ref p :: r => match z_obj L p ci with
    | some fs => match fs[k]? with
      | some none => (narrow .boolean (.int x) = .int x ∧ fits .boolean (.int x) = true) ∧ next lo r L (va_up M p (upd (M p) k x))
      | _ => False
    | none => False
  | _ => False
def o_pr (ci k : Nat) : zOp := fun next _ _ lo st L M => match st with
  | .ref q :: .ref p :: r => match z_obj L p ci with
    | some fs => match fs[k]? with
      | some (some _) => bif Nat.blt p 2 then False else next lo r (L.set p (.inr (ci, fs.set k (some (.ref q))))) M
      | _ => False
    | none => False
  | _ => False
def o_gs : zOp := fun next _ _ lo st L M => next lo (.ref 1 :: st) L M
def o_ia : zOp := fun next _ _ lo st L M => match st with
  | .int i :: .ref p :: r => match z_len L p with
    | some n => vp_in i n ∧ next lo (.int (M p i.toNatClampNeg) :: r) L M
    | none => False
  | _ => False
def o_ba : zOp := fun next _ _ lo st L M => match st with
  | .int i :: .ref p :: r => match z_lenK 1 L p with
    | some n => vp_in i n ∧ next lo (.int (M p i.toNatClampNeg) :: r) L M
    | none => False
  | _ => False
def o_iw : zOp := fun next _ _ lo st L M => match st with
  | .int x :: .int i :: .ref p :: r => match z_lenK 0 L p with
    | some n => vp_in i n ∧ next lo r L (va_up M p (upd (M p) i.toNatClampNeg x))
    | none => False
  | _ => False
def o_bw : zOp := fun next _ _ lo st L M => match st with
  | .int x :: .int i :: .ref p :: r => match z_lenK 1 L p with
    | some n => vp_in i n ∧ next lo r L (va_up M p (upd (M p) i.toNatClampNeg (vp_nar .boolean x)))
    | none => False
  | _ => False
def o_len : zOp := fun next _ _ lo st L M => match st with
  | .ref p :: r => match L[p]? with
    | some (.inl q) => next lo (.int (Int32.ofNat q.2) :: r) L M
    | _ => False
  | _ => False
def o_new (kc ks ci : Nat) (fs : List (Option Value)) : zOp := fun next _ _ lo st L M =>
  bif z_ok lo st L && (Nat.ble (L.length + 1) kc && Nat.ble (z_sz L + fs.length) ks) then next lo (.ref L.length :: st) (L ++ [.inr (ci, fs)]) (va_up M L.length (fun _ => 0)) else False
def o_na (kc ks k : Nat) : zOp := fun next _ _ lo st L M => match st with
  | .int x :: r => bif z_ok lo r L && (decide (¬ x < 0) && (Nat.ble x.toNatClampNeg 10000 && (Nat.ble (L.length + 1) kc && Nat.ble (z_sz L + x.toNatClampNeg) ks))) then next lo (.ref L.length :: r) (L ++ [.inl (k, x.toNatClampNeg)]) (va_up M L.length (fun _ => 0)) else False
  | _ => False
/-- a call that makes nothing: n arguments, the receiver (if there is one) among them, of the class ci -/
def o_cv (i : zI) (n ci : Nat) : zOp := fun next _ _ lo st L M => match st.drop n with
  | .ref b :: r => match z_obj L b ci with
    | some _ => bif Nat.ble (z_cat r) 8 then ∃ v M', zMet i (.ref b :: (st.take n).reverse) L M v L M' ∧ next lo (v.toList ++ r) L M' else False
    | none => False
  | _ => False
def o_cs (i : zI) (n : Nat) : zOp := fun next _ _ lo st L M =>
  bif Nat.ble n st.length && Nat.ble (z_cat (st.drop n)) 8 then ∃ v M', zMet i (st.take n).reverse L M v L M' ∧ next lo (v.toList ++ st.drop n) L M' else False
/-- a constructor -/
def o_ci (kc ks : Nat) (i : zI) (n : Nat) : zOp := fun next _ _ lo st L M => match st.drop n with
  | .ref b :: r => bif z_ok lo r L && Nat.ble (z_cat r) 8 then ∃ L' M', zMet i (.ref b :: (st.take n).reverse) L M none L' M' ∧ (L'.length ≤ kc ∧ z_sz L' ≤ ks) ∧ next lo r L' M' else False
  | _ => False
def o_oi (lc : Nat) : zOp := fun next _ _ lo st L M => match st with
  | .ref _ :: r => bif Nat.ble (z_cat r + 12) lc then next lo r L M else False
  | _ => False
def o_mi (lc : Nat) (f : Int32 → Int32 → Int32) : zOp := fun next _ _ lo st L M => match st with
  | .int y :: .int x :: r => bif Nat.ble (z_cat r + 13) lc then next lo (.int (f x y) :: r) L M else False
  | _ => False
def o_cp (lc : Nat) : zOp := fun next _ _ lo st L M => match st with
  | .int n :: .int dp :: .ref q :: .int sp :: .ref p :: r => match z_lenK 0 L p with
    | some n0 => match z_lenK 0 L q with
      | some n1 => bif Nat.ble (z_cat r + (nativeFrameWords "java/lang/System" "arraycopy" 5 + 11)) lc then
          (¬ sp < 0 ∧ ¬ dp < 0 ∧ ¬ n < 0 ∧ sp.toNatClampNeg + n.toNatClampNeg ≤ n0 ∧ dp.toNatClampNeg + n.toNatClampNeg ≤ n1) ∧ next lo r L (va_up M q (va_cpy (M p) (M q) sp.toNatClampNeg dp.toNatClampNeg n.toNatClampNeg)) else False
      | none => False
    | none => False
  | _ => False
def o_ir : zOp := fun _ _ ret _ st L M => match st with
  | [.int x] => ret (some (.int x)) L M
  | _ => False
def o_zr : zOp := fun _ _ ret _ st L M => match st with
  | [.int x] => narrow .boolean (.int x) = .int x ∧ ret (some (.int x)) L M
  | _ => False
def o_lr : zOp := fun _ _ ret _ st L M => match st with
  | [.long x] => ret (some (.long x)) L M
  | _ => False
def o_ar : zOp := fun _ _ ret _ st L M => match st with
  | [.ref x] => ret (some (.ref x)) L M
  | _ => False
def o_vr : zOp := fun _ _ ret _ st L M => match st with
  | [] => ret none L M
  | _ => False
end
section
/-! the store's cells as the kit's world -/
theorem z_v_cat (ad : Nat → Nat) (v : Value) : (z_v ad v).category = v.category := by cases v <;> rfl
theorem z_cat_map (ad : Nat → Nat) (st : List Value) : ((st.map (z_v ad)).map fun v => v.category).sum = z_cat st := by
  unfold z_cat
  rw [List.map_map]
  congr 1
  exact List.map_congr_left (fun v _ => z_v_cat ad v)
theorem z_ws_at {ad : Nat → Nat} {cA : Nat → ClassId} {L : zL} {M : zM} {p : Nat} {c : (Nat × Nat) ⊕ (Nat × List (Option Value))} (h2 : 2 ≤ p) (h : L[p]? = some c) : (z_ws ad cA L M)[p - 2]? = some (ad p, z_e ad (cA p) (M p) c) := by
  obtain ⟨k, rfl⟩ : ∃ k, p = k + 2 := ⟨p - 2, by omega⟩
  unfold z_ws
  rw [List.getElem?_mapIdx, List.getElem?_drop, show 2 + (k + 2 - 2) = k + 2 by omega, h]
  simp
theorem z_ws_inv {ad : Nat → Nat} {cA : Nat → ClassId} {L : zL} {M : zM} {k : Nat} {q : Nat × va_E} (h : (z_ws ad cA L M)[k]? = some q) : ∃ c, L[k + 2]? = some c ∧ q = (ad (k + 2), z_e ad (cA (k + 2)) (M (k + 2)) c) := by
  unfold z_ws at h
  rw [List.getElem?_mapIdx, List.getElem?_drop] at h
  rw [show 2 + k = k + 2 by omega] at h
  cases hc : L[k + 2]? with
  | none => rw [hc] at h; cases h
  | some c =>
    rw [hc] at h
    exact ⟨c, rfl, (Option.some.inj h).symm⟩
theorem z_ws_len {ad : Nat → Nat} {cA : Nat → ClassId} {L : zL} {M : zM} : (z_ws ad cA L M).length = L.length - 2 := by simp [z_ws]
theorem z_f_at {ad : Nat → Nat} {f : Nat → Int32} {fs : List (Option Value)} {k : Nat} : (z_f ad f fs)[k]? = (fs[k]?).map (fun o => match o with
  | none => Value.int (f k)
  | some v => z_v ad v) := by
  unfold z_f
  rw [List.getElem?_mapIdx]
  cases fs[k]? with
  | none => rfl
  | some o => cases o <;> rfl
theorem z_f_len {ad : Nat → Nat} {f : Nat → Int32} {fs : List (Option Value)} : (z_f ad f fs).length = fs.length := by simp [z_f]
/-- an element is written -/
theorem z_ws_arr {ad : Nat → Nat} {cA : Nat → ClassId} {L : zL} {M : zM} {p k n : Nat} (h2 : 2 ≤ p) (h : L[p]? = some (.inl (k, n))) (f : Nat → Int32) : (z_ws ad cA L M).set (p - 2) (ad p, .inl (cA p, n, .inl f)) = z_ws ad cA L (va_up M p f) := by
  apply List.ext_getElem?
  intro j
  rw [List.getElem?_set]
  have hl : p < L.length := (List.getElem?_eq_some_iff.mp h).1
  by_cases hj : p - 2 = j
  · rw [if_pos hj, if_pos (by rw [z_ws_len]; omega)]
    have e : p = j + 2 := by omega
    subst e
    rw [show j = (j + 2) - 2 by omega, z_ws_at h2 h]
    simp [z_e, va_up]
  · rw [if_neg hj]
    unfold z_ws
    rw [List.getElem?_mapIdx, List.getElem?_mapIdx]
    have e : j + 2 ≠ p := by omega
    simp [va_up, e]
/-- an int field is written -/
theorem z_ws_fi {ad : Nat → Nat} {cA : Nat → ClassId} {L : zL} {M : zM} {p ci k : Nat} {fs : List (Option Value)} (h2 : 2 ≤ p) (h : L[p]? = some (.inr (ci, fs))) (hk : fs[k]? = some none) (x : Int32) : (z_ws ad cA L M).set (p - 2) (ad p, .inr (ci, (z_f ad (M p) fs).set k (.int x))) = z_ws ad cA L (va_up M p (upd (M p) k x)) := by
  apply List.ext_getElem?
  intro j
  rw [List.getElem?_set]
  have hl : p < L.length := (List.getElem?_eq_some_iff.mp h).1
  by_cases hj : p - 2 = j
  · rw [if_pos hj, if_pos (by rw [z_ws_len]; omega)]
    have e : p = j + 2 := by omega
    subst e
    rw [show j = (j + 2) - 2 by omega, z_ws_at h2 h]
    have e2 : (z_f ad (M (j + 2)) fs).set k (.int x) = z_f ad (upd (M (j + 2)) k x) fs := by
      apply List.ext_getElem?
      intro i
      rw [List.getElem?_set, z_f_at, z_f_at]
      by_cases hi : k = i
      · subst hi
        rw [if_pos rfl, if_pos (by rw [z_f_len]; exact (List.getElem?_eq_some_iff.mp hk).1), hk]
        simp [upd]
      · rw [if_neg hi]
        congr 1
        funext o
        cases o with
        | none => simp [upd, Ne.symm hi]
        | some v => rfl
    simp [z_e, va_up, e2]
  · rw [if_neg hj]
    unfold z_ws
    rw [List.getElem?_mapIdx, List.getElem?_mapIdx]
    have e : j + 2 ≠ p := by omega
    simp [va_up, e]
/-- a field that holds a reference is written -/
theorem z_ws_fr {ad : Nat → Nat} {cA : Nat → ClassId} {L : zL} {M : zM} {p ci k : Nat} {fs : List (Option Value)} {w : Value} (h2 : 2 ≤ p) (h : L[p]? = some (.inr (ci, fs))) (hk : fs[k]? = some (some w)) (v : Value) : (z_ws ad cA L M).set (p - 2) (ad p, .inr (ci, (z_f ad (M p) fs).set k (z_v ad v))) = z_ws ad cA (L.set p (.inr (ci, fs.set k (some v)))) M := by
  apply List.ext_getElem?
  intro j
  rw [List.getElem?_set]
  have hl : p < L.length := (List.getElem?_eq_some_iff.mp h).1
  by_cases hj : p - 2 = j
  · rw [if_pos hj, if_pos (by rw [z_ws_len]; omega)]
    have e : p = j + 2 := by omega
    subst e
    have h3 : (L.set (j + 2) (.inr (ci, fs.set k (some v))))[j + 2]? = some (.inr (ci, fs.set k (some v))) := by simp [hl]
    have h4 := z_ws_at (ad := ad) (cA := cA) (M := M) h2 h3
    rw [Nat.add_sub_cancel] at h4
    rw [h4]
    have e2 : (z_f ad (M (j + 2)) fs).set k (z_v ad v) = z_f ad (M (j + 2)) (fs.set k (some v)) := by
      apply List.ext_getElem?
      intro i
      rw [List.getElem?_set, z_f_at, z_f_at, List.getElem?_set]
      by_cases hi : k = i
      · subst hi
        have hkl := (List.getElem?_eq_some_iff.mp hk).1
        rw [if_pos rfl, if_pos (by rw [z_f_len]; exact hkl), if_pos rfl, if_pos hkl]
        rfl
      · rw [if_neg hi, if_neg hi]
    simp [z_e, e2]
  · rw [if_neg hj]
    unfold z_ws
    rw [List.getElem?_mapIdx, List.getElem?_mapIdx, List.getElem?_drop, List.getElem?_drop, List.getElem?_set, if_neg (by omega)]
theorem z_v_up {ad : Nat → Nat} {n q : Nat} {v : Value} (h : z_rok n v = true) : z_v (va_up ad n q) v = z_v ad v := by
  cases v <;> first | rfl | skip
  rename_i p
  have : p < n := Nat.blt_eq.mp h |> fun h => h
  simp [z_v, va_up, Nat.ne_of_lt this]
theorem z_v_ag {ad ad' : Nat → Nat} {n : Nat} (hag : ∀ p, p < n → ad' p = ad p) {v : Value} (h : z_rok n v = true) : z_v ad' v = z_v ad v := by
  cases v <;> first | rfl | skip
  rename_i p
  have : p < n := Nat.blt_eq.mp h |> fun h => h
  simp [z_v, hag p this]
theorem z_st_ag {ad ad' : Nat → Nat} {n : Nat} (hag : ∀ p, p < n → ad' p = ad p) {st : List Value} (h : st.all (z_rok n) = true) : st.map (z_v ad') = st.map (z_v ad) :=
  List.map_congr_left (fun v hv => z_v_ag hag (List.all_eq_true.mp h v hv))
theorem z_e_ag {ad ad' : Nat → Nat} {n : Nat} (hag : ∀ p, p < n → ad' p = ad p) {c : (Nat × Nat) ⊕ (Nat × List (Option Value))} (h : z_cok n c = true) (cA : ClassId) (f : Nat → Int32) : z_e ad' cA f c = z_e ad cA f c := by
  cases c with
  | inl q => rfl
  | inr o =>
    show Sum.inr (o.1, z_f ad' f o.2) = Sum.inr (o.1, z_f ad f o.2)
    congr 2
    apply List.ext_getElem?
    intro i
    rw [z_f_at, z_f_at]
    cases ho : o.2[i]? with
    | none => rfl
    | some x =>
      cases x with
      | none => rfl
      | some v =>
        have h1 := List.all_eq_true.mp h _ (List.mem_of_getElem? ho)
        simp only [Option.map_some]
        rw [z_v_ag hag h1]
/-- a new cell -/
theorem z_ws_push {ad : Nat → Nat} {cA : Nat → ClassId} {L : zL} {M : zM} (h2 : 2 ≤ L.length) (hL : L.all (z_cok L.length) = true) (q : Nat) (cQ : ClassId) (f : Nat → Int32) (c : (Nat × Nat) ⊕ (Nat × List (Option Value))) (e : va_E) (he : e = z_e (va_up ad L.length q) cQ f c) :
    z_ws ad cA L M ++ [(q, e)] = z_ws (va_up ad L.length q) (va_up cA L.length cQ) (L ++ [c]) (va_up M L.length f) := by
  apply List.ext_getElem?
  intro j
  have hag : ∀ p, p < L.length → va_up ad L.length q p = ad p := fun p hp => by simp [va_up, Nat.ne_of_lt hp]
  by_cases hj : j < L.length - 2
  · rw [List.getElem?_append_left (by rw [z_ws_len]; exact hj)]
    have hlt : j + 2 < L.length := by omega
    have h1 : L[j + 2]? = some L[j + 2] := List.getElem?_eq_getElem hlt
    have h3 : (L ++ [c])[j + 2]? = some L[j + 2] := by rw [List.getElem?_append_left hlt]; exact h1
    rw [show j = (j + 2) - 2 by omega, z_ws_at (by omega) h1, z_ws_at (by omega) h3]
    have h4 := List.all_eq_true.mp hL _ (List.mem_of_getElem? h1)
    rw [z_e_ag hag h4, hag _ hlt]
    simp [va_up, Nat.ne_of_lt hlt]
  · by_cases hj2 : j = L.length - 2
    · subst hj2
      rw [List.getElem?_append_right (by rw [z_ws_len]; omega), z_ws_len, Nat.sub_self]
      have h3 : (L ++ [c])[L.length]? = some c := by simp
      rw [z_ws_at h2 h3, he]
      simp [va_up]
    · rw [List.getElem?_eq_none (by simp [z_ws_len]; omega), List.getElem?_eq_none (by rw [z_ws_len]; simp; omega)]
theorem z_sz_app (L : zL) (c : (Nat × Nat) ⊕ (Nat × List (Option Value))) : z_sz (L ++ [c]) = z_sz L + z_sz [c] := by
  induction L with
  | nil => simp [z_sz]
  | cons a r ih => cases a <;> simp [z_sz, ih, Nat.add_assoc]
theorem z_sz_set {L : zL} {p ci : Nat} {fs fs' : List (Option Value)} (h : L[p]? = some (.inr (ci, fs))) (hl : fs'.length = fs.length) : z_sz (L.set p (.inr (ci, fs'))) = z_sz L := by
  induction L generalizing p with
  | nil => cases h
  | cons a r ih =>
    cases p with
    | zero =>
      simp only [List.getElem?_cons_zero, Option.some.injEq] at h
      subst h
      simp [z_sz, hl]
    | succ p =>
      have h' : r[p]? = some (.inr (ci, fs)) := h
      cases a <;> simp [z_sz, ih h']
/-- the locals -/
def z_Lo (ad : Nat → Nat) (ls : Array Slot) (lo : zO) : Prop := ls.size = lo.length ∧ lv_wf ls ∧ ∀ (i : Nat) (v : Value), lo[i]? = some (some v) → ls[i]? = some (.val (z_v ad v))
def z_as (ad : Nat → Nat) (lo : zO) : List (Nat × Value) := (List.range lo.length).filterMap (fun j => match lo[j]? with
  | some (some v) => some (j, z_v ad v)
  | _ => none)
theorem z_as_mem {ad : Nat → Nat} {lo : zO} {q : Nat × Value} : q ∈ z_as ad lo ↔ ∃ v, lo[q.1]? = some (some v) ∧ q.2 = z_v ad v := by
  unfold z_as
  rw [List.mem_filterMap]
  constructor
  · rintro ⟨j, hj, h⟩
    split at h
    · rename_i v hv
      cases h
      exact ⟨v, hv, rfl⟩
    · cases h
  · rintro ⟨v, hv, h2⟩
    refine ⟨q.1, List.mem_range.mpr (List.getElem?_eq_some_iff.mp hv).1, ?_⟩
    rw [hv]
    show some (q.1, z_v ad v) = some q
    rw [← h2]
theorem z_Lo_has {ad : Nat → Nat} {ls : Array Slot} {lo : zO} (h : z_Lo ad ls lo) : lv_has ls lo.length (z_as ad lo) := by
  refine ⟨h.1, h.2.1, fun q hq => ?_⟩
  obtain ⟨v, h1, h2⟩ := z_as_mem.mp hq
  rw [h2]
  exact h.2.2 _ _ h1
theorem z_Lo_set1 {ad : Nat → Nat} {ls' : Array Slot} {lo : zO} {i : Nat} {v : Value} (hn : z_n1 lo i = true)
    (h : lv_has ls' lo.length ((i, z_v ad v) :: (z_as ad lo).filter (fun q => !(q.1 == i) && !(q.1 + 1 == i && q.2.category == 2)))) : z_Lo ad ls' (lo.set i (some v)) := by
  refine ⟨by rw [h.1, List.length_set], h.2.1, fun j w hj => ?_⟩
  rw [List.getElem?_set] at hj
  by_cases e : i = j
  · subst e
    rw [if_pos rfl] at hj
    split at hj
    · cases hj
      exact h.2.2 _ List.mem_cons_self
    · cases hj
  · rw [if_neg e] at hj
    refine h.2.2 (j, z_v ad w) (List.mem_cons_of_mem _ (List.mem_filter.mpr ⟨z_as_mem.mpr ⟨w, hj, rfl⟩, ?_⟩))
    simp only [Bool.and_eq_true, Bool.not_eq_true', beq_eq_false_iff_ne, ne_eq, Bool.and_eq_false_iff]
    refine ⟨fun q => e q.symm, ?_⟩
    by_cases e2 : j + 1 = i
    · right
      subst e2
      unfold z_n1 at hn
      simp only [hj] at hn
      rw [z_v_cat]
      cases w <;> first | (cases hn; done) | (simp [Value.category]; done)
    · left; exact e2
theorem z_Lo_set2 {ad : Nat → Nat} {ls' : Array Slot} {lo : zO} {i : Nat} {v : Value} (hn : z_n1 lo i = true)
    (h : lv_has ls' lo.length ((i, z_v ad v) :: (z_as ad lo).filter (fun q => !(q.1 == i) && (!(q.1 == i + 1) && !(q.1 + 1 == i && q.2.category == 2))))) : z_Lo ad ls' ((lo.set i (some v)).set (i + 1) none) := by
  refine ⟨by rw [h.1, List.length_set, List.length_set], h.2.1, fun j w hj => ?_⟩
  rw [List.getElem?_set] at hj
  by_cases e0 : i + 1 = j
  · rw [if_pos e0] at hj
    split at hj <;> cases hj
  rw [if_neg e0, List.getElem?_set] at hj
  by_cases e : i = j
  · subst e
    rw [if_pos rfl] at hj
    split at hj
    · cases hj
      exact h.2.2 _ List.mem_cons_self
    · cases hj
  · rw [if_neg e] at hj
    refine h.2.2 (j, z_v ad w) (List.mem_cons_of_mem _ (List.mem_filter.mpr ⟨z_as_mem.mpr ⟨w, hj, rfl⟩, ?_⟩))
    simp only [Bool.and_eq_true, Bool.not_eq_true', beq_eq_false_iff_ne, ne_eq, Bool.and_eq_false_iff]
    refine ⟨fun q => e q.symm, fun q => e0 q.symm, ?_⟩
    by_cases e2 : j + 1 = i
    · right
      subst e2
      unfold z_n1 at hn
      simp only [hj] at hn
      rw [z_v_cat]
      cases w <;> first | (cases hn; done) | (simp [Value.category]; done)
    · left; exact e2
theorem z_Lo_ag {ad ad' : Nat → Nat} {n : Nat} (hag : ∀ p, p < n → ad' p = ad p) {ls : Array Slot} {lo : zO} (h : z_Lo ad ls lo) (ho : lo.all (z_ook n) = true) : z_Lo ad' ls lo := by
  refine ⟨h.1, h.2.1, fun i v hv => ?_⟩
  have h1 := List.all_eq_true.mp ho _ (List.mem_of_getElem? hv)
  rw [z_v_ag hag h1]
  exact h.2.2 i v hv
end
section
/-! each operation of the shadow machine is what the machine does -/
def z_Wd (s : State) (R : Room) (D : va_G) (A : Nat → Prop) (ad0 : Nat → Nat) (n0 s0 nS : Nat) (f0 f1 : Nat → Int32) (ad : Nat → Nat) (cA : Nat → ClassId) (L : zL) (M : zM) (H : Heap) (locs : List Loc) (cells slots : Nat) : Prop :=
  va_P D vwCl (z_ws ad cA L M) H ∧ va_D A (z_ws ad cA L M) ∧ va_S A s.heap H locs ∧ z_Ar s cA L ∧ (∀ p, p < n0 ∨ L.length ≤ p → ad p = ad0 p) ∧ (cells + n0 = L.length ∧ slots + s0 = z_sz L ∧ cells ≤ R.cells ∧ slots ≤ R.slots) ∧ z_Fz nS f0 f1 L M
def z_K (p : Program) (l : Launch) (e : Env) (R : Room) (s : State) (m : MethodId) (args : Array Value) (below : List Frame) (meth : Method) (c : Code) (Q : State → Prop) (D : va_G) (A : Nat → Prop) (ad0 : Nat → Nat) (n0 s0 nS : Nat) (f0 f1 : Nat → Int32) (nL pc : Nat) (lo : zO) (st : List Value) (L : zL) (M : zM) : Prop :=
  lo.length = nL → ∀ (ad : Nat → Nat) (cA : Nat → ClassId) (H : Heap) (locs : List Loc) (cells slots : Nat) (ls : Array Slot), z_Wd s R D A ad0 n0 s0 nS f0 f1 ad cA L M H locs cells slots → z_Lo ad ls lo → W p l e R s m args below meth c H locs cells slots Q (F0 m pc ls (st.map (z_v ad)))
def z_ri (i : Instr) (v : Option Value) (rt : Option FieldType) : Prop :=
  (i = .ireturn ∧ ∃ x ty, v = some (.int x) ∧ rt = some ty ∧ narrow ty (.int x) = .int x) ∨ (i = .lreturn ∧ ∃ x, v = some (.long x) ∧ rt = some .long) ∨ (i = .areturn ∧ ∃ q ty, v = some (.ref q) ∧ rt = some ty ∧ ((∃ n, ty = .object n) ∨ ∃ t, ty = .array t)) ∨ (i = .return_ ∧ v = none ∧ rt = none)
def z_T (cc : ByteArray) (rt : Option FieldType) (p : Program) (l : Launch) (e : Env) (R : Room) (s : State) (m : MethodId) (args : Array Value) (below : List Frame) (meth : Method) (c : Code) (Q : State → Prop) (D : va_G) (A : Nat → Prop) (ad0 : Nat → Nat) (n0 s0 nS : Nat) (f0 f1 : Nat → Int32) (v : Option Value) (L : zL) (M : zM) : Prop :=
  ∀ (ad : Nat → Nat) (cA : Nat → ClassId) (H : Heap) (locs : List Loc) (cells slots : Nat) (ls : Array Slot) (pc : Nat) (i : Instr), z_Wd s R D A ad0 n0 s0 nS f0 f1 ad cA L M H locs cells slots → decode cc pc = .ok (i, 1) → z_ri i v rt → W p l e R s m args below meth c H locs cells slots Q (F0 m pc ls (v.toList.map (z_v ad)))
def z_Cx (own : String) (cc : ByteArray) (nL : Nat) (nm : String) (rt : Option FieldType) (fr lc kc ks : Nat) (p : Program) (R : Room) (s : State) (m : MethodId) (args : Array Value) (meth : Method) (c : Code) (D : va_G) (A : Nat → Prop) (ad0 : Nat → Nat) (n0 s0 nS : Nat) (f0 f1 : Nat → Int32) : Prop :=
  p.tables.exec = Jvm.exec ∧ c.code = cc ∧ c.maxLocals = nL ∧ meth.name = nm ∧ meth.sig.returnType = rt ∧ meth.locks = false ∧ s.vm.findClass own = some m.cls ∧ R.frames = fr ∧ R.locals = lc ∧ R.cells + n0 = kc ∧ R.slots + s0 = ks ∧ 2 ≤ n0 ∧ (∀ w ∈ z_Ts, w.before args s = true) ∧ z_En D A (ad0 0) (ad0 1) nS f0 f1 s
def zS (own : String) (cc : ByteArray) (nL : Nat) (nm : String) (rt : Option FieldType) (fr lc kc ks pc npc : Nat) (op : zOp) : Prop :=
  ∀ (p : Program) (l : Launch) (e : Env) (R : Room) (s : State) (m : MethodId) (args : Array Value) (below : List Frame) (meth : Method) (c : Code) (Q : State → Prop) (D : va_G) (A : Nat → Prop) (ad0 : Nat → Nat) (n0 s0 nS : Nat) (f0 f1 : Nat → Int32),
    z_Cx own cc nL nm rt fr lc kc ks p R s m args meth c D A ad0 n0 s0 nS f0 f1 → ∀ (next : zN) (jump : zJ) (ret : zR),
    (∀ lo st L M, next lo st L M → z_K p l e R s m args below meth c Q D A ad0 n0 s0 nS f0 f1 nL npc lo st L M) →
    (∀ t lo st L M, jump t lo st L M → z_K p l e R s m args below meth c Q D A ad0 n0 s0 nS f0 f1 nL t lo st L M) →
    (∀ v L M, ret v L M → z_T cc rt p l e R s m args below meth c Q D A ad0 n0 s0 nS f0 f1 v L M) →
    ∀ lo st L M, op next jump ret lo st L M → z_K p l e R s m args below meth c Q D A ad0 n0 s0 nS f0 f1 nL pc lo st L M
theorem z_Wd.place {s : State} {R : Room} {D : va_G} {A : Nat → Prop} {ad0 : Nat → Nat} {n0 s0 nS : Nat} {f0 f1 : Nat → Int32} {ad : Nat → Nat} {cA : Nat → ClassId} {L : zL} {M : zM} {H : Heap} {locs : List Loc} {cells slots : Nat} (h : z_Wd s R D A ad0 n0 s0 nS f0 f1 ad cA L M H locs cells slots) {p : Nat} {o : (Nat × Nat) ⊕ (Nat × List (Option Value))} (ho : L[p]? = some o) (hk : ∀ n, o ≠ .inl (2, n)) : 2 ≤ p := by
  obtain ⟨-, -, -, -, -, -, z0, z1, -⟩ := h
  rcases (by omega : p = 0 ∨ p = 1 ∨ 2 ≤ p) with e | e | e
  · subst e; rw [z0] at ho; exact absurd (Option.some.inj ho).symm (hk _)
  · subst e; rw [z1] at ho; exact absurd (Option.some.inj ho).symm (hk _)
  · exact e
theorem z_obj_at {L : zL} {p ci : Nat} {fs : List (Option Value)} (h : z_obj L p ci = some fs) : L[p]? = some (.inr (ci, fs)) := by
  unfold z_obj at h
  split at h
  · rename_i o ho
    cases hb : Nat.beq o.1 ci with
    | false => rw [hb] at h; cases h
    | true =>
      rw [hb] at h
      have e := Nat.eq_of_beq_eq_true hb
      cases o
      simp only at e
      subst e
      cases h
      exact ho
  · cases h
theorem z_lenK_at {k : Nat} {L : zL} {p n : Nat} (h : z_lenK k L p = some n) : L[p]? = some (.inl (k, n)) := by
  unfold z_lenK at h
  split at h
  · rename_i o ho
    cases hb : Nat.beq o.1 k with
    | false => rw [hb] at h; cases h
    | true =>
      rw [hb] at h
      have e := Nat.eq_of_beq_eq_true hb
      cases o
      simp only at e
      subst e
      cases h
      exact ho
  · cases h
theorem z_len_at {L : zL} {p n : Nat} (h : z_len L p = some n) : L[p]? = some (.inl (0, n)) ∨ (p < 2 ∧ ∃ k, L[p]? = some (.inl (k, n))) := by
  unfold z_len at h
  split at h
  · rename_i o ho
    cases hb : Nat.beq o.1 0 with
    | true =>
      rw [hb] at h
      have e := Nat.eq_of_beq_eq_true hb
      cases o
      simp only at e
      subst e
      cases h
      exact Or.inl ho
    | false =>
      rw [hb] at h
      cases hb2 : Nat.blt p 2 with
      | false => rw [hb2] at h; cases h
      | true =>
        rw [hb2] at h
        cases h
        exact Or.inr ⟨Nat.blt_eq.mp hb2, o.1, ho⟩
  · cases h
theorem z_K1 {D : va_G} {s : State} (hK : va_K D vwCl [] s) {cA : Nat → ClassId} {L : zL} (hAr : z_Ar s cA L) {p k n : Nat} (h : L[p]? = some (.inl (k, n))) (h2 : 2 ≤ p) : va_K D vwCl [(cA p, z_ty k)] s := by
  refine ⟨hK.1, fun j q hj => ?_⟩
  cases j with
  | zero => cases hj; exact (hAr p k n h h2).2
  | succ j => cases hj

theorem s_mark {own : String} {cc : ByteArray} {nL : Nat} {nm : String} {rt : Option FieldType} {fr lc kc ks pc : Nat} : zS own cc nL nm rt fr lc kc ks pc pc (o_mark pc) := by
  intro p l e R s m args below meth c Q D A ad0 n0 s0 nS f0 f1 hC next jump ret hN hJ hR lo st L M h
  exact hJ _ _ _ _ _ h
theorem s_iconst {own : String} {cc : ByteArray} {nL : Nat} {nm : String} {rt : Option FieldType} {fr lc kc ks pc : Nat} {n : Int} {v : Int32} (hd : decode cc pc = .ok (.iconst n, 1)) (hv : Int32.ofInt n = v) : zS own cc nL nm rt fr lc kc ks pc (pc + 1) (o_ic v) := by
  intro p l e R s m args below meth c Q D A ad0 n0 s0 nS f0 f1 hC next jump ret hN hJ hR lo st L M h hlo ad cA H locs cells slots ls hW hl
  obtain ⟨hx, hb, hml, hnm, hrt, hlk, hown, hfr, hlc, hkc, hks, h2, hts, hns, hK, hZ, ⟨hX0, hb0, hA0⟩, ⟨hX1, hb1, hA1⟩, hA⟩ := hC
  exact lv_iconst hx hb hd hv (hN _ _ _ _ h hlo ad cA H locs cells slots ls hW hl)
theorem s_bipush {own : String} {cc : ByteArray} {nL : Nat} {nm : String} {rt : Option FieldType} {fr lc kc ks pc : Nat} {n : Int} {v : Int32} (hd : decode cc pc = .ok (.bipush n, 2)) (hv : (Int8.ofInt n).toInt32 = v) : zS own cc nL nm rt fr lc kc ks pc (pc + 2) (o_ic v) := by
  intro p l e R s m args below meth c Q D A ad0 n0 s0 nS f0 f1 hC next jump ret hN hJ hR lo st L M h hlo ad cA H locs cells slots ls hW hl
  obtain ⟨hx, hb, hml, hnm, hrt, hlk, hown, hfr, hlc, hkc, hks, h2, hts, hns, hK, hZ, ⟨hX0, hb0, hA0⟩, ⟨hX1, hb1, hA1⟩, hA⟩ := hC
  exact lv_bipush hx hb hd hv (hN _ _ _ _ h hlo ad cA H locs cells slots ls hW hl)
theorem s_sipush {own : String} {cc : ByteArray} {nL : Nat} {nm : String} {rt : Option FieldType} {fr lc kc ks pc : Nat} {n : Int} {v : Int32} (hd : decode cc pc = .ok (.sipush n, 3)) (hv : (Int16.ofInt n).toInt32 = v) : zS own cc nL nm rt fr lc kc ks pc (pc + 3) (o_ic v) := by
  intro p l e R s m args below meth c Q D A ad0 n0 s0 nS f0 f1 hC next jump ret hN hJ hR lo st L M h hlo ad cA H locs cells slots ls hW hl
  obtain ⟨hx, hb, hml, hnm, hrt, hlk, hown, hfr, hlc, hkc, hks, h2, hts, hns, hK, hZ, ⟨hX0, hb0, hA0⟩, ⟨hX1, hb1, hA1⟩, hA⟩ := hC
  exact lv_sipush hx hb hd hv (hN _ _ _ _ h hlo ad cA H locs cells slots ls hW hl)
theorem s_lconst {own : String} {cc : ByteArray} {nL : Nat} {nm : String} {rt : Option FieldType} {fr lc kc ks pc : Nat} {n : Fin 2} {v : Int64} (hd : decode cc pc = .ok (.lconst n, 1)) (hv : Int64.ofNat (n : Nat) = v) : zS own cc nL nm rt fr lc kc ks pc (pc + 1) (o_lc v) := by
  intro p l e R s m args below meth c Q D A ad0 n0 s0 nS f0 f1 hC next jump ret hN hJ hR lo st L M h hlo ad cA H locs cells slots ls hW hl
  obtain ⟨hx, hb, hml, hnm, hrt, hlk, hown, hfr, hlc, hkc, hks, h2, hts, hns, hK, hZ, ⟨hX0, hb0, hA0⟩, ⟨hX1, hb1, hA1⟩, hA⟩ := hC
  exact lv_lconst hx hb hd hv (hN _ _ _ _ h hlo ad cA H locs cells slots ls hW hl)
theorem s_ldc {own : String} {cc : ByteArray} {nL : Nat} {nm : String} {rt : Option FieldType} {fr lc kc ks pc : Nat} {ix : Nat} {v : Int32} (hk : Cond.constant own ix v ∈ z_Ts) (hd : decode cc pc = .ok (.ldc ix, 2)) : zS own cc nL nm rt fr lc kc ks pc (pc + 2) (o_ic v) := by
  intro p l e R s m args below meth c Q D A ad0 n0 s0 nS f0 f1 hC next jump ret hN hJ hR lo st L M h hlo ad cA H locs cells slots ls hW hl
  obtain ⟨hx, hb, hml, hnm, hrt, hlk, hown, hfr, hlc, hkc, hks, h2, hts, hns, hK, hZ, ⟨hX0, hb0, hA0⟩, ⟨hX1, hb1, hA1⟩, hA⟩ := hC
  exact lv_ldc hx hb hown (hts _ hk) hd (hN _ _ _ _ h hlo ad cA H locs cells slots ls hW hl)
theorem s_ldc2 {own : String} {cc : ByteArray} {nL : Nat} {nm : String} {rt : Option FieldType} {fr lc kc ks pc : Nat} {ix : Nat} {v : Int64} (hk : Cond.constantLong own ix v ∈ z_Ts) (hd : decode cc pc = .ok (.ldc2_w ix, 3)) : zS own cc nL nm rt fr lc kc ks pc (pc + 3) (o_lc v) := by
  intro p l e R s m args below meth c Q D A ad0 n0 s0 nS f0 f1 hC next jump ret hN hJ hR lo st L M h hlo ad cA H locs cells slots ls hW hl
  obtain ⟨hx, hb, hml, hnm, hrt, hlk, hown, hfr, hlc, hkc, hks, h2, hts, hns, hK, hZ, ⟨hX0, hb0, hA0⟩, ⟨hX1, hb1, hA1⟩, hA⟩ := hC
  exact lv_ldc2 hx hb hown (hts _ hk) hd (hN _ _ _ _ h hlo ad cA H locs cells slots ls hW hl)
theorem s_iload {own : String} {cc : ByteArray} {nL : Nat} {nm : String} {rt : Option FieldType} {fr lc kc ks pc : Nat} {i : Nat} (hd : decode cc pc = .ok (.iload i, 2)) : zS own cc nL nm rt fr lc kc ks pc (pc + 2) (o_il i) := by
  intro p l e R s m args below meth c Q D A ad0 n0 s0 nS f0 f1 hC next jump ret hN hJ hR lo st L M h hlo ad cA H locs cells slots ls hW hl
  obtain ⟨hx, hb, hml, hnm, hrt, hlk, hown, hfr, hlc, hkc, hks, h2, hts, hns, hK, hZ, ⟨hX0, hb0, hA0⟩, ⟨hX1, hb1, hA1⟩, hA⟩ := hC
  unfold o_il at h
  split at h
  · rename_i x hv
    exact lv_iload hx hb hd (hl.2.2 _ _ hv) (hN _ _ _ _ h hlo ad cA H locs cells slots ls hW hl)
  · exact h.elim
theorem s_iload_n {own : String} {cc : ByteArray} {nL : Nat} {nm : String} {rt : Option FieldType} {fr lc kc ks pc : Nat} {k : Fin 4} {i : Nat} (hd : decode cc pc = .ok (.iload_n k, 1)) (hi : (k : Nat) = i) : zS own cc nL nm rt fr lc kc ks pc (pc + 1) (o_il i) := by
  intro p l e R s m args below meth c Q D A ad0 n0 s0 nS f0 f1 hC next jump ret hN hJ hR lo st L M h hlo ad cA H locs cells slots ls hW hl
  obtain ⟨hx, hb, hml, hnm, hrt, hlk, hown, hfr, hlc, hkc, hks, h2, hts, hns, hK, hZ, ⟨hX0, hb0, hA0⟩, ⟨hX1, hb1, hA1⟩, hA⟩ := hC
  unfold o_il at h
  split at h
  · rename_i x hv
    exact lv_iload_n hx hb hd hi (hl.2.2 _ _ hv) (hN _ _ _ _ h hlo ad cA H locs cells slots ls hW hl)
  · exact h.elim
theorem s_lload {own : String} {cc : ByteArray} {nL : Nat} {nm : String} {rt : Option FieldType} {fr lc kc ks pc : Nat} {i : Nat} (hd : decode cc pc = .ok (.lload i, 2)) : zS own cc nL nm rt fr lc kc ks pc (pc + 2) (o_ll i) := by
  intro p l e R s m args below meth c Q D A ad0 n0 s0 nS f0 f1 hC next jump ret hN hJ hR lo st L M h hlo ad cA H locs cells slots ls hW hl
  obtain ⟨hx, hb, hml, hnm, hrt, hlk, hown, hfr, hlc, hkc, hks, h2, hts, hns, hK, hZ, ⟨hX0, hb0, hA0⟩, ⟨hX1, hb1, hA1⟩, hA⟩ := hC
  unfold o_ll at h
  split at h
  · rename_i x hv
    exact lv_lload hx hb hd (hl.2.2 _ _ hv) (hN _ _ _ _ h hlo ad cA H locs cells slots ls hW hl)
  · exact h.elim
theorem s_lload_n {own : String} {cc : ByteArray} {nL : Nat} {nm : String} {rt : Option FieldType} {fr lc kc ks pc : Nat} {k : Fin 4} {i : Nat} (hd : decode cc pc = .ok (.lload_n k, 1)) (hi : (k : Nat) = i) : zS own cc nL nm rt fr lc kc ks pc (pc + 1) (o_ll i) := by
  intro p l e R s m args below meth c Q D A ad0 n0 s0 nS f0 f1 hC next jump ret hN hJ hR lo st L M h hlo ad cA H locs cells slots ls hW hl
  obtain ⟨hx, hb, hml, hnm, hrt, hlk, hown, hfr, hlc, hkc, hks, h2, hts, hns, hK, hZ, ⟨hX0, hb0, hA0⟩, ⟨hX1, hb1, hA1⟩, hA⟩ := hC
  unfold o_ll at h
  split at h
  · rename_i x hv
    exact lv_lload_n hx hb hd hi (hl.2.2 _ _ hv) (hN _ _ _ _ h hlo ad cA H locs cells slots ls hW hl)
  · exact h.elim
theorem s_aload {own : String} {cc : ByteArray} {nL : Nat} {nm : String} {rt : Option FieldType} {fr lc kc ks pc : Nat} {i : Nat} (hd : decode cc pc = .ok (.aload i, 2)) : zS own cc nL nm rt fr lc kc ks pc (pc + 2) (o_al i) := by
  intro p l e R s m args below meth c Q D A ad0 n0 s0 nS f0 f1 hC next jump ret hN hJ hR lo st L M h hlo ad cA H locs cells slots ls hW hl
  obtain ⟨hx, hb, hml, hnm, hrt, hlk, hown, hfr, hlc, hkc, hks, h2, hts, hns, hK, hZ, ⟨hX0, hb0, hA0⟩, ⟨hX1, hb1, hA1⟩, hA⟩ := hC
  unfold o_al at h
  split at h
  · rename_i x hv
    exact lv_aload hx hb hd (hl.2.2 _ _ hv) (hN _ _ _ _ h hlo ad cA H locs cells slots ls hW hl)
  · exact h.elim
theorem s_aload_n {own : String} {cc : ByteArray} {nL : Nat} {nm : String} {rt : Option FieldType} {fr lc kc ks pc : Nat} {k : Fin 4} {i : Nat} (hd : decode cc pc = .ok (.aload_n k, 1)) (hi : (k : Nat) = i) : zS own cc nL nm rt fr lc kc ks pc (pc + 1) (o_al i) := by
  intro p l e R s m args below meth c Q D A ad0 n0 s0 nS f0 f1 hC next jump ret hN hJ hR lo st L M h hlo ad cA H locs cells slots ls hW hl
  obtain ⟨hx, hb, hml, hnm, hrt, hlk, hown, hfr, hlc, hkc, hks, h2, hts, hns, hK, hZ, ⟨hX0, hb0, hA0⟩, ⟨hX1, hb1, hA1⟩, hA⟩ := hC
  unfold o_al at h
  split at h
  · rename_i x hv
    exact lv_aload_n hx hb hd hi (hl.2.2 _ _ hv) (hN _ _ _ _ h hlo ad cA H locs cells slots ls hW hl)
  · exact h.elim
theorem s_istore {own : String} {cc : ByteArray} {nL : Nat} {nm : String} {rt : Option FieldType} {fr lc kc ks pc : Nat} {i : Nat} (hd : decode cc pc = .ok (.istore i, 2)) : zS own cc nL nm rt fr lc kc ks pc (pc + 2) (o_is i) := by
  intro p l e R s m args below meth c Q D A ad0 n0 s0 nS f0 f1 hC next jump ret hN hJ hR lo st L M h hlo ad cA H locs cells slots ls hW hl
  obtain ⟨hx, hb, hml, hnm, hrt, hlk, hown, hfr, hlc, hkc, hks, h2, hts, hns, hK, hZ, ⟨hX0, hb0, hA0⟩, ⟨hX1, hb1, hA1⟩, hA⟩ := hC
  unfold o_is at h
  split at h
  · rename_i x r
    cases hb9 : (z_n1 lo i && Nat.blt i lo.length) with
    | false => rw [hb9] at h; exact h.elim
    | true =>
      rw [hb9] at h
      obtain ⟨h7, h8⟩ := Bool.and_eq_true_iff.mp hb9
      refine lv_istore hx hb hd (z_Lo_has hl) (Nat.blt_eq.mp h8) rfl (fun ls hl9 => ?_)
      exact hN _ _ _ _ h (by simp [hlo]) ad cA H locs cells slots ls hW (z_Lo_set1 (v := .int x) h7 hl9)
  · exact h.elim
theorem s_istore_n {own : String} {cc : ByteArray} {nL : Nat} {nm : String} {rt : Option FieldType} {fr lc kc ks pc : Nat} {k : Fin 4} {i : Nat} (hd : decode cc pc = .ok (.istore_n k, 1)) (hi : (k : Nat) = i) : zS own cc nL nm rt fr lc kc ks pc (pc + 1) (o_is i) := by
  intro p l e R s m args below meth c Q D A ad0 n0 s0 nS f0 f1 hC next jump ret hN hJ hR lo st L M h hlo ad cA H locs cells slots ls hW hl
  obtain ⟨hx, hb, hml, hnm, hrt, hlk, hown, hfr, hlc, hkc, hks, h2, hts, hns, hK, hZ, ⟨hX0, hb0, hA0⟩, ⟨hX1, hb1, hA1⟩, hA⟩ := hC
  unfold o_is at h
  split at h
  · rename_i x r
    cases hb9 : (z_n1 lo i && Nat.blt i lo.length) with
    | false => rw [hb9] at h; exact h.elim
    | true =>
      rw [hb9] at h
      obtain ⟨h7, h8⟩ := Bool.and_eq_true_iff.mp hb9
      refine lv_istore_n hx hb hd hi (z_Lo_has hl) (Nat.blt_eq.mp h8) rfl (fun ls hl9 => ?_)
      exact hN _ _ _ _ h (by simp [hlo]) ad cA H locs cells slots ls hW (z_Lo_set1 (v := .int x) h7 hl9)
  · exact h.elim
theorem s_lstore {own : String} {cc : ByteArray} {nL : Nat} {nm : String} {rt : Option FieldType} {fr lc kc ks pc : Nat} {i : Nat} (hd : decode cc pc = .ok (.lstore i, 2)) : zS own cc nL nm rt fr lc kc ks pc (pc + 2) (o_ls i) := by
  intro p l e R s m args below meth c Q D A ad0 n0 s0 nS f0 f1 hC next jump ret hN hJ hR lo st L M h hlo ad cA H locs cells slots ls hW hl
  obtain ⟨hx, hb, hml, hnm, hrt, hlk, hown, hfr, hlc, hkc, hks, h2, hts, hns, hK, hZ, ⟨hX0, hb0, hA0⟩, ⟨hX1, hb1, hA1⟩, hA⟩ := hC
  unfold o_ls at h
  split at h
  · rename_i x r
    cases hb9 : (z_n1 lo i && Nat.blt (i + 1) lo.length) with
    | false => rw [hb9] at h; exact h.elim
    | true =>
      rw [hb9] at h
      obtain ⟨h7, h8⟩ := Bool.and_eq_true_iff.mp hb9
      refine lv_lstore hx hb hd (z_Lo_has hl) (Nat.blt_eq.mp h8) rfl (fun ls hl9 => ?_)
      exact hN _ _ _ _ h (by simp [hlo]) ad cA H locs cells slots ls hW (z_Lo_set2 (v := .long x) h7 hl9)
  · exact h.elim
theorem s_lstore_n {own : String} {cc : ByteArray} {nL : Nat} {nm : String} {rt : Option FieldType} {fr lc kc ks pc : Nat} {k : Fin 4} {i : Nat} (hd : decode cc pc = .ok (.lstore_n k, 1)) (hi : (k : Nat) = i) : zS own cc nL nm rt fr lc kc ks pc (pc + 1) (o_ls i) := by
  intro p l e R s m args below meth c Q D A ad0 n0 s0 nS f0 f1 hC next jump ret hN hJ hR lo st L M h hlo ad cA H locs cells slots ls hW hl
  obtain ⟨hx, hb, hml, hnm, hrt, hlk, hown, hfr, hlc, hkc, hks, h2, hts, hns, hK, hZ, ⟨hX0, hb0, hA0⟩, ⟨hX1, hb1, hA1⟩, hA⟩ := hC
  unfold o_ls at h
  split at h
  · rename_i x r
    cases hb9 : (z_n1 lo i && Nat.blt (i + 1) lo.length) with
    | false => rw [hb9] at h; exact h.elim
    | true =>
      rw [hb9] at h
      obtain ⟨h7, h8⟩ := Bool.and_eq_true_iff.mp hb9
      refine lv_lstore_n hx hb hd hi (z_Lo_has hl) (Nat.blt_eq.mp h8) rfl (fun ls hl9 => ?_)
      exact hN _ _ _ _ h (by simp [hlo]) ad cA H locs cells slots ls hW (z_Lo_set2 (v := .long x) h7 hl9)
  · exact h.elim
theorem s_astore {own : String} {cc : ByteArray} {nL : Nat} {nm : String} {rt : Option FieldType} {fr lc kc ks pc : Nat} {i : Nat} (hd : decode cc pc = .ok (.astore i, 2)) : zS own cc nL nm rt fr lc kc ks pc (pc + 2) (o_as i) := by
  intro p l e R s m args below meth c Q D A ad0 n0 s0 nS f0 f1 hC next jump ret hN hJ hR lo st L M h hlo ad cA H locs cells slots ls hW hl
  obtain ⟨hx, hb, hml, hnm, hrt, hlk, hown, hfr, hlc, hkc, hks, h2, hts, hns, hK, hZ, ⟨hX0, hb0, hA0⟩, ⟨hX1, hb1, hA1⟩, hA⟩ := hC
  unfold o_as at h
  split at h
  · rename_i x r
    cases hb9 : (z_n1 lo i && Nat.blt i lo.length) with
    | false => rw [hb9] at h; exact h.elim
    | true =>
      rw [hb9] at h
      obtain ⟨h7, h8⟩ := Bool.and_eq_true_iff.mp hb9
      refine lv_astore hx hb hd (z_Lo_has hl) (Nat.blt_eq.mp h8) rfl (fun ls hl9 => ?_)
      exact hN _ _ _ _ h (by simp [hlo]) ad cA H locs cells slots ls hW (z_Lo_set1 (v := .ref x) h7 hl9)
  · exact h.elim
theorem s_astore_n {own : String} {cc : ByteArray} {nL : Nat} {nm : String} {rt : Option FieldType} {fr lc kc ks pc : Nat} {k : Fin 4} {i : Nat} (hd : decode cc pc = .ok (.astore_n k, 1)) (hi : (k : Nat) = i) : zS own cc nL nm rt fr lc kc ks pc (pc + 1) (o_as i) := by
  intro p l e R s m args below meth c Q D A ad0 n0 s0 nS f0 f1 hC next jump ret hN hJ hR lo st L M h hlo ad cA H locs cells slots ls hW hl
  obtain ⟨hx, hb, hml, hnm, hrt, hlk, hown, hfr, hlc, hkc, hks, h2, hts, hns, hK, hZ, ⟨hX0, hb0, hA0⟩, ⟨hX1, hb1, hA1⟩, hA⟩ := hC
  unfold o_as at h
  split at h
  · rename_i x r
    cases hb9 : (z_n1 lo i && Nat.blt i lo.length) with
    | false => rw [hb9] at h; exact h.elim
    | true =>
      rw [hb9] at h
      obtain ⟨h7, h8⟩ := Bool.and_eq_true_iff.mp hb9
      refine lv_astore_n hx hb hd hi (z_Lo_has hl) (Nat.blt_eq.mp h8) rfl (fun ls hl9 => ?_)
      exact hN _ _ _ _ h (by simp [hlo]) ad cA H locs cells slots ls hW (z_Lo_set1 (v := .ref x) h7 hl9)
  · exact h.elim
theorem s_iinc {own : String} {cc : ByteArray} {nL : Nat} {nm : String} {rt : Option FieldType} {fr lc kc ks pc : Nat} {i : Nat} {n : Int} {v : Int32} (hd : decode cc pc = .ok (.iinc i n, 3)) (hv : Int32.ofInt n = v) : zS own cc nL nm rt fr lc kc ks pc (pc + 3) (o_inc i v) := by
  intro p l e R s m args below meth c Q D A ad0 n0 s0 nS f0 f1 hC next jump ret hN hJ hR lo st L M h hlo ad cA H locs cells slots ls hW hl
  obtain ⟨hx, hb, hml, hnm, hrt, hlk, hown, hfr, hlc, hkc, hks, h2, hts, hns, hK, hZ, ⟨hX0, hb0, hA0⟩, ⟨hX1, hb1, hA1⟩, hA⟩ := hC
  unfold o_inc at h
  split at h
  · rename_i x hx9
    cases hb9 : (z_n1 lo i && Nat.blt i lo.length) with
    | false => rw [hb9] at h; exact h.elim
    | true =>
      rw [hb9] at h
      obtain ⟨h7, h8⟩ := Bool.and_eq_true_iff.mp hb9
      obtain ⟨k, hk⟩ := List.getElem?_of_mem (z_as_mem.mpr ⟨.int x, hx9, rfl⟩ : (i, Value.int x) ∈ z_as ad lo)
      refine lv_iinc (v := x + v) hx hb hd (z_Lo_has hl) hk (by rw [hv]) (Nat.blt_eq.mp h8) rfl (fun ls hl9 => ?_)
      exact hN _ _ _ _ h (by simp [hlo]) ad cA H locs cells slots ls hW (z_Lo_set1 (v := .int (x + v)) h7 hl9)
  · exact h.elim
theorem s_iadd {own : String} {cc : ByteArray} {nL : Nat} {nm : String} {rt : Option FieldType} {fr lc kc ks pc : Nat} (hd : decode cc pc = .ok (.iadd, 1)) : zS own cc nL nm rt fr lc kc ks pc (pc + 1) (o_ii (fun x y => x + y)) := by
  intro p l e R s m args below meth c Q D A ad0 n0 s0 nS f0 f1 hC next jump ret hN hJ hR lo st L M h hlo ad cA H locs cells slots ls hW hl
  obtain ⟨hx, hb, hml, hnm, hrt, hlk, hown, hfr, hlc, hkc, hks, h2, hts, hns, hK, hZ, ⟨hX0, hb0, hA0⟩, ⟨hX1, hb1, hA1⟩, hA⟩ := hC
  unfold o_ii at h
  split at h
  · rename_i y x r
    exact lv_iadd hx hb hd (hN _ _ _ _ h hlo ad cA H locs cells slots ls hW hl)
  · exact h.elim
theorem s_isub {own : String} {cc : ByteArray} {nL : Nat} {nm : String} {rt : Option FieldType} {fr lc kc ks pc : Nat} (hd : decode cc pc = .ok (.isub, 1)) : zS own cc nL nm rt fr lc kc ks pc (pc + 1) (o_ii (fun x y => x - y)) := by
  intro p l e R s m args below meth c Q D A ad0 n0 s0 nS f0 f1 hC next jump ret hN hJ hR lo st L M h hlo ad cA H locs cells slots ls hW hl
  obtain ⟨hx, hb, hml, hnm, hrt, hlk, hown, hfr, hlc, hkc, hks, h2, hts, hns, hK, hZ, ⟨hX0, hb0, hA0⟩, ⟨hX1, hb1, hA1⟩, hA⟩ := hC
  unfold o_ii at h
  split at h
  · rename_i y x r
    exact lv_isub hx hb hd (hN _ _ _ _ h hlo ad cA H locs cells slots ls hW hl)
  · exact h.elim
theorem s_imul {own : String} {cc : ByteArray} {nL : Nat} {nm : String} {rt : Option FieldType} {fr lc kc ks pc : Nat} (hd : decode cc pc = .ok (.imul, 1)) : zS own cc nL nm rt fr lc kc ks pc (pc + 1) (o_ii (fun x y => x * y)) := by
  intro p l e R s m args below meth c Q D A ad0 n0 s0 nS f0 f1 hC next jump ret hN hJ hR lo st L M h hlo ad cA H locs cells slots ls hW hl
  obtain ⟨hx, hb, hml, hnm, hrt, hlk, hown, hfr, hlc, hkc, hks, h2, hts, hns, hK, hZ, ⟨hX0, hb0, hA0⟩, ⟨hX1, hb1, hA1⟩, hA⟩ := hC
  unfold o_ii at h
  split at h
  · rename_i y x r
    exact lv_imul hx hb hd (hN _ _ _ _ h hlo ad cA H locs cells slots ls hW hl)
  · exact h.elim
theorem s_iand {own : String} {cc : ByteArray} {nL : Nat} {nm : String} {rt : Option FieldType} {fr lc kc ks pc : Nat} (hd : decode cc pc = .ok (.iand, 1)) : zS own cc nL nm rt fr lc kc ks pc (pc + 1) (o_ii (fun x y => x &&& y)) := by
  intro p l e R s m args below meth c Q D A ad0 n0 s0 nS f0 f1 hC next jump ret hN hJ hR lo st L M h hlo ad cA H locs cells slots ls hW hl
  obtain ⟨hx, hb, hml, hnm, hrt, hlk, hown, hfr, hlc, hkc, hks, h2, hts, hns, hK, hZ, ⟨hX0, hb0, hA0⟩, ⟨hX1, hb1, hA1⟩, hA⟩ := hC
  unfold o_ii at h
  split at h
  · rename_i y x r
    exact lv_iand hx hb hd (hN _ _ _ _ h hlo ad cA H locs cells slots ls hW hl)
  · exact h.elim
theorem s_ior {own : String} {cc : ByteArray} {nL : Nat} {nm : String} {rt : Option FieldType} {fr lc kc ks pc : Nat} (hd : decode cc pc = .ok (.ior, 1)) : zS own cc nL nm rt fr lc kc ks pc (pc + 1) (o_ii (fun x y => x ||| y)) := by
  intro p l e R s m args below meth c Q D A ad0 n0 s0 nS f0 f1 hC next jump ret hN hJ hR lo st L M h hlo ad cA H locs cells slots ls hW hl
  obtain ⟨hx, hb, hml, hnm, hrt, hlk, hown, hfr, hlc, hkc, hks, h2, hts, hns, hK, hZ, ⟨hX0, hb0, hA0⟩, ⟨hX1, hb1, hA1⟩, hA⟩ := hC
  unfold o_ii at h
  split at h
  · rename_i y x r
    exact lv_ior hx hb hd (hN _ _ _ _ h hlo ad cA H locs cells slots ls hW hl)
  · exact h.elim
theorem s_ixor {own : String} {cc : ByteArray} {nL : Nat} {nm : String} {rt : Option FieldType} {fr lc kc ks pc : Nat} (hd : decode cc pc = .ok (.ixor, 1)) : zS own cc nL nm rt fr lc kc ks pc (pc + 1) (o_ii (fun x y => x ^^^ y)) := by
  intro p l e R s m args below meth c Q D A ad0 n0 s0 nS f0 f1 hC next jump ret hN hJ hR lo st L M h hlo ad cA H locs cells slots ls hW hl
  obtain ⟨hx, hb, hml, hnm, hrt, hlk, hown, hfr, hlc, hkc, hks, h2, hts, hns, hK, hZ, ⟨hX0, hb0, hA0⟩, ⟨hX1, hb1, hA1⟩, hA⟩ := hC
  unfold o_ii at h
  split at h
  · rename_i y x r
    exact lv_ixor hx hb hd (hN _ _ _ _ h hlo ad cA H locs cells slots ls hW hl)
  · exact h.elim
theorem s_ishl {own : String} {cc : ByteArray} {nL : Nat} {nm : String} {rt : Option FieldType} {fr lc kc ks pc : Nat} (hd : decode cc pc = .ok (.ishl, 1)) : zS own cc nL nm rt fr lc kc ks pc (pc + 1) (o_ii (fun x y => x <<< (y &&& 31))) := by
  intro p l e R s m args below meth c Q D A ad0 n0 s0 nS f0 f1 hC next jump ret hN hJ hR lo st L M h hlo ad cA H locs cells slots ls hW hl
  obtain ⟨hx, hb, hml, hnm, hrt, hlk, hown, hfr, hlc, hkc, hks, h2, hts, hns, hK, hZ, ⟨hX0, hb0, hA0⟩, ⟨hX1, hb1, hA1⟩, hA⟩ := hC
  unfold o_ii at h
  split at h
  · rename_i y x r
    exact lv_ishl hx hb hd (hN _ _ _ _ h hlo ad cA H locs cells slots ls hW hl)
  · exact h.elim
theorem s_ishr {own : String} {cc : ByteArray} {nL : Nat} {nm : String} {rt : Option FieldType} {fr lc kc ks pc : Nat} (hd : decode cc pc = .ok (.ishr, 1)) : zS own cc nL nm rt fr lc kc ks pc (pc + 1) (o_ii (fun x y => x >>> (y &&& 31))) := by
  intro p l e R s m args below meth c Q D A ad0 n0 s0 nS f0 f1 hC next jump ret hN hJ hR lo st L M h hlo ad cA H locs cells slots ls hW hl
  obtain ⟨hx, hb, hml, hnm, hrt, hlk, hown, hfr, hlc, hkc, hks, h2, hts, hns, hK, hZ, ⟨hX0, hb0, hA0⟩, ⟨hX1, hb1, hA1⟩, hA⟩ := hC
  unfold o_ii at h
  split at h
  · rename_i y x r
    exact lv_ishr hx hb hd (hN _ _ _ _ h hlo ad cA H locs cells slots ls hW hl)
  · exact h.elim
theorem s_iushr {own : String} {cc : ByteArray} {nL : Nat} {nm : String} {rt : Option FieldType} {fr lc kc ks pc : Nat} (hd : decode cc pc = .ok (.iushr, 1)) : zS own cc nL nm rt fr lc kc ks pc (pc + 1) (o_ii (fun x y => (x.toUInt32 >>> (y.toUInt32 &&& Int32.toUInt32 31)).toInt32)) := by
  intro p l e R s m args below meth c Q D A ad0 n0 s0 nS f0 f1 hC next jump ret hN hJ hR lo st L M h hlo ad cA H locs cells slots ls hW hl
  obtain ⟨hx, hb, hml, hnm, hrt, hlk, hown, hfr, hlc, hkc, hks, h2, hts, hns, hK, hZ, ⟨hX0, hb0, hA0⟩, ⟨hX1, hb1, hA1⟩, hA⟩ := hC
  unfold o_ii at h
  split at h
  · rename_i y x r
    exact lv_iushr hx hb hd rfl (hN _ _ _ _ h hlo ad cA H locs cells slots ls hW hl)
  · exact h.elim
theorem s_idiv {own : String} {cc : ByteArray} {nL : Nat} {nm : String} {rt : Option FieldType} {fr lc kc ks pc : Nat} (hd : decode cc pc = .ok (.idiv, 1)) : zS own cc nL nm rt fr lc kc ks pc (pc + 1) (o_iz (fun x y => x / y)) := by
  intro p l e R s m args below meth c Q D A ad0 n0 s0 nS f0 f1 hC next jump ret hN hJ hR lo st L M h hlo ad cA H locs cells slots ls hW hl
  obtain ⟨hx, hb, hml, hnm, hrt, hlk, hown, hfr, hlc, hkc, hks, h2, hts, hns, hK, hZ, ⟨hX0, hb0, hA0⟩, ⟨hX1, hb1, hA1⟩, hA⟩ := hC
  unfold o_iz at h
  split at h
  · rename_i y x r
    exact lv_idiv hx hb hd h.1 (hN _ _ _ _ h.2 hlo ad cA H locs cells slots ls hW hl)
  · exact h.elim
theorem s_irem {own : String} {cc : ByteArray} {nL : Nat} {nm : String} {rt : Option FieldType} {fr lc kc ks pc : Nat} (hd : decode cc pc = .ok (.irem, 1)) : zS own cc nL nm rt fr lc kc ks pc (pc + 1) (o_iz (fun x y => x - x / y * y)) := by
  intro p l e R s m args below meth c Q D A ad0 n0 s0 nS f0 f1 hC next jump ret hN hJ hR lo st L M h hlo ad cA H locs cells slots ls hW hl
  obtain ⟨hx, hb, hml, hnm, hrt, hlk, hown, hfr, hlc, hkc, hks, h2, hts, hns, hK, hZ, ⟨hX0, hb0, hA0⟩, ⟨hX1, hb1, hA1⟩, hA⟩ := hC
  unfold o_iz at h
  split at h
  · rename_i y x r
    exact lv_irem hx hb hd h.1 (hN _ _ _ _ h.2 hlo ad cA H locs cells slots ls hW hl)
  · exact h.elim
theorem s_ladd {own : String} {cc : ByteArray} {nL : Nat} {nm : String} {rt : Option FieldType} {fr lc kc ks pc : Nat} (hd : decode cc pc = .ok (.ladd, 1)) : zS own cc nL nm rt fr lc kc ks pc (pc + 1) (o_jj (fun x y => x + y)) := by
  intro p l e R s m args below meth c Q D A ad0 n0 s0 nS f0 f1 hC next jump ret hN hJ hR lo st L M h hlo ad cA H locs cells slots ls hW hl
  obtain ⟨hx, hb, hml, hnm, hrt, hlk, hown, hfr, hlc, hkc, hks, h2, hts, hns, hK, hZ, ⟨hX0, hb0, hA0⟩, ⟨hX1, hb1, hA1⟩, hA⟩ := hC
  unfold o_jj at h
  split at h
  · rename_i y x r
    exact lv_ladd hx hb hd (hN _ _ _ _ h hlo ad cA H locs cells slots ls hW hl)
  · exact h.elim
theorem s_lsub {own : String} {cc : ByteArray} {nL : Nat} {nm : String} {rt : Option FieldType} {fr lc kc ks pc : Nat} (hd : decode cc pc = .ok (.lsub, 1)) : zS own cc nL nm rt fr lc kc ks pc (pc + 1) (o_jj (fun x y => x - y)) := by
  intro p l e R s m args below meth c Q D A ad0 n0 s0 nS f0 f1 hC next jump ret hN hJ hR lo st L M h hlo ad cA H locs cells slots ls hW hl
  obtain ⟨hx, hb, hml, hnm, hrt, hlk, hown, hfr, hlc, hkc, hks, h2, hts, hns, hK, hZ, ⟨hX0, hb0, hA0⟩, ⟨hX1, hb1, hA1⟩, hA⟩ := hC
  unfold o_jj at h
  split at h
  · rename_i y x r
    exact lv_lsub hx hb hd (hN _ _ _ _ h hlo ad cA H locs cells slots ls hW hl)
  · exact h.elim
theorem s_lmul {own : String} {cc : ByteArray} {nL : Nat} {nm : String} {rt : Option FieldType} {fr lc kc ks pc : Nat} (hd : decode cc pc = .ok (.lmul, 1)) : zS own cc nL nm rt fr lc kc ks pc (pc + 1) (o_jj (fun x y => x * y)) := by
  intro p l e R s m args below meth c Q D A ad0 n0 s0 nS f0 f1 hC next jump ret hN hJ hR lo st L M h hlo ad cA H locs cells slots ls hW hl
  obtain ⟨hx, hb, hml, hnm, hrt, hlk, hown, hfr, hlc, hkc, hks, h2, hts, hns, hK, hZ, ⟨hX0, hb0, hA0⟩, ⟨hX1, hb1, hA1⟩, hA⟩ := hC
  unfold o_jj at h
  split at h
  · rename_i y x r
    exact lv_lmul hx hb hd (hN _ _ _ _ h hlo ad cA H locs cells slots ls hW hl)
  · exact h.elim
theorem s_land {own : String} {cc : ByteArray} {nL : Nat} {nm : String} {rt : Option FieldType} {fr lc kc ks pc : Nat} (hd : decode cc pc = .ok (.land, 1)) : zS own cc nL nm rt fr lc kc ks pc (pc + 1) (o_jj (fun x y => x &&& y)) := by
  intro p l e R s m args below meth c Q D A ad0 n0 s0 nS f0 f1 hC next jump ret hN hJ hR lo st L M h hlo ad cA H locs cells slots ls hW hl
  obtain ⟨hx, hb, hml, hnm, hrt, hlk, hown, hfr, hlc, hkc, hks, h2, hts, hns, hK, hZ, ⟨hX0, hb0, hA0⟩, ⟨hX1, hb1, hA1⟩, hA⟩ := hC
  unfold o_jj at h
  split at h
  · rename_i y x r
    exact lv_land hx hb hd (hN _ _ _ _ h hlo ad cA H locs cells slots ls hW hl)
  · exact h.elim
theorem s_lor {own : String} {cc : ByteArray} {nL : Nat} {nm : String} {rt : Option FieldType} {fr lc kc ks pc : Nat} (hd : decode cc pc = .ok (.lor, 1)) : zS own cc nL nm rt fr lc kc ks pc (pc + 1) (o_jj (fun x y => x ||| y)) := by
  intro p l e R s m args below meth c Q D A ad0 n0 s0 nS f0 f1 hC next jump ret hN hJ hR lo st L M h hlo ad cA H locs cells slots ls hW hl
  obtain ⟨hx, hb, hml, hnm, hrt, hlk, hown, hfr, hlc, hkc, hks, h2, hts, hns, hK, hZ, ⟨hX0, hb0, hA0⟩, ⟨hX1, hb1, hA1⟩, hA⟩ := hC
  unfold o_jj at h
  split at h
  · rename_i y x r
    exact lv_lor hx hb hd (hN _ _ _ _ h hlo ad cA H locs cells slots ls hW hl)
  · exact h.elim
theorem s_lxor {own : String} {cc : ByteArray} {nL : Nat} {nm : String} {rt : Option FieldType} {fr lc kc ks pc : Nat} (hd : decode cc pc = .ok (.lxor, 1)) : zS own cc nL nm rt fr lc kc ks pc (pc + 1) (o_jj (fun x y => x ^^^ y)) := by
  intro p l e R s m args below meth c Q D A ad0 n0 s0 nS f0 f1 hC next jump ret hN hJ hR lo st L M h hlo ad cA H locs cells slots ls hW hl
  obtain ⟨hx, hb, hml, hnm, hrt, hlk, hown, hfr, hlc, hkc, hks, h2, hts, hns, hK, hZ, ⟨hX0, hb0, hA0⟩, ⟨hX1, hb1, hA1⟩, hA⟩ := hC
  unfold o_jj at h
  split at h
  · rename_i y x r
    exact lv_lxor hx hb hd (hN _ _ _ _ h hlo ad cA H locs cells slots ls hW hl)
  · exact h.elim
theorem s_ldiv {own : String} {cc : ByteArray} {nL : Nat} {nm : String} {rt : Option FieldType} {fr lc kc ks pc : Nat} (hd : decode cc pc = .ok (.ldiv, 1)) : zS own cc nL nm rt fr lc kc ks pc (pc + 1) (o_jz (fun x y => x / y)) := by
  intro p l e R s m args below meth c Q D A ad0 n0 s0 nS f0 f1 hC next jump ret hN hJ hR lo st L M h hlo ad cA H locs cells slots ls hW hl
  obtain ⟨hx, hb, hml, hnm, hrt, hlk, hown, hfr, hlc, hkc, hks, h2, hts, hns, hK, hZ, ⟨hX0, hb0, hA0⟩, ⟨hX1, hb1, hA1⟩, hA⟩ := hC
  unfold o_jz at h
  split at h
  · rename_i y x r
    exact lv_ldiv hx hb hd h.1 (hN _ _ _ _ h.2 hlo ad cA H locs cells slots ls hW hl)
  · exact h.elim
theorem s_lrem {own : String} {cc : ByteArray} {nL : Nat} {nm : String} {rt : Option FieldType} {fr lc kc ks pc : Nat} (hd : decode cc pc = .ok (.lrem, 1)) : zS own cc nL nm rt fr lc kc ks pc (pc + 1) (o_jz (fun x y => x - x / y * y)) := by
  intro p l e R s m args below meth c Q D A ad0 n0 s0 nS f0 f1 hC next jump ret hN hJ hR lo st L M h hlo ad cA H locs cells slots ls hW hl
  obtain ⟨hx, hb, hml, hnm, hrt, hlk, hown, hfr, hlc, hkc, hks, h2, hts, hns, hK, hZ, ⟨hX0, hb0, hA0⟩, ⟨hX1, hb1, hA1⟩, hA⟩ := hC
  unfold o_jz at h
  split at h
  · rename_i y x r
    exact lv_lrem hx hb hd h.1 (hN _ _ _ _ h.2 hlo ad cA H locs cells slots ls hW hl)
  · exact h.elim
theorem s_lushr {own : String} {cc : ByteArray} {nL : Nat} {nm : String} {rt : Option FieldType} {fr lc kc ks pc : Nat} (hd : decode cc pc = .ok (.lushr, 1)) : zS own cc nL nm rt fr lc kc ks pc (pc + 1) (o_js (fun x y => (x.toUInt64 >>> (y.toInt64.toUInt64 &&& Int64.toUInt64 63)).toInt64)) := by
  intro p l e R s m args below meth c Q D A ad0 n0 s0 nS f0 f1 hC next jump ret hN hJ hR lo st L M h hlo ad cA H locs cells slots ls hW hl
  obtain ⟨hx, hb, hml, hnm, hrt, hlk, hown, hfr, hlc, hkc, hks, h2, hts, hns, hK, hZ, ⟨hX0, hb0, hA0⟩, ⟨hX1, hb1, hA1⟩, hA⟩ := hC
  unfold o_js at h
  split at h
  · rename_i y x r
    exact lv_lushr hx hb hd rfl (hN _ _ _ _ h hlo ad cA H locs cells slots ls hW hl)
  · exact h.elim
theorem s_lshl {own : String} {cc : ByteArray} {nL : Nat} {nm : String} {rt : Option FieldType} {fr lc kc ks pc : Nat} (hd : decode cc pc = .ok (.lshl, 1)) : zS own cc nL nm rt fr lc kc ks pc (pc + 1) (o_js (fun x y => x <<< (y.toInt64 &&& 63))) := by
  intro p l e R s m args below meth c Q D A ad0 n0 s0 nS f0 f1 hC next jump ret hN hJ hR lo st L M h hlo ad cA H locs cells slots ls hW hl
  obtain ⟨hx, hb, hml, hnm, hrt, hlk, hown, hfr, hlc, hkc, hks, h2, hts, hns, hK, hZ, ⟨hX0, hb0, hA0⟩, ⟨hX1, hb1, hA1⟩, hA⟩ := hC
  unfold o_js at h
  split at h
  · rename_i y x r
    exact lv_lshl hx hb hd rfl (hN _ _ _ _ h hlo ad cA H locs cells slots ls hW hl)
  · exact h.elim
theorem s_lshr {own : String} {cc : ByteArray} {nL : Nat} {nm : String} {rt : Option FieldType} {fr lc kc ks pc : Nat} (hd : decode cc pc = .ok (.lshr, 1)) : zS own cc nL nm rt fr lc kc ks pc (pc + 1) (o_js (fun x y => x >>> (y.toInt64 &&& 63))) := by
  intro p l e R s m args below meth c Q D A ad0 n0 s0 nS f0 f1 hC next jump ret hN hJ hR lo st L M h hlo ad cA H locs cells slots ls hW hl
  obtain ⟨hx, hb, hml, hnm, hrt, hlk, hown, hfr, hlc, hkc, hks, h2, hts, hns, hK, hZ, ⟨hX0, hb0, hA0⟩, ⟨hX1, hb1, hA1⟩, hA⟩ := hC
  unfold o_js at h
  split at h
  · rename_i y x r
    exact lv_lshr hx hb hd rfl (hN _ _ _ _ h hlo ad cA H locs cells slots ls hW hl)
  · exact h.elim
theorem s_i2b {own : String} {cc : ByteArray} {nL : Nat} {nm : String} {rt : Option FieldType} {fr lc kc ks pc : Nat} (hd : decode cc pc = .ok (.i2b, 1)) : zS own cc nL nm rt fr lc kc ks pc (pc + 1) (o_i1 (fun x => x.toInt8.toInt32)) := by
  intro p l e R s m args below meth c Q D A ad0 n0 s0 nS f0 f1 hC next jump ret hN hJ hR lo st L M h hlo ad cA H locs cells slots ls hW hl
  obtain ⟨hx, hb, hml, hnm, hrt, hlk, hown, hfr, hlc, hkc, hks, h2, hts, hns, hK, hZ, ⟨hX0, hb0, hA0⟩, ⟨hX1, hb1, hA1⟩, hA⟩ := hC
  unfold o_i1 at h
  split at h
  · rename_i x r
    exact lv_i2b hx hb hd rfl (hN _ _ _ _ h hlo ad cA H locs cells slots ls hW hl)
  · exact h.elim
theorem s_i2s {own : String} {cc : ByteArray} {nL : Nat} {nm : String} {rt : Option FieldType} {fr lc kc ks pc : Nat} (hd : decode cc pc = .ok (.i2s, 1)) : zS own cc nL nm rt fr lc kc ks pc (pc + 1) (o_i1 (fun x => x.toInt16.toInt32)) := by
  intro p l e R s m args below meth c Q D A ad0 n0 s0 nS f0 f1 hC next jump ret hN hJ hR lo st L M h hlo ad cA H locs cells slots ls hW hl
  obtain ⟨hx, hb, hml, hnm, hrt, hlk, hown, hfr, hlc, hkc, hks, h2, hts, hns, hK, hZ, ⟨hX0, hb0, hA0⟩, ⟨hX1, hb1, hA1⟩, hA⟩ := hC
  unfold o_i1 at h
  split at h
  · rename_i x r
    exact lv_i2s hx hb hd rfl (hN _ _ _ _ h hlo ad cA H locs cells slots ls hW hl)
  · exact h.elim
theorem s_i2l {own : String} {cc : ByteArray} {nL : Nat} {nm : String} {rt : Option FieldType} {fr lc kc ks pc : Nat} (hd : decode cc pc = .ok (.i2l, 1)) : zS own cc nL nm rt fr lc kc ks pc (pc + 1) (o_i2l) := by
  intro p l e R s m args below meth c Q D A ad0 n0 s0 nS f0 f1 hC next jump ret hN hJ hR lo st L M h hlo ad cA H locs cells slots ls hW hl
  obtain ⟨hx, hb, hml, hnm, hrt, hlk, hown, hfr, hlc, hkc, hks, h2, hts, hns, hK, hZ, ⟨hX0, hb0, hA0⟩, ⟨hX1, hb1, hA1⟩, hA⟩ := hC
  unfold o_i2l at h
  split at h
  · rename_i x r
    exact lv_i2l hx hb hd rfl (hN _ _ _ _ h hlo ad cA H locs cells slots ls hW hl)
  · exact h.elim
theorem s_l2i {own : String} {cc : ByteArray} {nL : Nat} {nm : String} {rt : Option FieldType} {fr lc kc ks pc : Nat} (hd : decode cc pc = .ok (.l2i, 1)) : zS own cc nL nm rt fr lc kc ks pc (pc + 1) (o_l2i) := by
  intro p l e R s m args below meth c Q D A ad0 n0 s0 nS f0 f1 hC next jump ret hN hJ hR lo st L M h hlo ad cA H locs cells slots ls hW hl
  obtain ⟨hx, hb, hml, hnm, hrt, hlk, hown, hfr, hlc, hkc, hks, h2, hts, hns, hK, hZ, ⟨hX0, hb0, hA0⟩, ⟨hX1, hb1, hA1⟩, hA⟩ := hC
  unfold o_l2i at h
  split at h
  · rename_i x r
    exact lv_l2i hx hb hd rfl (hN _ _ _ _ h hlo ad cA H locs cells slots ls hW hl)
  · exact h.elim
theorem s_dup {own : String} {cc : ByteArray} {nL : Nat} {nm : String} {rt : Option FieldType} {fr lc kc ks pc : Nat} (hd : decode cc pc = .ok (.dup, 1)) : zS own cc nL nm rt fr lc kc ks pc (pc + 1) (o_dup) := by
  intro p l e R s m args below meth c Q D A ad0 n0 s0 nS f0 f1 hC next jump ret hN hJ hR lo st L M h hlo ad cA H locs cells slots ls hW hl
  obtain ⟨hx, hb, hml, hnm, hrt, hlk, hown, hfr, hlc, hkc, hks, h2, hts, hns, hK, hZ, ⟨hX0, hb0, hA0⟩, ⟨hX1, hb1, hA1⟩, hA⟩ := hC
  unfold o_dup at h
  split at h
  · rename_i v r
    cases hb9 : Nat.beq v.category 1 with
    | false => rw [hb9] at h; exact h.elim
    | true =>
      rw [hb9] at h
      exact lv_dup hx hb hd (by rw [z_v_cat]; exact Nat.eq_of_beq_eq_true hb9) (hN _ _ _ _ h hlo ad cA H locs cells slots ls hW hl)
  · exact h.elim
theorem s_dup2 {own : String} {cc : ByteArray} {nL : Nat} {nm : String} {rt : Option FieldType} {fr lc kc ks pc : Nat} (hd : decode cc pc = .ok (.dup2, 1)) : zS own cc nL nm rt fr lc kc ks pc (pc + 1) (o_dup2) := by
  intro p l e R s m args below meth c Q D A ad0 n0 s0 nS f0 f1 hC next jump ret hN hJ hR lo st L M h hlo ad cA H locs cells slots ls hW hl
  obtain ⟨hx, hb, hml, hnm, hrt, hlk, hown, hfr, hlc, hkc, hks, h2, hts, hns, hK, hZ, ⟨hX0, hb0, hA0⟩, ⟨hX1, hb1, hA1⟩, hA⟩ := hC
  unfold o_dup2 at h
  split at h
  · rename_i v w r
    cases hb9 : (Nat.beq v.category 1 && Nat.beq w.category 1) with
    | false => rw [hb9] at h; exact h.elim
    | true =>
      rw [hb9] at h
      obtain ⟨h7, h8⟩ := Bool.and_eq_true_iff.mp hb9
      exact lv_dup2_11 hx hb hd (by rw [z_v_cat]; exact Nat.eq_of_beq_eq_true h7) (by rw [z_v_cat]; exact Nat.eq_of_beq_eq_true h8) (hN _ _ _ _ h hlo ad cA H locs cells slots ls hW hl)
  · exact h.elim
theorem s_if_eq {own : String} {cc : ByteArray} {nL : Nat} {nm : String} {rt : Option FieldType} {fr lc kc ks pc : Nat} {off : Int} {t : Nat} (hd : decode cc pc = .ok (.ifCond .eq off, 3)) (ht : (pc : Int) + off = (t : Int)) : zS own cc nL nm rt fr lc kc ks pc (pc + 3) (o_if (fun x => x = 0) t) := by
  intro p l e R s m args below meth c Q D A ad0 n0 s0 nS f0 f1 hC next jump ret hN hJ hR lo st L M h hlo ad cA H locs cells slots ls hW hl
  obtain ⟨hx, hb, hml, hnm, hrt, hlk, hown, hfr, hlc, hkc, hks, h2, hts, hns, hK, hZ, ⟨hX0, hb0, hA0⟩, ⟨hX1, hb1, hA1⟩, hA⟩ := hC
  unfold o_if at h
  split at h
  · rename_i x r
    exact lv_if_eq hx hb hd ht (fun q => hJ _ _ _ _ _ (h.1 q) hlo ad cA H locs cells slots ls hW hl) (fun q => hN _ _ _ _ (h.2 q) hlo ad cA H locs cells slots ls hW hl)
  · exact h.elim
theorem s_icmp_eq {own : String} {cc : ByteArray} {nL : Nat} {nm : String} {rt : Option FieldType} {fr lc kc ks pc : Nat} {off : Int} {t : Nat} (hd : decode cc pc = .ok (.if_icmp .eq off, 3)) (ht : (pc : Int) + off = (t : Int)) : zS own cc nL nm rt fr lc kc ks pc (pc + 3) (o_cmp (fun x y => x = y) t) := by
  intro p l e R s m args below meth c Q D A ad0 n0 s0 nS f0 f1 hC next jump ret hN hJ hR lo st L M h hlo ad cA H locs cells slots ls hW hl
  obtain ⟨hx, hb, hml, hnm, hrt, hlk, hown, hfr, hlc, hkc, hks, h2, hts, hns, hK, hZ, ⟨hX0, hb0, hA0⟩, ⟨hX1, hb1, hA1⟩, hA⟩ := hC
  unfold o_cmp at h
  split at h
  · rename_i y x r
    exact lv_icmp_eq hx hb hd ht (fun q => hJ _ _ _ _ _ (h.1 q) hlo ad cA H locs cells slots ls hW hl) (fun q => hN _ _ _ _ (h.2 q) hlo ad cA H locs cells slots ls hW hl)
  · exact h.elim
theorem s_if_lt {own : String} {cc : ByteArray} {nL : Nat} {nm : String} {rt : Option FieldType} {fr lc kc ks pc : Nat} {off : Int} {t : Nat} (hd : decode cc pc = .ok (.ifCond .lt off, 3)) (ht : (pc : Int) + off = (t : Int)) : zS own cc nL nm rt fr lc kc ks pc (pc + 3) (o_if (fun x => x < 0) t) := by
  intro p l e R s m args below meth c Q D A ad0 n0 s0 nS f0 f1 hC next jump ret hN hJ hR lo st L M h hlo ad cA H locs cells slots ls hW hl
  obtain ⟨hx, hb, hml, hnm, hrt, hlk, hown, hfr, hlc, hkc, hks, h2, hts, hns, hK, hZ, ⟨hX0, hb0, hA0⟩, ⟨hX1, hb1, hA1⟩, hA⟩ := hC
  unfold o_if at h
  split at h
  · rename_i x r
    exact lv_if_lt hx hb hd ht (fun q => hJ _ _ _ _ _ (h.1 q) hlo ad cA H locs cells slots ls hW hl) (fun q => hN _ _ _ _ (h.2 q) hlo ad cA H locs cells slots ls hW hl)
  · exact h.elim
theorem s_icmp_lt {own : String} {cc : ByteArray} {nL : Nat} {nm : String} {rt : Option FieldType} {fr lc kc ks pc : Nat} {off : Int} {t : Nat} (hd : decode cc pc = .ok (.if_icmp .lt off, 3)) (ht : (pc : Int) + off = (t : Int)) : zS own cc nL nm rt fr lc kc ks pc (pc + 3) (o_cmp (fun x y => x < y) t) := by
  intro p l e R s m args below meth c Q D A ad0 n0 s0 nS f0 f1 hC next jump ret hN hJ hR lo st L M h hlo ad cA H locs cells slots ls hW hl
  obtain ⟨hx, hb, hml, hnm, hrt, hlk, hown, hfr, hlc, hkc, hks, h2, hts, hns, hK, hZ, ⟨hX0, hb0, hA0⟩, ⟨hX1, hb1, hA1⟩, hA⟩ := hC
  unfold o_cmp at h
  split at h
  · rename_i y x r
    exact lv_icmp_lt hx hb hd ht (fun q => hJ _ _ _ _ _ (h.1 q) hlo ad cA H locs cells slots ls hW hl) (fun q => hN _ _ _ _ (h.2 q) hlo ad cA H locs cells slots ls hW hl)
  · exact h.elim
theorem s_if_ge {own : String} {cc : ByteArray} {nL : Nat} {nm : String} {rt : Option FieldType} {fr lc kc ks pc : Nat} {off : Int} {t : Nat} (hd : decode cc pc = .ok (.ifCond .ge off, 3)) (ht : (pc : Int) + off = (t : Int)) : zS own cc nL nm rt fr lc kc ks pc (pc + 3) (o_if (fun x => 0 ≤ x) t) := by
  intro p l e R s m args below meth c Q D A ad0 n0 s0 nS f0 f1 hC next jump ret hN hJ hR lo st L M h hlo ad cA H locs cells slots ls hW hl
  obtain ⟨hx, hb, hml, hnm, hrt, hlk, hown, hfr, hlc, hkc, hks, h2, hts, hns, hK, hZ, ⟨hX0, hb0, hA0⟩, ⟨hX1, hb1, hA1⟩, hA⟩ := hC
  unfold o_if at h
  split at h
  · rename_i x r
    exact lv_if_ge hx hb hd ht (fun q => hJ _ _ _ _ _ (h.1 q) hlo ad cA H locs cells slots ls hW hl) (fun q => hN _ _ _ _ (h.2 q) hlo ad cA H locs cells slots ls hW hl)
  · exact h.elim
theorem s_icmp_ge {own : String} {cc : ByteArray} {nL : Nat} {nm : String} {rt : Option FieldType} {fr lc kc ks pc : Nat} {off : Int} {t : Nat} (hd : decode cc pc = .ok (.if_icmp .ge off, 3)) (ht : (pc : Int) + off = (t : Int)) : zS own cc nL nm rt fr lc kc ks pc (pc + 3) (o_cmp (fun x y => y ≤ x) t) := by
  intro p l e R s m args below meth c Q D A ad0 n0 s0 nS f0 f1 hC next jump ret hN hJ hR lo st L M h hlo ad cA H locs cells slots ls hW hl
  obtain ⟨hx, hb, hml, hnm, hrt, hlk, hown, hfr, hlc, hkc, hks, h2, hts, hns, hK, hZ, ⟨hX0, hb0, hA0⟩, ⟨hX1, hb1, hA1⟩, hA⟩ := hC
  unfold o_cmp at h
  split at h
  · rename_i y x r
    exact lv_icmp_ge hx hb hd ht (fun q => hJ _ _ _ _ _ (h.1 q) hlo ad cA H locs cells slots ls hW hl) (fun q => hN _ _ _ _ (h.2 q) hlo ad cA H locs cells slots ls hW hl)
  · exact h.elim
theorem s_if_gt {own : String} {cc : ByteArray} {nL : Nat} {nm : String} {rt : Option FieldType} {fr lc kc ks pc : Nat} {off : Int} {t : Nat} (hd : decode cc pc = .ok (.ifCond .gt off, 3)) (ht : (pc : Int) + off = (t : Int)) : zS own cc nL nm rt fr lc kc ks pc (pc + 3) (o_if (fun x => 0 < x) t) := by
  intro p l e R s m args below meth c Q D A ad0 n0 s0 nS f0 f1 hC next jump ret hN hJ hR lo st L M h hlo ad cA H locs cells slots ls hW hl
  obtain ⟨hx, hb, hml, hnm, hrt, hlk, hown, hfr, hlc, hkc, hks, h2, hts, hns, hK, hZ, ⟨hX0, hb0, hA0⟩, ⟨hX1, hb1, hA1⟩, hA⟩ := hC
  unfold o_if at h
  split at h
  · rename_i x r
    exact lv_if_gt hx hb hd ht (fun q => hJ _ _ _ _ _ (h.1 q) hlo ad cA H locs cells slots ls hW hl) (fun q => hN _ _ _ _ (h.2 q) hlo ad cA H locs cells slots ls hW hl)
  · exact h.elim
theorem s_icmp_gt {own : String} {cc : ByteArray} {nL : Nat} {nm : String} {rt : Option FieldType} {fr lc kc ks pc : Nat} {off : Int} {t : Nat} (hd : decode cc pc = .ok (.if_icmp .gt off, 3)) (ht : (pc : Int) + off = (t : Int)) : zS own cc nL nm rt fr lc kc ks pc (pc + 3) (o_cmp (fun x y => y < x) t) := by
  intro p l e R s m args below meth c Q D A ad0 n0 s0 nS f0 f1 hC next jump ret hN hJ hR lo st L M h hlo ad cA H locs cells slots ls hW hl
  obtain ⟨hx, hb, hml, hnm, hrt, hlk, hown, hfr, hlc, hkc, hks, h2, hts, hns, hK, hZ, ⟨hX0, hb0, hA0⟩, ⟨hX1, hb1, hA1⟩, hA⟩ := hC
  unfold o_cmp at h
  split at h
  · rename_i y x r
    exact lv_icmp_gt hx hb hd ht (fun q => hJ _ _ _ _ _ (h.1 q) hlo ad cA H locs cells slots ls hW hl) (fun q => hN _ _ _ _ (h.2 q) hlo ad cA H locs cells slots ls hW hl)
  · exact h.elim
theorem s_if_le {own : String} {cc : ByteArray} {nL : Nat} {nm : String} {rt : Option FieldType} {fr lc kc ks pc : Nat} {off : Int} {t : Nat} (hd : decode cc pc = .ok (.ifCond .le off, 3)) (ht : (pc : Int) + off = (t : Int)) : zS own cc nL nm rt fr lc kc ks pc (pc + 3) (o_if (fun x => x ≤ 0) t) := by
  intro p l e R s m args below meth c Q D A ad0 n0 s0 nS f0 f1 hC next jump ret hN hJ hR lo st L M h hlo ad cA H locs cells slots ls hW hl
  obtain ⟨hx, hb, hml, hnm, hrt, hlk, hown, hfr, hlc, hkc, hks, h2, hts, hns, hK, hZ, ⟨hX0, hb0, hA0⟩, ⟨hX1, hb1, hA1⟩, hA⟩ := hC
  unfold o_if at h
  split at h
  · rename_i x r
    exact lv_if_le hx hb hd ht (fun q => hJ _ _ _ _ _ (h.1 q) hlo ad cA H locs cells slots ls hW hl) (fun q => hN _ _ _ _ (h.2 q) hlo ad cA H locs cells slots ls hW hl)
  · exact h.elim
theorem s_icmp_le {own : String} {cc : ByteArray} {nL : Nat} {nm : String} {rt : Option FieldType} {fr lc kc ks pc : Nat} {off : Int} {t : Nat} (hd : decode cc pc = .ok (.if_icmp .le off, 3)) (ht : (pc : Int) + off = (t : Int)) : zS own cc nL nm rt fr lc kc ks pc (pc + 3) (o_cmp (fun x y => x ≤ y) t) := by
  intro p l e R s m args below meth c Q D A ad0 n0 s0 nS f0 f1 hC next jump ret hN hJ hR lo st L M h hlo ad cA H locs cells slots ls hW hl
  obtain ⟨hx, hb, hml, hnm, hrt, hlk, hown, hfr, hlc, hkc, hks, h2, hts, hns, hK, hZ, ⟨hX0, hb0, hA0⟩, ⟨hX1, hb1, hA1⟩, hA⟩ := hC
  unfold o_cmp at h
  split at h
  · rename_i y x r
    exact lv_icmp_le hx hb hd ht (fun q => hJ _ _ _ _ _ (h.1 q) hlo ad cA H locs cells slots ls hW hl) (fun q => hN _ _ _ _ (h.2 q) hlo ad cA H locs cells slots ls hW hl)
  · exact h.elim
theorem s_if_ne {own : String} {cc : ByteArray} {nL : Nat} {nm : String} {rt : Option FieldType} {fr lc kc ks pc : Nat} {off : Int} {t : Nat} (hd : decode cc pc = .ok (.ifCond .ne off, 3)) (ht : (pc : Int) + off = (t : Int)) : zS own cc nL nm rt fr lc kc ks pc (pc + 3) (o_in (fun x => x = 0) t) := by
  intro p l e R s m args below meth c Q D A ad0 n0 s0 nS f0 f1 hC next jump ret hN hJ hR lo st L M h hlo ad cA H locs cells slots ls hW hl
  obtain ⟨hx, hb, hml, hnm, hrt, hlk, hown, hfr, hlc, hkc, hks, h2, hts, hns, hK, hZ, ⟨hX0, hb0, hA0⟩, ⟨hX1, hb1, hA1⟩, hA⟩ := hC
  unfold o_in at h
  split at h
  · rename_i x r
    exact lv_if_ne hx hb hd ht (fun q => hJ _ _ _ _ _ (h.2 q) hlo ad cA H locs cells slots ls hW hl) (fun q => hN _ _ _ _ (h.1 q) hlo ad cA H locs cells slots ls hW hl)
  · exact h.elim
theorem s_icmp_ne {own : String} {cc : ByteArray} {nL : Nat} {nm : String} {rt : Option FieldType} {fr lc kc ks pc : Nat} {off : Int} {t : Nat} (hd : decode cc pc = .ok (.if_icmp .ne off, 3)) (ht : (pc : Int) + off = (t : Int)) : zS own cc nL nm rt fr lc kc ks pc (pc + 3) (o_cn (fun x y => x = y) t) := by
  intro p l e R s m args below meth c Q D A ad0 n0 s0 nS f0 f1 hC next jump ret hN hJ hR lo st L M h hlo ad cA H locs cells slots ls hW hl
  obtain ⟨hx, hb, hml, hnm, hrt, hlk, hown, hfr, hlc, hkc, hks, h2, hts, hns, hK, hZ, ⟨hX0, hb0, hA0⟩, ⟨hX1, hb1, hA1⟩, hA⟩ := hC
  unfold o_cn at h
  split at h
  · rename_i y x r
    exact lv_icmp_ne hx hb hd ht (fun q => hJ _ _ _ _ _ (h.2 q) hlo ad cA H locs cells slots ls hW hl) (fun q => hN _ _ _ _ (h.1 q) hlo ad cA H locs cells slots ls hW hl)
  · exact h.elim
theorem s_goto {own : String} {cc : ByteArray} {nL : Nat} {nm : String} {rt : Option FieldType} {fr lc kc ks pc : Nat} {off : Int} {t : Nat} (hd : decode cc pc = .ok (.goto off, 3)) (ht : (pc : Int) + off = (t : Int)) : zS own cc nL nm rt fr lc kc ks pc (pc + 3) (o_go t) := by
  intro p l e R s m args below meth c Q D A ad0 n0 s0 nS f0 f1 hC next jump ret hN hJ hR lo st L M h hlo ad cA H locs cells slots ls hW hl
  obtain ⟨hx, hb, hml, hnm, hrt, hlk, hown, hfr, hlc, hkc, hks, h2, hts, hns, hK, hZ, ⟨hX0, hb0, hA0⟩, ⟨hX1, hb1, hA1⟩, hA⟩ := hC
  exact lv_goto hx hb hd ht (hJ _ _ _ _ _ h hlo ad cA H locs cells slots ls hW hl)
theorem s_lcmp {own : String} {cc : ByteArray} {nL : Nat} {nm : String} {rt : Option FieldType} {fr lc kc ks pc : Nat} (hd : decode cc pc = .ok (.lcmp, 1)) : zS own cc nL nm rt fr lc kc ks pc (pc + 1) (o_jc lg_cmp) := by
  intro p l e R s m args below meth c Q D A ad0 n0 s0 nS f0 f1 hC next jump ret hN hJ hR lo st L M h hlo ad cA H locs cells slots ls hW hl
  obtain ⟨hx, hb, hml, hnm, hrt, hlk, hown, hfr, hlc, hkc, hks, h2, hts, hns, hK, hZ, ⟨hX0, hb0, hA0⟩, ⟨hX1, hb1, hA1⟩, hA⟩ := hC
  unfold o_jc at h
  split at h
  · rename_i y x r
    exact W.lcmp hx hb hd (hN _ _ _ _ h hlo ad cA H locs cells slots ls hW hl)
  · exact h.elim
theorem s_tsw {own : String} {cc : ByteArray} {nL : Nat} {nm : String} {rt : Option FieldType} {fr lc kc ks pc : Nat} {ln npc : Nat} {lw dflt hi : Int} {offs : Array Int} {ts : List Nat} {d : Nat} (hd : decode cc pc = .ok (.tableswitch dflt lw hi offs, ln)) (hh : hi + 1 = lw + ts.length) (hdf : (pc : Int) + dflt = (d : Int)) (hof : offs.toList = ts.map (fun (t : Nat) => ((t : Int) - (pc : Int)))) : zS own cc nL nm rt fr lc kc ks pc npc (o_sw lw ts d) := by
  intro p l e R s m args below meth c Q D A ad0 n0 s0 nS f0 f1 hC next jump ret hN hJ hR lo st L M h hlo ad cA H locs cells slots ls hW hl
  obtain ⟨hx, hb, hml, hnm, hrt, hlk, hown, hfr, hlc, hkc, hks, h2, hts, hns, hK, hZ, ⟨hX0, hb0, hA0⟩, ⟨hX1, hb1, hA1⟩, hA⟩ := hC
  unfold o_sw at h
  split at h
  · rename_i x r
    by_cases h1 : x.toInt < lw ∨ hi < x.toInt
    · exact lv_tableOut hx hb hd h1 hdf (hJ _ _ _ _ _ (h.1 (by omega)) hlo ad cA H locs cells slots ls hW hl)
    · have h3 : ¬ x.toInt < lw := fun q => h1 (Or.inl q)
      have h4 : ¬ hi < x.toInt := fun q => h1 (Or.inr q)
      have hk : (x.toInt - lw).toNat < ts.length := by omega
      have ht : ts[(x.toInt - lw).toNat]? = some ts[(x.toInt - lw).toNat] := List.getElem?_eq_getElem hk
      have ho : offs[(x.toInt - lw).toNat]? = some ((ts[(x.toInt - lw).toNat] : Int) - pc) := by
        rw [← Array.getElem?_toList, hof, List.getElem?_map, ht]
        rfl
      exact lv_tableIn hx hb hd h3 h4 ho (by omega) (hJ _ _ _ _ _ (h.2 _ _ ht (by omega)) hlo ad cA H locs cells slots ls hW hl)
  · exact h.elim
theorem s_getf {own : String} {cc : ByteArray} {nL : Nat} {nm : String} {rt : Option FieldType} {fr lc kc ks pc : Nat} {ci k ix N : Nat} {C : String} {T : u_T} (hcl : vwCl[ci]? = some (C, T, N)) (hin : ∀ w ∈ u_ws C T N, w ∈ z_Ts) (hk : k < N) (hl0 : Cond.fieldLink own ix (T k).1 (T k).2.1 (T k).2.2.1 ∈ z_Ts) (hd : decode cc pc = .ok (.getfield ix, 3)) : zS own cc nL nm rt fr lc kc ks pc (pc + 3) (o_gf ci k) := by
  intro p l e R s m args below meth c Q D A ad0 n0 s0 nS f0 f1 hC next jump ret hN hJ hR lo st L M h hlo ad cA H locs cells slots ls hW hl
  obtain ⟨hx, hb, hml, hnm, hrt, hlk, hown, hfr, hlc, hkc, hks, h2, hts, hns, hK, hZ, ⟨hX0, hb0, hA0⟩, ⟨hX1, hb1, hA1⟩, hA⟩ := hC
  unfold o_gf at h
  split at h
  · rename_i q r
    split at h
    · rename_i fs ho
      have hL := z_obj_at ho
      have hq := hW.place hL (fun n hn => by cases hn)
      split at h
      · rename_i hf
        exact va_get (v := .int (M q k)) hx hb hts hin hown hK hW.1 (q - 2) (z_ws_at hq hL) hcl k hk (hts _ hl0) (fun _ h9 => h9) (by rw [z_f_at, hf]; rfl) hd (hN _ _ _ _ h hlo ad cA H locs cells slots ls hW hl)
      · rename_i v hf
        exact va_get (v := z_v ad v) hx hb hts hin hown hK hW.1 (q - 2) (z_ws_at hq hL) hcl k hk (hts _ hl0) (fun _ h9 => h9) (by rw [z_f_at, hf]; rfl) hd (hN _ _ _ _ h hlo ad cA H locs cells slots ls hW hl)
      · exact h.elim
    · exact h.elim
  · exact h.elim
theorem s_getfN {own : String} {cc : ByteArray} {nL : Nat} {nm : String} {rt : Option FieldType} {fr lc kc ks pc : Nat} {ci k ix N : Nat} {C : String} {T : u_T} (hcl : vwCl[ci]? = some (C, T, N)) (hin : ∀ w ∈ u_ws C T N, w ∈ z_Ts) (hk : k < N) {host : String} (hl0 : Cond.fieldLinkNest own ix (T k).1 (T k).2.1 (T k).2.2.1 host ∈ z_Ns) (hd : decode cc pc = .ok (.getfield ix, 3)) : zS own cc nL nm rt fr lc kc ks pc (pc + 3) (o_gf ci k) := by
  intro p l e R s m args below meth c Q D A ad0 n0 s0 nS f0 f1 hC next jump ret hN hJ hR lo st L M h hlo ad cA H locs cells slots ls hW hl
  obtain ⟨hx, hb, hml, hnm, hrt, hlk, hown, hfr, hlc, hkc, hks, h2, hts, hns, hK, hZ, ⟨hX0, hb0, hA0⟩, ⟨hX1, hb1, hA1⟩, hA⟩ := hC
  unfold o_gf at h
  split at h
  · rename_i q r
    split at h
    · rename_i fs ho
      have hL := z_obj_at ho
      have hq := hW.place hL (fun n hn => by cases hn)
      split at h
      · rename_i hf
        exact va_getN (v := .int (M q k)) hx hb hts hin hown hK hW.1 (q - 2) (z_ws_at hq hL) hcl k hk (va_Nw.use rfl (hns _ hl0)) (fun _ h9 => h9) (by rw [z_f_at, hf]; rfl) hd (hN _ _ _ _ h hlo ad cA H locs cells slots ls hW hl)
      · rename_i v hf
        exact va_getN (v := z_v ad v) hx hb hts hin hown hK hW.1 (q - 2) (z_ws_at hq hL) hcl k hk (va_Nw.use rfl (hns _ hl0)) (fun _ h9 => h9) (by rw [z_f_at, hf]; rfl) hd (hN _ _ _ _ h hlo ad cA H locs cells slots ls hW hl)
      · exact h.elim
    · exact h.elim
  · exact h.elim
theorem z_Wd.mem {s : State} {R : Room} {D : va_G} {A : Nat → Prop} {ad0 : Nat → Nat} {n0 s0 nS : Nat} {f0 f1 : Nat → Int32} {ad : Nat → Nat} {cA : Nat → ClassId} {L : zL} {M M1 : zM} {H H1 : Heap} {locs locs1 : List Loc} {cells slots : Nat} (h : z_Wd s R D A ad0 n0 s0 nS f0 f1 ad cA L M H locs cells slots) (hP : va_P D vwCl (z_ws ad cA L M1) H1) (hD : va_D A (z_ws ad cA L M1)) (hS : va_S A s.heap H1 locs1) (h0 : M1 0 = M 0) (h1 : M1 1 = M 1) : z_Wd s R D A ad0 n0 s0 nS f0 f1 ad cA L M1 H1 locs1 cells slots := by
  obtain ⟨-, -, -, h4, h5, h6, z0, z1, z2, z3⟩ := h
  exact ⟨hP, hD, hS, h4, h5, h6, z0, z1, h0.trans z2, h1.trans z3⟩
theorem z_up0 {M : zM} {p : Nat} {f : Nat → Int32} (h : 2 ≤ p) : va_up M p f 0 = M 0 := by
  have : (0 : Nat) ≠ p := by omega
  simp [va_up, this]
theorem z_up1 {M : zM} {p : Nat} {f : Nat → Int32} (h : 2 ≤ p) : va_up M p f 1 = M 1 := by
  have : (1 : Nat) ≠ p := by omega
  simp [va_up, this]
theorem z_Wd.lay {s : State} {R : Room} {D : va_G} {A : Nat → Prop} {ad0 : Nat → Nat} {n0 s0 nS : Nat} {f0 f1 : Nat → Int32} {ad : Nat → Nat} {cA : Nat → ClassId} {L : zL} {M : zM} {H H1 : Heap} {locs locs1 : List Loc} {cells slots : Nat} (h : z_Wd s R D A ad0 n0 s0 nS f0 f1 ad cA L M H locs cells slots) {p ci : Nat} {fs fs' : List (Option Value)} (hp : L[p]? = some (.inr (ci, fs))) (hfs : fs'.length = fs.length) (hP : va_P D vwCl (z_ws ad cA (L.set p (.inr (ci, fs'))) M) H1) (hD : va_D A (z_ws ad cA (L.set p (.inr (ci, fs'))) M)) (hS : va_S A s.heap H1 locs1) : z_Wd s R D A ad0 n0 s0 nS f0 f1 ad cA (L.set p (.inr (ci, fs'))) M H1 locs1 cells slots := by
  have h2 := h.place hp (fun n hn => by cases hn)
  obtain ⟨-, -, -, h4, h5, h6, z0, z1, z2, z3⟩ := h
  refine ⟨hP, hD, hS, fun q k n hq h9 => ?_, fun q hq => h5 q (by rw [List.length_set] at hq; exact hq), ⟨by rw [List.length_set]; exact h6.1, by rw [z_sz_set hp hfs]; exact h6.2.1, h6.2.2⟩, ?_, ?_, z2, z3⟩
  · rw [List.getElem?_set] at hq
    by_cases e : p = q
    · rw [if_pos e] at hq
      split at hq <;> cases hq
    · rw [if_neg e] at hq
      exact h4 q k n hq h9
  · rw [List.getElem?_set, if_neg (by omega)]; exact z0
  · rw [List.getElem?_set, if_neg (by omega)]; exact z1
theorem s_putI {own : String} {cc : ByteArray} {nL : Nat} {nm : String} {rt : Option FieldType} {fr lc kc ks pc : Nat} {ci k ix N : Nat} {C : String} {T : u_T} (hcl : vwCl[ci]? = some (C, T, N)) (hin : ∀ w ∈ u_ws C T N, w ∈ z_Ts) (hk : k < N) (ty0 : Nat → FieldType) (hty : ∀ k, k < N → parseFieldDescriptor (T k).2.2.1 = some (ty0 k)) (hdis : ∀ a, a < N → ∀ b, b < N → a ≠ b → (T a).2.1 ≠ (T b).2.1) (hl0 : Cond.fieldLink own ix (T k).1 (T k).2.1 (T k).2.2.1 ∈ z_Ts) (hfin : (T k).2.2.2 = false) (hpd : parseFieldDescriptor (T k).2.2.1 = some .int) (hd : decode cc pc = .ok (.putfield ix, 3)) : zS own cc nL nm rt fr lc kc ks pc (pc + 3) (o_pi ci k) := by
  intro p l e R s m args below meth c Q D A ad0 n0 s0 nS f0 f1 hC next jump ret hN hJ hR lo st L M h hlo ad cA H locs cells slots ls hW hl
  obtain ⟨hx, hb, hml, hnm, hrt, hlk, hown, hfr, hlc, hkc, hks, h2, hts, hns, hK, hZ, ⟨hX0, hb0, hA0⟩, ⟨hX1, hb1, hA1⟩, hA⟩ := hC
  unfold o_pi at h
  split at h
  · rename_i x q r
    split at h
    · rename_i fs ho
      have hL := z_obj_at ho
      have hq := hW.place hL (fun n hn => by cases hn)
      split at h
      · rename_i hf
        refine va_put (v := .int x) hx hb hts hin ty0 hty hdis hown hK hW.1 hW.2.1 hW.2.2.1 (q - 2) (z_ws_at hq hL) hcl k hk (hts _ hl0) (fun _ h9 => h9) hfin hpd rfl rfl (by rw [z_f_len]; exact (List.getElem?_eq_some_iff.mp hf).1) hd (fun H1 locs1 hP hD hS => ?_)
        rw [z_ws_fi hq hL hf x] at hP hD
        exact hN _ _ _ _ h hlo ad cA H1 locs1 cells slots ls (hW.mem hP hD hS (z_up0 hq) (z_up1 hq)) hl
      · exact h.elim
    · exact h.elim
  · exact h.elim
theorem s_putZ {own : String} {cc : ByteArray} {nL : Nat} {nm : String} {rt : Option FieldType} {fr lc kc ks pc : Nat} {ci k ix N : Nat} {C : String} {T : u_T} (hcl : vwCl[ci]? = some (C, T, N)) (hin : ∀ w ∈ u_ws C T N, w ∈ z_Ts) (hk : k < N) (ty0 : Nat → FieldType) (hty : ∀ k, k < N → parseFieldDescriptor (T k).2.2.1 = some (ty0 k)) (hdis : ∀ a, a < N → ∀ b, b < N → a ≠ b → (T a).2.1 ≠ (T b).2.1) (hl0 : Cond.fieldLink own ix (T k).1 (T k).2.1 (T k).2.2.1 ∈ z_Ts) (hfin : (T k).2.2.2 = false) (hpd : parseFieldDescriptor (T k).2.2.1 = some .boolean) (hd : decode cc pc = .ok (.putfield ix, 3)) : zS own cc nL nm rt fr lc kc ks pc (pc + 3) (o_pz ci k) := by
  intro p l e R s m args below meth c Q D A ad0 n0 s0 nS f0 f1 hC next jump ret hN hJ hR lo st L M h hlo ad cA H locs cells slots ls hW hl
  obtain ⟨hx, hb, hml, hnm, hrt, hlk, hown, hfr, hlc, hkc, hks, h2, hts, hns, hK, hZ, ⟨hX0, hb0, hA0⟩, ⟨hX1, hb1, hA1⟩, hA⟩ := hC
  unfold o_pz at h
  split at h
  · rename_i x q r
    split at h
    · rename_i fs ho
      have hL := z_obj_at ho
      have hq := hW.place hL (fun n hn => by cases hn)
      split at h
      · rename_i hf
        refine va_put (v := .int x) hx hb hts hin ty0 hty hdis hown hK hW.1 hW.2.1 hW.2.2.1 (q - 2) (z_ws_at hq hL) hcl k hk (hts _ hl0) (fun _ h9 => h9) hfin hpd h.1.1 h.1.2 (by rw [z_f_len]; exact (List.getElem?_eq_some_iff.mp hf).1) hd (fun H1 locs1 hP hD hS => ?_)
        rw [z_ws_fi hq hL hf x] at hP hD
        exact hN _ _ _ _ h.2 hlo ad cA H1 locs1 cells slots ls (hW.mem hP hD hS (z_up0 hq) (z_up1 hq)) hl
      · exact h.elim
    · exact h.elim
  · exact h.elim
theorem s_putR {own : String} {cc : ByteArray} {nL : Nat} {nm : String} {rt : Option FieldType} {fr lc kc ks pc : Nat} {ci k ix N : Nat} {C : String} {T : u_T} (hcl : vwCl[ci]? = some (C, T, N)) (hin : ∀ w ∈ u_ws C T N, w ∈ z_Ts) (hk : k < N) (ty0 : Nat → FieldType) (hty : ∀ k, k < N → parseFieldDescriptor (T k).2.2.1 = some (ty0 k)) (hdis : ∀ a, a < N → ∀ b, b < N → a ≠ b → (T a).2.1 ≠ (T b).2.1) (hl0 : Cond.fieldLink own ix (T k).1 (T k).2.1 (T k).2.2.1 ∈ z_Ts) (hfin : (T k).2.2.2 = false) {ty : FieldType} (hpd : parseFieldDescriptor (T k).2.2.1 = some ty) (hnr : ∀ q, narrow ty (.ref q) = .ref q ∧ fits ty (.ref q) = true) (hd : decode cc pc = .ok (.putfield ix, 3)) : zS own cc nL nm rt fr lc kc ks pc (pc + 3) (o_pr ci k) := by
  intro p l e R s m args below meth c Q D A ad0 n0 s0 nS f0 f1 hC next jump ret hN hJ hR lo st L M h hlo ad cA H locs cells slots ls hW hl
  obtain ⟨hx, hb, hml, hnm, hrt, hlk, hown, hfr, hlc, hkc, hks, h2, hts, hns, hK, hZ, ⟨hX0, hb0, hA0⟩, ⟨hX1, hb1, hA1⟩, hA⟩ := hC
  unfold o_pr at h
  split at h
  · rename_i x q r
    split at h
    · rename_i fs ho
      have hL := z_obj_at ho
      have hq := hW.place hL (fun n hn => by cases hn)
      split at h
      · rename_i w hf
        cases hb9 : Nat.blt q 2 with
        | true => rw [hb9] at h; exact h.elim
        | false =>
          rw [hb9] at h
          refine va_put (v := .ref (ad x)) hx hb hts hin ty0 hty hdis hown hK hW.1 hW.2.1 hW.2.2.1 (q - 2) (z_ws_at hq hL) hcl k hk (hts _ hl0) (fun _ h9 => h9) hfin hpd (hnr _).1 (hnr _).2 (by rw [z_f_len]; exact (List.getElem?_eq_some_iff.mp hf).1) hd (fun H1 locs1 hP hD hS => ?_)
          rw [show Value.ref (ad x) = z_v ad (.ref x) from rfl, z_ws_fr hq hL hf (.ref x)] at hP hD
          exact hN _ _ _ _ h hlo ad cA H1 locs1 cells slots ls (hW.lay hL (by simp) hP hD hS) hl
      · exact h.elim
    · exact h.elim
  · exact h.elim
theorem s_putIN {own : String} {cc : ByteArray} {nL : Nat} {nm : String} {rt : Option FieldType} {fr lc kc ks pc : Nat} {ci k ix N : Nat} {C : String} {T : u_T} (hcl : vwCl[ci]? = some (C, T, N)) (hin : ∀ w ∈ u_ws C T N, w ∈ z_Ts) (hk : k < N) (ty0 : Nat → FieldType) (hty : ∀ k, k < N → parseFieldDescriptor (T k).2.2.1 = some (ty0 k)) (hdis : ∀ a, a < N → ∀ b, b < N → a ≠ b → (T a).2.1 ≠ (T b).2.1) {host : String} (hl0 : Cond.fieldLinkNest own ix (T k).1 (T k).2.1 (T k).2.2.1 host ∈ z_Ns) (hfin : (T k).2.2.2 = false) (hpd : parseFieldDescriptor (T k).2.2.1 = some .int) (hd : decode cc pc = .ok (.putfield ix, 3)) : zS own cc nL nm rt fr lc kc ks pc (pc + 3) (o_pi ci k) := by
  intro p l e R s m args below meth c Q D A ad0 n0 s0 nS f0 f1 hC next jump ret hN hJ hR lo st L M h hlo ad cA H locs cells slots ls hW hl
  obtain ⟨hx, hb, hml, hnm, hrt, hlk, hown, hfr, hlc, hkc, hks, h2, hts, hns, hK, hZ, ⟨hX0, hb0, hA0⟩, ⟨hX1, hb1, hA1⟩, hA⟩ := hC
  unfold o_pi at h
  split at h
  · rename_i x q r
    split at h
    · rename_i fs ho
      have hL := z_obj_at ho
      have hq := hW.place hL (fun n hn => by cases hn)
      split at h
      · rename_i hf
        refine va_putN (v := .int x) hx hb hts hin ty0 hty hdis hown hK hW.1 hW.2.1 hW.2.2.1 (q - 2) (z_ws_at hq hL) hcl k hk (va_Nw.use rfl (hns _ hl0)) (fun _ h9 => h9) hfin hpd rfl rfl (by rw [z_f_len]; exact (List.getElem?_eq_some_iff.mp hf).1) hd (fun H1 locs1 hP hD hS => ?_)
        rw [z_ws_fi hq hL hf x] at hP hD
        exact hN _ _ _ _ h hlo ad cA H1 locs1 cells slots ls (hW.mem hP hD hS (z_up0 hq) (z_up1 hq)) hl
      · exact h.elim
    · exact h.elim
  · exact h.elim
theorem s_putZN {own : String} {cc : ByteArray} {nL : Nat} {nm : String} {rt : Option FieldType} {fr lc kc ks pc : Nat} {ci k ix N : Nat} {C : String} {T : u_T} (hcl : vwCl[ci]? = some (C, T, N)) (hin : ∀ w ∈ u_ws C T N, w ∈ z_Ts) (hk : k < N) (ty0 : Nat → FieldType) (hty : ∀ k, k < N → parseFieldDescriptor (T k).2.2.1 = some (ty0 k)) (hdis : ∀ a, a < N → ∀ b, b < N → a ≠ b → (T a).2.1 ≠ (T b).2.1) {host : String} (hl0 : Cond.fieldLinkNest own ix (T k).1 (T k).2.1 (T k).2.2.1 host ∈ z_Ns) (hfin : (T k).2.2.2 = false) (hpd : parseFieldDescriptor (T k).2.2.1 = some .boolean) (hd : decode cc pc = .ok (.putfield ix, 3)) : zS own cc nL nm rt fr lc kc ks pc (pc + 3) (o_pz ci k) := by
  intro p l e R s m args below meth c Q D A ad0 n0 s0 nS f0 f1 hC next jump ret hN hJ hR lo st L M h hlo ad cA H locs cells slots ls hW hl
  obtain ⟨hx, hb, hml, hnm, hrt, hlk, hown, hfr, hlc, hkc, hks, h2, hts, hns, hK, hZ, ⟨hX0, hb0, hA0⟩, ⟨hX1, hb1, hA1⟩, hA⟩ := hC
  unfold o_pz at h
  split at h
  · rename_i x q r
    split at h
    · rename_i fs ho
      have hL := z_obj_at ho
      have hq := hW.place hL (fun n hn => by cases hn)
      split at h
      · rename_i hf
        refine va_putN (v := .int x) hx hb hts hin ty0 hty hdis hown hK hW.1 hW.2.1 hW.2.2.1 (q - 2) (z_ws_at hq hL) hcl k hk (va_Nw.use rfl (hns _ hl0)) (fun _ h9 => h9) hfin hpd h.1.1 h.1.2 (by rw [z_f_len]; exact (List.getElem?_eq_some_iff.mp hf).1) hd (fun H1 locs1 hP hD hS => ?_)
        rw [z_ws_fi hq hL hf x] at hP hD
        exact hN _ _ _ _ h.2 hlo ad cA H1 locs1 cells slots ls (hW.mem hP hD hS (z_up0 hq) (z_up1 hq)) hl
      · exact h.elim
    · exact h.elim
  · exact h.elim
theorem s_putRN {own : String} {cc : ByteArray} {nL : Nat} {nm : String} {rt : Option FieldType} {fr lc kc ks pc : Nat} {ci k ix N : Nat} {C : String} {T : u_T} (hcl : vwCl[ci]? = some (C, T, N)) (hin : ∀ w ∈ u_ws C T N, w ∈ z_Ts) (hk : k < N) (ty0 : Nat → FieldType) (hty : ∀ k, k < N → parseFieldDescriptor (T k).2.2.1 = some (ty0 k)) (hdis : ∀ a, a < N → ∀ b, b < N → a ≠ b → (T a).2.1 ≠ (T b).2.1) {host : String} (hl0 : Cond.fieldLinkNest own ix (T k).1 (T k).2.1 (T k).2.2.1 host ∈ z_Ns) (hfin : (T k).2.2.2 = false) {ty : FieldType} (hpd : parseFieldDescriptor (T k).2.2.1 = some ty) (hnr : ∀ q, narrow ty (.ref q) = .ref q ∧ fits ty (.ref q) = true) (hd : decode cc pc = .ok (.putfield ix, 3)) : zS own cc nL nm rt fr lc kc ks pc (pc + 3) (o_pr ci k) := by
  intro p l e R s m args below meth c Q D A ad0 n0 s0 nS f0 f1 hC next jump ret hN hJ hR lo st L M h hlo ad cA H locs cells slots ls hW hl
  obtain ⟨hx, hb, hml, hnm, hrt, hlk, hown, hfr, hlc, hkc, hks, h2, hts, hns, hK, hZ, ⟨hX0, hb0, hA0⟩, ⟨hX1, hb1, hA1⟩, hA⟩ := hC
  unfold o_pr at h
  split at h
  · rename_i x q r
    split at h
    · rename_i fs ho
      have hL := z_obj_at ho
      have hq := hW.place hL (fun n hn => by cases hn)
      split at h
      · rename_i w hf
        cases hb9 : Nat.blt q 2 with
        | true => rw [hb9] at h; exact h.elim
        | false =>
          rw [hb9] at h
          refine va_putN (v := .ref (ad x)) hx hb hts hin ty0 hty hdis hown hK hW.1 hW.2.1 hW.2.2.1 (q - 2) (z_ws_at hq hL) hcl k hk (va_Nw.use rfl (hns _ hl0)) (fun _ h9 => h9) hfin hpd (hnr _).1 (hnr _).2 (by rw [z_f_len]; exact (List.getElem?_eq_some_iff.mp hf).1) hd (fun H1 locs1 hP hD hS => ?_)
          rw [show Value.ref (ad x) = z_v ad (.ref x) from rfl, z_ws_fr hq hL hf (.ref x)] at hP hD
          exact hN _ _ _ _ h hlo ad cA H1 locs1 cells slots ls (hW.lay hL (by simp) hP hD hS) hl
      · exact h.elim
    · exact h.elim
  · exact h.elim
theorem s_putIF {own : String} {cc : ByteArray} {nL : Nat} {nm : String} {rt : Option FieldType} {fr lc kc ks pc : Nat} {ci k ix N : Nat} {C : String} {T : u_T} (hcl : vwCl[ci]? = some (C, T, N)) (hin : ∀ w ∈ u_ws C T N, w ∈ z_Ts) (hk : k < N) (ty0 : Nat → FieldType) (hty : ∀ k, k < N → parseFieldDescriptor (T k).2.2.1 = some (ty0 k)) (hdis : ∀ a, a < N → ∀ b, b < N → a ≠ b → (T a).2.1 ≠ (T b).2.1) (hl0 : Cond.fieldLink own ix (T k).1 (T k).2.1 (T k).2.2.1 ∈ z_Ts) (hfin : (T k).2.2.2 = true) (hini : nm = "<init>") (hdecl : (T k).1 = own) (hpd : parseFieldDescriptor (T k).2.2.1 = some .int) (hd : decode cc pc = .ok (.putfield ix, 3)) : zS own cc nL nm rt fr lc kc ks pc (pc + 3) (o_pi ci k) := by
  intro p l e R s m args below meth c Q D A ad0 n0 s0 nS f0 f1 hC next jump ret hN hJ hR lo st L M h hlo ad cA H locs cells slots ls hW hl
  obtain ⟨hx, hb, hml, hnm, hrt, hlk, hown, hfr, hlc, hkc, hks, h2, hts, hns, hK, hZ, ⟨hX0, hb0, hA0⟩, ⟨hX1, hb1, hA1⟩, hA⟩ := hC
  unfold o_pi at h
  split at h
  · rename_i x q r
    split at h
    · rename_i fs ho
      have hL := z_obj_at ho
      have hq := hW.place hL (fun n hn => by cases hn)
      split at h
      · rename_i hf
        refine va_putF (v := .int x) hx hb hts hin ty0 hty hdis hown hK hW.1 hW.2.1 hW.2.2.1 (q - 2) (z_ws_at hq hL) hcl k hk (hts _ hl0) (fun _ h9 => h9) hfin (hnm.trans hini) hdecl hpd rfl rfl (by rw [z_f_len]; exact (List.getElem?_eq_some_iff.mp hf).1) hd (fun H1 locs1 hP hD hS => ?_)
        rw [z_ws_fi hq hL hf x] at hP hD
        exact hN _ _ _ _ h hlo ad cA H1 locs1 cells slots ls (hW.mem hP hD hS (z_up0 hq) (z_up1 hq)) hl
      · exact h.elim
    · exact h.elim
  · exact h.elim
theorem s_putZF {own : String} {cc : ByteArray} {nL : Nat} {nm : String} {rt : Option FieldType} {fr lc kc ks pc : Nat} {ci k ix N : Nat} {C : String} {T : u_T} (hcl : vwCl[ci]? = some (C, T, N)) (hin : ∀ w ∈ u_ws C T N, w ∈ z_Ts) (hk : k < N) (ty0 : Nat → FieldType) (hty : ∀ k, k < N → parseFieldDescriptor (T k).2.2.1 = some (ty0 k)) (hdis : ∀ a, a < N → ∀ b, b < N → a ≠ b → (T a).2.1 ≠ (T b).2.1) (hl0 : Cond.fieldLink own ix (T k).1 (T k).2.1 (T k).2.2.1 ∈ z_Ts) (hfin : (T k).2.2.2 = true) (hini : nm = "<init>") (hdecl : (T k).1 = own) (hpd : parseFieldDescriptor (T k).2.2.1 = some .boolean) (hd : decode cc pc = .ok (.putfield ix, 3)) : zS own cc nL nm rt fr lc kc ks pc (pc + 3) (o_pz ci k) := by
  intro p l e R s m args below meth c Q D A ad0 n0 s0 nS f0 f1 hC next jump ret hN hJ hR lo st L M h hlo ad cA H locs cells slots ls hW hl
  obtain ⟨hx, hb, hml, hnm, hrt, hlk, hown, hfr, hlc, hkc, hks, h2, hts, hns, hK, hZ, ⟨hX0, hb0, hA0⟩, ⟨hX1, hb1, hA1⟩, hA⟩ := hC
  unfold o_pz at h
  split at h
  · rename_i x q r
    split at h
    · rename_i fs ho
      have hL := z_obj_at ho
      have hq := hW.place hL (fun n hn => by cases hn)
      split at h
      · rename_i hf
        refine va_putF (v := .int x) hx hb hts hin ty0 hty hdis hown hK hW.1 hW.2.1 hW.2.2.1 (q - 2) (z_ws_at hq hL) hcl k hk (hts _ hl0) (fun _ h9 => h9) hfin (hnm.trans hini) hdecl hpd h.1.1 h.1.2 (by rw [z_f_len]; exact (List.getElem?_eq_some_iff.mp hf).1) hd (fun H1 locs1 hP hD hS => ?_)
        rw [z_ws_fi hq hL hf x] at hP hD
        exact hN _ _ _ _ h.2 hlo ad cA H1 locs1 cells slots ls (hW.mem hP hD hS (z_up0 hq) (z_up1 hq)) hl
      · exact h.elim
    · exact h.elim
  · exact h.elim
theorem s_putRF {own : String} {cc : ByteArray} {nL : Nat} {nm : String} {rt : Option FieldType} {fr lc kc ks pc : Nat} {ci k ix N : Nat} {C : String} {T : u_T} (hcl : vwCl[ci]? = some (C, T, N)) (hin : ∀ w ∈ u_ws C T N, w ∈ z_Ts) (hk : k < N) (ty0 : Nat → FieldType) (hty : ∀ k, k < N → parseFieldDescriptor (T k).2.2.1 = some (ty0 k)) (hdis : ∀ a, a < N → ∀ b, b < N → a ≠ b → (T a).2.1 ≠ (T b).2.1) (hl0 : Cond.fieldLink own ix (T k).1 (T k).2.1 (T k).2.2.1 ∈ z_Ts) (hfin : (T k).2.2.2 = true) (hini : nm = "<init>") (hdecl : (T k).1 = own) {ty : FieldType} (hpd : parseFieldDescriptor (T k).2.2.1 = some ty) (hnr : ∀ q, narrow ty (.ref q) = .ref q ∧ fits ty (.ref q) = true) (hd : decode cc pc = .ok (.putfield ix, 3)) : zS own cc nL nm rt fr lc kc ks pc (pc + 3) (o_pr ci k) := by
  intro p l e R s m args below meth c Q D A ad0 n0 s0 nS f0 f1 hC next jump ret hN hJ hR lo st L M h hlo ad cA H locs cells slots ls hW hl
  obtain ⟨hx, hb, hml, hnm, hrt, hlk, hown, hfr, hlc, hkc, hks, h2, hts, hns, hK, hZ, ⟨hX0, hb0, hA0⟩, ⟨hX1, hb1, hA1⟩, hA⟩ := hC
  unfold o_pr at h
  split at h
  · rename_i x q r
    split at h
    · rename_i fs ho
      have hL := z_obj_at ho
      have hq := hW.place hL (fun n hn => by cases hn)
      split at h
      · rename_i w hf
        cases hb9 : Nat.blt q 2 with
        | true => rw [hb9] at h; exact h.elim
        | false =>
          rw [hb9] at h
          refine va_putF (v := .ref (ad x)) hx hb hts hin ty0 hty hdis hown hK hW.1 hW.2.1 hW.2.2.1 (q - 2) (z_ws_at hq hL) hcl k hk (hts _ hl0) (fun _ h9 => h9) hfin (hnm.trans hini) hdecl hpd (hnr _).1 (hnr _).2 (by rw [z_f_len]; exact (List.getElem?_eq_some_iff.mp hf).1) hd (fun H1 locs1 hP hD hS => ?_)
          rw [show Value.ref (ad x) = z_v ad (.ref x) from rfl, z_ws_fr hq hL hf (.ref x)] at hP hD
          exact hN _ _ _ _ h hlo ad cA H1 locs1 cells slots ls (hW.lay hL (by simp) hP hD hS) hl
      · exact h.elim
    · exact h.elim
  · exact h.elim
theorem s_gets {own : String} {cc : ByteArray} {nL : Nat} {nm : String} {rt : Option FieldType} {fr lc kc ks pc : Nat} {ix : Nat} (hl0 : Cond.fieldLink own ix "TownBagpipes" "DIGEST_HOURS" "[I" ∈ z_Ts) (hd : decode cc pc = .ok (.getstatic ix, 3)) : zS own cc nL nm rt fr lc kc ks pc (pc + 3) (o_gs) := by
  intro p l e R s m args below meth c Q D A ad0 n0 s0 nS f0 f1 hC next jump ret hN hJ hR lo st L M h hlo ad cA H locs cells slots ls hW hl
  obtain ⟨hx, hb, hml, hnm, hrt, hlk, hown, hfr, hlc, hkc, hks, h2, hts, hns, hK, hZ, ⟨hX0, hb0, hA0⟩, ⟨hX1, hb1, hA1⟩, hA⟩ := hC
  have h9 := hN _ _ _ _ h hlo ad cA H locs cells slots ls hW hl
  have e1 : ad 1 = ad0 1 := hW.2.2.2.2.1 1 (Or.inl (by omega))
  refine va_gets (v := .ref (ad0 1)) hx hb hZ hW.2.2.1 hown (hts _ hl0) (fun _ h9 => h9) hd ?_
  rw [← e1]
  exact h9
theorem s_iaload {own : String} {cc : ByteArray} {nL : Nat} {nm : String} {rt : Option FieldType} {fr lc kc ks pc : Nat} (hd : decode cc pc = .ok (.iaload, 1)) : zS own cc nL nm rt fr lc kc ks pc (pc + 1) (o_ia) := by
  intro p l e R s m args below meth c Q D A ad0 n0 s0 nS f0 f1 hC next jump ret hN hJ hR lo st L M h hlo ad cA H locs cells slots ls hW hl
  obtain ⟨hx, hb, hml, hnm, hrt, hlk, hown, hfr, hlc, hkc, hks, h2, hts, hns, hK, hZ, ⟨hX0, hb0, hA0⟩, ⟨hX1, hb1, hA1⟩, hA⟩ := hC
  unfold o_ia at h
  split at h
  · rename_i i q r
    split at h
    · rename_i n ho
      have h9 := hN _ _ _ _ h.2 hlo ad cA H locs cells slots ls hW hl
      rcases z_len_at ho with hL | ⟨hq, k, hL⟩
      · have hq := hW.place hL (fun n hn => by cases hn)
        exact va_iald hx hb (z_K1 hK hW.2.2.2.1 hL hq) hW.1 (q - 2) 0 (z_ws_at hq hL) rfl h.1 hd h9
      · have hz := hW.2.2.2.2.2.2
        rcases (show ∀ n : Nat, n < 2 → n = 0 ∨ n = 1 by omega) q hq with e | e
        · subst e
          have e2 := hz.1
          rw [hL] at e2
          cases e2
          have e1 : ad 0 = ad0 0 := hW.2.2.2.2.1 0 (Or.inl (by omega))
          have h10 := h.1
          rw [hz.2.2.1] at h9
          show W p l e R s m args below meth c H locs cells slots Q (F0 m pc ls (.int i :: .ref (ad 0) :: r.map (z_v ad)))
          rw [e1]
          exact va_sld hx hb hX0 hb0 hA0 hW.2.2.1 h10 hd h9
        · subst e
          have e2 := hz.2.1
          rw [hL] at e2
          cases e2
          have e1 : ad 1 = ad0 1 := hW.2.2.2.2.1 1 (Or.inl (by omega))
          have h10 := h.1
          rw [hz.2.2.2] at h9
          show W p l e R s m args below meth c H locs cells slots Q (F0 m pc ls (.int i :: .ref (ad 1) :: r.map (z_v ad)))
          rw [e1]
          exact va_sld hx hb hX1 hb1 hA1 hW.2.2.1 h10 hd h9
    · exact h.elim
  · exact h.elim
theorem s_baload {own : String} {cc : ByteArray} {nL : Nat} {nm : String} {rt : Option FieldType} {fr lc kc ks pc : Nat} (hd : decode cc pc = .ok (.baload, 1)) : zS own cc nL nm rt fr lc kc ks pc (pc + 1) (o_ba) := by
  intro p l e R s m args below meth c Q D A ad0 n0 s0 nS f0 f1 hC next jump ret hN hJ hR lo st L M h hlo ad cA H locs cells slots ls hW hl
  obtain ⟨hx, hb, hml, hnm, hrt, hlk, hown, hfr, hlc, hkc, hks, h2, hts, hns, hK, hZ, ⟨hX0, hb0, hA0⟩, ⟨hX1, hb1, hA1⟩, hA⟩ := hC
  unfold o_ba at h
  split at h
  · rename_i i q r
    split at h
    · rename_i n ho
      have hL := z_lenK_at ho
      have hq := hW.place hL (fun n hn => by cases hn)
      exact va_zald hx hb (z_K1 hK hW.2.2.2.1 hL hq) hW.1 (q - 2) 0 (z_ws_at hq hL) rfl h.1 hd (hN _ _ _ _ h.2 hlo ad cA H locs cells slots ls hW hl)
    · exact h.elim
  · exact h.elim
theorem s_iastore {own : String} {cc : ByteArray} {nL : Nat} {nm : String} {rt : Option FieldType} {fr lc kc ks pc : Nat} (hd : decode cc pc = .ok (.iastore, 1)) : zS own cc nL nm rt fr lc kc ks pc (pc + 1) (o_iw) := by
  intro p l e R s m args below meth c Q D A ad0 n0 s0 nS f0 f1 hC next jump ret hN hJ hR lo st L M h hlo ad cA H locs cells slots ls hW hl
  obtain ⟨hx, hb, hml, hnm, hrt, hlk, hown, hfr, hlc, hkc, hks, h2, hts, hns, hK, hZ, ⟨hX0, hb0, hA0⟩, ⟨hX1, hb1, hA1⟩, hA⟩ := hC
  unfold o_iw at h
  split at h
  · rename_i x i q r
    split at h
    · rename_i n ho
      have hL := z_lenK_at ho
      have hq := hW.place hL (fun n hn => by cases hn)
      refine va_iast hx hb (z_K1 hK hW.2.2.2.1 hL hq) hW.1 hW.2.1 hW.2.2.1 (q - 2) 0 (z_ws_at hq hL) rfl h.1 hd (fun H1 locs1 hP hD hS => ?_)
      rw [z_ws_arr hq hL] at hP hD
      exact hN _ _ _ _ h.2 hlo ad cA H1 locs1 cells slots ls (hW.mem hP hD hS (z_up0 hq) (z_up1 hq)) hl
    · exact h.elim
  · exact h.elim
theorem s_bastore {own : String} {cc : ByteArray} {nL : Nat} {nm : String} {rt : Option FieldType} {fr lc kc ks pc : Nat} (hd : decode cc pc = .ok (.bastore, 1)) : zS own cc nL nm rt fr lc kc ks pc (pc + 1) (o_bw) := by
  intro p l e R s m args below meth c Q D A ad0 n0 s0 nS f0 f1 hC next jump ret hN hJ hR lo st L M h hlo ad cA H locs cells slots ls hW hl
  obtain ⟨hx, hb, hml, hnm, hrt, hlk, hown, hfr, hlc, hkc, hks, h2, hts, hns, hK, hZ, ⟨hX0, hb0, hA0⟩, ⟨hX1, hb1, hA1⟩, hA⟩ := hC
  unfold o_bw at h
  split at h
  · rename_i x i q r
    split at h
    · rename_i n ho
      have hL := z_lenK_at ho
      have hq := hW.place hL (fun n hn => by cases hn)
      refine va_zast hx hb (z_K1 hK hW.2.2.2.1 hL hq) hW.1 hW.2.1 hW.2.2.1 (q - 2) 0 (z_ws_at hq hL) rfl h.1 hd (fun H1 locs1 hP hD hS => ?_)
      rw [z_ws_arr hq hL] at hP hD
      exact hN _ _ _ _ h.2 hlo ad cA H1 locs1 cells slots ls (hW.mem hP hD hS (z_up0 hq) (z_up1 hq)) hl
    · exact h.elim
  · exact h.elim
theorem s_alen {own : String} {cc : ByteArray} {nL : Nat} {nm : String} {rt : Option FieldType} {fr lc kc ks pc : Nat} (hd : decode cc pc = .ok (.arraylength, 1)) : zS own cc nL nm rt fr lc kc ks pc (pc + 1) (o_len) := by
  intro p l e R s m args below meth c Q D A ad0 n0 s0 nS f0 f1 hC next jump ret hN hJ hR lo st L M h hlo ad cA H locs cells slots ls hW hl
  obtain ⟨hx, hb, hml, hnm, hrt, hlk, hown, hfr, hlc, hkc, hks, h2, hts, hns, hK, hZ, ⟨hX0, hb0, hA0⟩, ⟨hX1, hb1, hA1⟩, hA⟩ := hC
  unfold o_len at h
  split at h
  · rename_i q r
    split at h
    · rename_i o hL
      obtain ⟨k, n⟩ := o
      have h9 := hN _ _ _ _ h hlo ad cA H locs cells slots ls hW hl
      rcases (show ∀ n : Nat, n = 0 ∨ n = 1 ∨ 2 ≤ n by omega) q with e | e | hq
      · subst e
        have e2 := hW.2.2.2.2.2.2.1
        rw [hL] at e2
        cases e2
        have e1 : ad 0 = ad0 0 := hW.2.2.2.2.1 0 (Or.inl (by omega))
        show W p l e R s m args below meth c H locs cells slots Q (F0 m pc ls (.ref (ad 0) :: r.map (z_v ad)))
        rw [e1]
        exact va_slen hx hb hX0 hb0 hA0 hW.2.2.1 hd h9
      · subst e
        have e2 := hW.2.2.2.2.2.2.2.1
        rw [hL] at e2
        cases e2
        have e1 : ad 1 = ad0 1 := hW.2.2.2.2.1 1 (Or.inl (by omega))
        show W p l e R s m args below meth c H locs cells slots Q (F0 m pc ls (.ref (ad 1) :: r.map (z_v ad)))
        rw [e1]
        exact va_slen hx hb hX1 hb1 hA1 hW.2.2.1 hd h9
      · exact va_alen hx hb (z_K1 hK hW.2.2.2.1 hL hq) hW.1 (q - 2) 0 (z_ws_at hq hL) rfl rfl hd h9
    · exact h.elim
  · exact h.elim
theorem s_ireturn {own : String} {cc : ByteArray} {nL : Nat} {nm : String} {rt : Option FieldType} {fr lc kc ks pc : Nat} {ty : FieldType} {npc : Nat} (hrt0 : rt = some ty) (hnar : ∀ x, narrow ty (.int x) = .int x) (hd : decode cc pc = .ok (.ireturn, 1)) : zS own cc nL nm rt fr lc kc ks pc npc (o_ir) := by
  intro p l e R s m args below meth c Q D A ad0 n0 s0 nS f0 f1 hC next jump ret hN hJ hR lo st L M h hlo ad cA H locs cells slots ls hW hl
  obtain ⟨hx, hb, hml, hnm, hrt, hlk, hown, hfr, hlc, hkc, hks, h2, hts, hns, hK, hZ, ⟨hX0, hb0, hA0⟩, ⟨hX1, hb1, hA1⟩, hA⟩ := hC
  unfold o_ir at h
  split at h
  · rename_i x
    exact hR _ _ _ h ad cA H locs cells slots ls pc _ hW hd (Or.inl ⟨rfl, x, ty, rfl, hrt0, hnar x⟩)
  · exact h.elim
theorem s_zreturn {own : String} {cc : ByteArray} {nL : Nat} {nm : String} {rt : Option FieldType} {fr lc kc ks pc : Nat} {npc : Nat} (hrt0 : rt = some .boolean) (hd : decode cc pc = .ok (.ireturn, 1)) : zS own cc nL nm rt fr lc kc ks pc npc (o_zr) := by
  intro p l e R s m args below meth c Q D A ad0 n0 s0 nS f0 f1 hC next jump ret hN hJ hR lo st L M h hlo ad cA H locs cells slots ls hW hl
  obtain ⟨hx, hb, hml, hnm, hrt, hlk, hown, hfr, hlc, hkc, hks, h2, hts, hns, hK, hZ, ⟨hX0, hb0, hA0⟩, ⟨hX1, hb1, hA1⟩, hA⟩ := hC
  unfold o_zr at h
  split at h
  · rename_i x
    exact hR _ _ _ h.2 ad cA H locs cells slots ls pc _ hW hd (Or.inl ⟨rfl, x, .boolean, rfl, hrt0, h.1⟩)
  · exact h.elim
theorem s_lreturn {own : String} {cc : ByteArray} {nL : Nat} {nm : String} {rt : Option FieldType} {fr lc kc ks pc : Nat} {npc : Nat} (hrt0 : rt = some .long) (hd : decode cc pc = .ok (.lreturn, 1)) : zS own cc nL nm rt fr lc kc ks pc npc (o_lr) := by
  intro p l e R s m args below meth c Q D A ad0 n0 s0 nS f0 f1 hC next jump ret hN hJ hR lo st L M h hlo ad cA H locs cells slots ls hW hl
  obtain ⟨hx, hb, hml, hnm, hrt, hlk, hown, hfr, hlc, hkc, hks, h2, hts, hns, hK, hZ, ⟨hX0, hb0, hA0⟩, ⟨hX1, hb1, hA1⟩, hA⟩ := hC
  unfold o_lr at h
  split at h
  · rename_i x
    exact hR _ _ _ h ad cA H locs cells slots ls pc _ hW hd (Or.inr (Or.inl ⟨rfl, x, rfl, hrt0⟩))
  · exact h.elim
theorem s_areturn {own : String} {cc : ByteArray} {nL : Nat} {nm : String} {rt : Option FieldType} {fr lc kc ks pc : Nat} {npc : Nat} {ty : FieldType} (hrt0 : rt = some ty) (hty : (∃ n, ty = .object n) ∨ ∃ t, ty = .array t) (hd : decode cc pc = .ok (.areturn, 1)) : zS own cc nL nm rt fr lc kc ks pc npc (o_ar) := by
  intro p l e R s m args below meth c Q D A ad0 n0 s0 nS f0 f1 hC next jump ret hN hJ hR lo st L M h hlo ad cA H locs cells slots ls hW hl
  obtain ⟨hx, hb, hml, hnm, hrt, hlk, hown, hfr, hlc, hkc, hks, h2, hts, hns, hK, hZ, ⟨hX0, hb0, hA0⟩, ⟨hX1, hb1, hA1⟩, hA⟩ := hC
  unfold o_ar at h
  split at h
  · rename_i x
    exact hR _ _ _ h ad cA H locs cells slots ls pc _ hW hd (Or.inr (Or.inr (Or.inl ⟨rfl, x, ty, rfl, hrt0, hty⟩)))
  · exact h.elim
theorem s_vreturn {own : String} {cc : ByteArray} {nL : Nat} {nm : String} {rt : Option FieldType} {fr lc kc ks pc : Nat} {npc : Nat} (hrt0 : rt = none) (hd : decode cc pc = .ok (.return_, 1)) : zS own cc nL nm rt fr lc kc ks pc npc (o_vr) := by
  intro p l e R s m args below meth c Q D A ad0 n0 s0 nS f0 f1 hC next jump ret hN hJ hR lo st L M h hlo ad cA H locs cells slots ls hW hl
  obtain ⟨hx, hb, hml, hnm, hrt, hlk, hown, hfr, hlc, hkc, hks, h2, hts, hns, hK, hZ, ⟨hX0, hb0, hA0⟩, ⟨hX1, hb1, hA1⟩, hA⟩ := hC
  unfold o_vr at h
  split at h
  · exact hR _ _ _ h ad cA H locs cells slots ls pc _ hW hd (Or.inr (Or.inr (Or.inr ⟨rfl, rfl, hrt0⟩)))
  · exact h.elim
theorem s_mmin {own : String} {cc : ByteArray} {nL : Nat} {nm : String} {rt : Option FieldType} {fr lc kc ks pc : Nat} {ix : Nat} (h1 : Cond.methodLink own ix Lib.Math.min.name ∈ z_Ts) (h3 : Cond.static Lib.Math.min.name ∈ z_Ts) (h4 : Cond.initialized "java/lang/Math" ∈ z_Ts) (h5 : Cond.code Lib.Math.min.name Lib.Math.min.code 2 (some .int) ∈ z_Ts) (hf : 1 ≤ fr) (hd : decode cc pc = .ok (.invokestatic ix, 3)) : zS own cc nL nm rt fr lc kc ks pc (pc + 3) (o_mi lc (fun x y => if y < x then y else x)) := by
  intro p l e R s m args below meth c Q D A ad0 n0 s0 nS f0 f1 hC next jump ret hN hJ hR lo st L M h hlo ad cA H locs cells slots ls hW hl
  obtain ⟨hx, hb, hml, hnm, hrt, hlk, hown, hfr, hlc, hkc, hks, h2, hts, hns, hK, hZ, ⟨hX0, hb0, hA0⟩, ⟨hX1, hb1, hA1⟩, hA⟩ := hC
  unfold o_mi at h
  split at h
  · rename_i y x r
    cases hb9 : Nat.ble (z_cat r + 13) lc with
    | false => rw [hb9] at h; exact h.elim
    | true =>
      rw [hb9] at h
      exact va_mmin hx hb (by rw [hml, hl.1, hlo]) hown (hts _ h1) (hts _ h3) (hts _ h4) (hts _ h5) (by rw [hfr]; exact hf) (by rw [z_cat_map, hlc]; exact Nat.le_of_ble_eq_true hb9) hW.2.2.2.2.2.1.2.2.1 hW.2.2.2.2.2.1.2.2.2 hd (hN _ _ _ _ h hlo ad cA H locs cells slots ls hW hl)
  · exact h.elim
theorem s_mmax {own : String} {cc : ByteArray} {nL : Nat} {nm : String} {rt : Option FieldType} {fr lc kc ks pc : Nat} {ix : Nat} (h1 : Cond.methodLink own ix Lib.Math.max.name ∈ z_Ts) (h3 : Cond.static Lib.Math.max.name ∈ z_Ts) (h4 : Cond.initialized "java/lang/Math" ∈ z_Ts) (h5 : Cond.code Lib.Math.max.name Lib.Math.max.code 2 (some .int) ∈ z_Ts) (hf : 1 ≤ fr) (hd : decode cc pc = .ok (.invokestatic ix, 3)) : zS own cc nL nm rt fr lc kc ks pc (pc + 3) (o_mi lc (fun x y => if x < y then y else x)) := by
  intro p l e R s m args below meth c Q D A ad0 n0 s0 nS f0 f1 hC next jump ret hN hJ hR lo st L M h hlo ad cA H locs cells slots ls hW hl
  obtain ⟨hx, hb, hml, hnm, hrt, hlk, hown, hfr, hlc, hkc, hks, h2, hts, hns, hK, hZ, ⟨hX0, hb0, hA0⟩, ⟨hX1, hb1, hA1⟩, hA⟩ := hC
  unfold o_mi at h
  split at h
  · rename_i y x r
    cases hb9 : Nat.ble (z_cat r + 13) lc with
    | false => rw [hb9] at h; exact h.elim
    | true =>
      rw [hb9] at h
      exact va_mmax hx hb (by rw [hml, hl.1, hlo]) hown (hts _ h1) (hts _ h3) (hts _ h4) (hts _ h5) (by rw [hfr]; exact hf) (by rw [z_cat_map, hlc]; exact Nat.le_of_ble_eq_true hb9) hW.2.2.2.2.2.1.2.2.1 hW.2.2.2.2.2.1.2.2.2 hd (hN _ _ _ _ h hlo ad cA H locs cells slots ls hW hl)
  · exact h.elim
theorem s_oinit {own : String} {cc : ByteArray} {nL : Nat} {nm : String} {rt : Option FieldType} {fr lc kc ks pc : Nat} {ix : Nat} (h1 : Cond.methodLink own ix Lib.objectInit ∈ z_Ts) (h3 : Cond.instanceMethod Lib.objectInit ∈ z_Ts) (h5 : Cond.code Lib.objectInit ⟨#[0xb1]⟩ 1 none ∈ z_Ts) (hf : 1 ≤ fr) (hd : decode cc pc = .ok (.invokespecial ix, 3)) : zS own cc nL nm rt fr lc kc ks pc (pc + 3) (o_oi lc) := by
  intro p l e R s m args below meth c Q D A ad0 n0 s0 nS f0 f1 hC next jump ret hN hJ hR lo st L M h hlo ad cA H locs cells slots ls hW hl
  obtain ⟨hx, hb, hml, hnm, hrt, hlk, hown, hfr, hlc, hkc, hks, h2, hts, hns, hK, hZ, ⟨hX0, hb0, hA0⟩, ⟨hX1, hb1, hA1⟩, hA⟩ := hC
  unfold o_oi at h
  split at h
  · rename_i q r
    cases hb9 : Nat.ble (z_cat r + 12) lc with
    | false => rw [hb9] at h; exact h.elim
    | true =>
      rw [hb9] at h
      refine W.objInit hx hb hown (hts _ h1) (hts _ h3) (hts _ h5) (g := F0 m pc ls (.ref (ad q) :: r.map (z_v ad))) rfl (by show ls.size = _; rw [hml, hl.1, hlo]) rfl hd (by rw [hfr]; exact hf) ?_ (hN _ _ _ _ h hlo ad cA H locs cells slots ls hW hl)
      show 2 * 0 + _ + 12 ≤ _
      rw [z_cat_map, hlc]
      have := Nat.le_of_ble_eq_true hb9
      omega
  · exact h.elim
theorem s_acopy {own : String} {cc : ByteArray} {nL : Nat} {nm : String} {rt : Option FieldType} {fr lc kc ks pc : Nat} {ix : Nat} (h1 : Cond.methodLink own ix arraycopyName ∈ z_Ts) (h3 : Cond.native arraycopyName ∈ z_Ts) (h4 : Cond.static arraycopyName ∈ z_Ts) (h5 : Cond.initialized "java/lang/System" ∈ z_Ts) (hf : 1 ≤ fr) (hd : decode cc pc = .ok (.invokestatic ix, 3)) : zS own cc nL nm rt fr lc kc ks pc (pc + 3) (o_cp lc) := by
  intro p l e R s m args below meth c Q D A ad0 n0 s0 nS f0 f1 hC next jump ret hN hJ hR lo st L M h hlo ad cA H locs cells slots ls hW hl
  obtain ⟨hx, hb, hml, hnm, hrt, hlk, hown, hfr, hlc, hkc, hks, h2, hts, hns, hK, hZ, ⟨hX0, hb0, hA0⟩, ⟨hX1, hb1, hA1⟩, hA⟩ := hC
  unfold o_cp at h
  split at h
  · rename_i n dp q sp q0 r
    split at h
    · rename_i m0 ho0
      split at h
      · rename_i m1 ho1
        cases hb9 : Nat.ble (z_cat r + (nativeFrameWords "java/lang/System" "arraycopy" 5 + 11)) lc with
        | false => rw [hb9] at h; exact h.elim
        | true =>
          rw [hb9] at h
          obtain ⟨⟨g1, g2, g3, g4, g5⟩, h⟩ := h
          have hL0 := z_lenK_at ho0
          have hL1 := z_lenK_at ho1
          have hq0 := hW.place hL0 (fun n hn => by cases hn)
          have hq1 := hW.place hL1 (fun n hn => by cases hn)
          have hKK : va_K D vwCl [(cA q0, .int), (cA q, .int)] s := (z_K1 hK hW.2.2.2.1 hL0 hq0).app (z_K1 hK hW.2.2.2.1 hL1 hq1)
          refine va_copyi hx hb (by rw [hml, hl.1, hlo]) hown (hts _ h1) (hts _ h3) (hts _ h4) (hts _ h5) hKK hW.1 hW.2.1 hW.2.2.1 (q0 - 2) (q - 2) 0 1 (z_ws_at hq0 hL0) (z_ws_at hq1 hL1) rfl rfl rfl g1 g2 g3 g4 g5 (fun _ _ => rfl) (by rw [hfr]; exact hf) (by rw [z_cat_map, hlc]; exact Nat.le_of_ble_eq_true hb9) hd (fun H1 locs1 hP hD hS => ?_)
          rw [z_ws_arr hq1 hL1] at hP hD
          exact hN _ _ _ _ h hlo ad cA H1 locs1 cells slots ls (hW.mem hP hD hS (z_up0 hq1) (z_up1 hq1)) hl
      · exact h.elim
    · exact h.elim
  · exact h.elim
end
section
/-! making, calls, and a method's contract out of a run of the shadow machine -/
theorem z_Wd.push {s : State} {R : Room} {D : va_G} {A : Nat → Prop} {ad0 : Nat → Nat} {n0 s0 nS : Nat} {f0 f1 : Nat → Int32} {ad : Nat → Nat} {cA : Nat → ClassId} {L : zL} {M : zM} {H H1 : Heap} {locs : List Loc} {cells slots q : Nat} {cQ : ClassId} {c : (Nat × Nat) ⊕ (Nat × List (Option Value))} {e : va_E}
    (h : z_Wd s R D A ad0 n0 s0 nS f0 f1 ad cA L M H locs cells slots) (h2 : 2 ≤ n0) (hL : L.all (z_cok L.length) = true) (he : e = z_e (va_up ad L.length q) cQ (fun _ => 0) c)
    (hP : va_P D vwCl (z_ws ad cA L M ++ [(q, e)]) H1) (hD : va_D A (z_ws ad cA L M ++ [(q, e)])) (hS : va_S A s.heap H1 locs) (hc : cells + 1 ≤ R.cells) (hs : slots + z_sz [c] ≤ R.slots) (hAr : ∀ k n, c = .inl (k, n) → k < 2 ∧ ArrOfT s cQ (z_ty k) ∧ va_RA s cQ (z_ty k)) :
    z_Wd s R D A ad0 n0 s0 nS f0 f1 (va_up ad L.length q) (va_up cA L.length cQ) (L ++ [c]) (va_up M L.length (fun _ => 0)) H1 locs (cells + 1) (slots + z_sz [c]) := by
  obtain ⟨-, -, -, h4, h5, ⟨k1, k2, -, -⟩, z0, z1, z2, z3⟩ := h
  have hn : 2 ≤ L.length := by omega
  rw [z_ws_push hn hL q cQ (fun _ => 0) c e he] at hP hD
  refine ⟨hP, hD, hS, fun p k n hp hp2 => ?_, fun p hp => ?_, ⟨by simp; omega, by rw [z_sz_app]; omega, hc, hs⟩, ?_, ?_, ?_, ?_⟩
  · by_cases e1 : p < L.length
    · rw [List.getElem?_append_left e1] at hp
      have := h4 p k n hp hp2
      simp only [va_up, Nat.ne_of_lt e1, if_false]
      exact this
    · by_cases e2 : p = L.length
      · subst e2
        have : c = .inl (k, n) := by simpa using hp
        simp only [va_up, if_true]
        exact hAr k n this
      · rw [List.getElem?_eq_none (by simp; omega)] at hp
        cases hp
  · have e1 : p ≠ L.length := by
      rcases hp with hp | hp
      · omega
      · simp at hp; omega
    simp only [va_up, e1, if_false]
    refine h5 p ?_
    rcases hp with hp | hp
    · exact Or.inl hp
    · simp at hp; exact Or.inr (by omega)
  · rw [List.getElem?_append_left (by omega)]; exact z0
  · rw [List.getElem?_append_left (by omega)]; exact z1
  · have : (0 : Nat) ≠ L.length := by omega
    simp only [va_up, this, if_false]; exact z2
  · have : (1 : Nat) ≠ L.length := by omega
    simp only [va_up, this, if_false]; exact z3
theorem s_new {own : String} {cc : ByteArray} {nL : Nat} {nm : String} {rt : Option FieldType} {fr lc kc ks pc : Nat} {ci ix N : Nat} {C : String} {T : u_T} (hcl : vwCl[ci]? = some (C, T, N)) (hin : ∀ w ∈ u_ws C T N, w ∈ z_Ts) (ty0 : Nat → FieldType) (hty : ∀ k, k < N → parseFieldDescriptor (T k).2.2.1 = some (ty0 k)) (hl0 : Cond.classLink own ix C ∈ z_Ts) (hi0 : Cond.instantiable C N ∈ z_Ts) (hn0 : Cond.initialized C ∈ z_Ts)
    {fs : List (Option Value)} {fv : List Value} (hfv : ∀ ad, z_f ad (fun _ => 0) fs = fv) (hfs : ∀ j, j < N → defaultValue (ty0 j) = vp_V fv j) (hfl : fs.length = N) (hd : decode cc pc = .ok (.new ix, 3)) : zS own cc nL nm rt fr lc kc ks pc (pc + 3) (o_new kc ks ci fs) := by
  intro p l e R s m args below meth c Q D A ad0 n0 s0 nS f0 f1 hC next jump ret hN hJ hR lo st L M h hlo ad cA H locs cells slots ls hW hl
  obtain ⟨hx, hb, hml, hnm, hrt, hlk, hown, hfr, hlc, hkc, hks, h2, hts, hns, hK, hZ, ⟨hX0, hb0, hA0⟩, ⟨hX1, hb1, hA1⟩, hA⟩ := hC
  unfold o_new at h
  cases hb9 : (z_ok lo st L && (Nat.ble (L.length + 1) kc && Nat.ble (z_sz L + fs.length) ks)) with
  | false => rw [hb9] at h; exact h.elim
  | true =>
    rw [hb9] at h
    obtain ⟨g1, g2⟩ := Bool.and_eq_true_iff.mp hb9
    obtain ⟨g3, g4⟩ := Bool.and_eq_true_iff.mp g2
    obtain ⟨g5, g6⟩ := Bool.and_eq_true_iff.mp g1
    obtain ⟨g7, g8⟩ := Bool.and_eq_true_iff.mp g6
    have g3 := Nat.le_of_ble_eq_true g3
    have g4 := Nat.le_of_ble_eq_true g4
    obtain ⟨k1, k2, -, -⟩ := hW.2.2.2.2.2.1
    have c1 : cells + 1 ≤ R.cells := by omega
    have c2 : slots + N ≤ R.slots := by omega
    refine va_new hx hb hts hin ty0 hty hown (hts _ hl0) (hts _ hi0) (hts _ hn0) hK hW.1 hW.2.1 hW.2.2.1 hA hcl hfs c1 c2 hd (fun q H1 hP hD hS => ?_)
    have c3 : slots + z_sz [(.inr (ci, fs) : (Nat × Nat) ⊕ (Nat × List (Option Value)))] ≤ R.slots := by simp [z_sz, hfl]; exact c2
    have hW1 := hW.push (q := q) (cQ := cA L.length) (c := .inr (ci, fs)) (e := .inr (ci, fv)) h2 g8 (by rw [← hfv (va_up ad L.length q)]; rfl) hP hD hS c1 c3 (fun k n hkn => by cases hkn)
    have hag : ∀ p, p < L.length → va_up ad L.length q p = ad p := fun p hp => by simp [va_up, Nat.ne_of_lt hp]
    have h9 := hN _ _ _ _ h hlo _ _ _ _ _ _ ls hW1 (z_Lo_ag hag hl g5)
    rw [List.map_cons, z_st_ag hag g7] at h9
    have e1 : z_v (va_up ad L.length q) (.ref L.length) = .ref q := by simp [z_v, va_up]
    rw [e1, show z_sz [(.inr (ci, fs) : (Nat × Nat) ⊕ (Nat × List (Option Value)))] = N by simp [z_sz, hfl]] at h9
    exact h9
theorem s_newa {own : String} {cc : ByteArray} {nL : Nat} {nm : String} {rt : Option FieldType} {fr lc kc ks pc : Nat} {at0 : ArrayType} {k : Nat} (hk : k < 2) (hty : newarray.typeOf at0 = z_ty k) (hw : Cond.arrayClass (newarray.typeOf at0) ∈ z_Ts) (hd : decode cc pc = .ok (.newarray at0, 2)) : zS own cc nL nm rt fr lc kc ks pc (pc + 2) (o_na kc ks k) := by
  intro p l e R s m args below meth c Q D A ad0 n0 s0 nS f0 f1 hC next jump ret hN hJ hR lo st L M h hlo ad cA H locs cells slots ls hW hl
  obtain ⟨hx, hb, hml, hnm, hrt, hlk, hown, hfr, hlc, hkc, hks, h2, hts, hns, hK, hZ, ⟨hX0, hb0, hA0⟩, ⟨hX1, hb1, hA1⟩, hA⟩ := hC
  unfold o_na at h
  split at h
  · rename_i x r
    cases hb9 : (z_ok lo r L && (decide (¬ x < 0) && (Nat.ble x.toNatClampNeg 10000 && (Nat.ble (L.length + 1) kc && Nat.ble (z_sz L + x.toNatClampNeg) ks)))) with
    | false => rw [hb9] at h; exact h.elim
    | true =>
      rw [hb9] at h
      obtain ⟨g1, g2⟩ := Bool.and_eq_true_iff.mp hb9
      obtain ⟨g0, g2⟩ := Bool.and_eq_true_iff.mp g2
      obtain ⟨g9, g2⟩ := Bool.and_eq_true_iff.mp g2
      obtain ⟨g3, g4⟩ := Bool.and_eq_true_iff.mp g2
      obtain ⟨g5, g6⟩ := Bool.and_eq_true_iff.mp g1
      obtain ⟨g7, g8⟩ := Bool.and_eq_true_iff.mp g6
      have g3 := Nat.le_of_ble_eq_true g3
      have g4 := Nat.le_of_ble_eq_true g4
      have g9 := Nat.le_of_ble_eq_true g9
      have g0 := of_decide_eq_true g0
      obtain ⟨k1, k2, -, -⟩ := hW.2.2.2.2.2.1
      have c1 : cells + 1 ≤ R.cells := by omega
      have c2 : slots + x.toNatClampNeg ≤ R.slots := by omega
      have hde : defaultValue (z_ty k) = .int 0 := by
        rcases (show ∀ n : Nat, n < 2 → n = 0 ∨ n = 1 by omega) k hk with e | e <;> subst e <;> rfl
      have hcb : componentBytes (z_ty k) ≤ 4 := by
        rcases (show ∀ n : Nat, n < 2 → n = 0 ∨ n = 1 by omega) k hk with e | e <;> subst e <;> decide
      refine va_newa hx hb (hts _ hw) hty hK hW.1 hW.2.1 hW.2.2.1 hA (N' := x.toNatClampNeg) (a0 := (x.toNatClampNeg, .inl (fun _ => 0))) (fun cA => by rw [hde]; rfl) g0 rfl (Nat.le_trans (Nat.mul_le_mul g9 hcb) (by decide)) c1 c2 hd (fun q cQ H1 hK1 hP hD hS => ?_)
      have c3 : slots + z_sz [(.inl (k, x.toNatClampNeg) : (Nat × Nat) ⊕ (Nat × List (Option Value)))] ≤ R.slots := by simp [z_sz]; exact c2
      have hW1 := hW.push (q := q) (cQ := cQ) (c := .inl (k, x.toNatClampNeg)) (e := .inl (cQ, x.toNatClampNeg, .inl (fun _ => 0))) h2 g8 rfl hP hD hS c1 c3 (fun k' n hkn => by cases hkn; exact ⟨hk, hK1.2 0 (cQ, z_ty k) rfl⟩)
      have hag : ∀ p, p < L.length → va_up ad L.length q p = ad p := fun p hp => by simp [va_up, Nat.ne_of_lt hp]
      have h9 := hN _ _ _ _ h hlo _ _ _ _ _ _ ls hW1 (z_Lo_ag hag hl g5)
      rw [List.map_cons, z_st_ag hag g7] at h9
      have e1 : z_v (va_up ad L.length q) (.ref L.length) = .ref q := by simp [z_v, va_up]
      rw [e1, show z_sz [(.inl (k, x.toNatClampNeg) : (Nat × Nat) ⊕ (Nat × List (Option Value)))] = x.toNatClampNeg by simp [z_sz]] at h9
      exact h9
  · exact h.elim
-- calls
theorem z_gin {ws : List Cond} (h : ∀ w ∈ ws, w ∈ z_Ts) : GoodIn z_Ts ws := fun w hw => ⟨h w hw, good_of_word (z_good w (h w hw))⟩
def z_Cal (i : zI) (n : Nat) : Prop := Cond.code i.1 i.2.1 i.2.2.1 i.2.2.2.1 ∈ z_Ts ∧ Cond.initialized i.1.cls ∈ z_Ts ∧ (i.1.cls ≠ "java/lang/invoke/MethodHandle" ∧ i.1.cls ≠ "java/lang/invoke/VarHandle" ∧ (parseMethodDescriptor i.1.desc).map (fun d => d.parameters.length) = some n)
theorem z_gcal {i : zI} {n : Nat} (h : z_Cal i n) : GoodIn z_Ts (Cond.code i.1 i.2.1 i.2.2.1 i.2.2.2.1 :: z_Ts) := z_gin (fun w hw => by
  rcases List.mem_cons.mp hw with e | e
  · subst e; exact h.1
  · exact e)
theorem z_blind {D : va_G} {ad : Nat → Nat} {cA : Nat → ClassId} {nS : Nat} {f0 f1 : Nat → Int32} {sz : Nat} {L : zL} {M : zM} {as : List Value} : FrameBlind (va_Pc as (z_Pre D ad cA nS f0 f1 sz L M)) := by
  intro a U g mk h
  obtain ⟨h0, q0, q1, q2, q3, q4, q5, q6, q7, q8⟩ := h
  exact ⟨h0, q0, q1, q2, fun p k n hp h2 => q3 p k n hp h2, q4, fun w hw => va_Nw.same (u := U) (U := U.calling g mk a) (by have := (List.mem_filter.mp hw).2; cases w <;> first | (cases this; done) | rfl) rfl (q5 w hw), va_K.moved (u := U) (U := U.calling g mk a) (Vm.Alike.refl U.vm) q6, va_Z.moved (u := U) (U := U.calling g mk a) (Vm.Alike.refl U.vm) q7, ⟨va_X.moved (u := U) (U := U.calling g mk a) (Vm.Alike.refl U.vm) q8.1.1, q8.1.2⟩, ⟨va_X.moved (u := U) (U := U.calling g mk a) (Vm.Alike.refl U.vm) q8.2.1.1, q8.2.1.2⟩, q8.2.2⟩
theorem z_sub {s : State} {R : Room} {D : va_G} {A : Nat → Prop} {ad0 : Nat → Nat} {n0 s0 nS : Nat} {f0 f1 : Nat → Int32} {ad : Nat → Nat} {cA : Nat → ClassId} {L : zL} {M : zM} {H : Heap} {locs : List Loc} {cells slots : Nat} (h : z_Wd s R D A ad0 n0 s0 nS f0 f1 ad cA L M H locs cells slots) (hA : ∀ q, s.heap.size ≤ q → A q) : ∀ q, va_A (z_ws ad cA L M) H.size q → A q := by
  intro q hq
  rcases hq with ⟨k, e, hk⟩ | hq
  · exact h.2.1.2 k (q, e) hk
  · exact hA q (Nat.le_trans h.2.2.1.1 hq)
theorem z_Ar.moved {u U : State} (hvm : u.vm.Alike U.vm) {cA : Nat → ClassId} {L : zL} (h : z_Ar u cA L) : z_Ar U cA L := fun p k n hp h2 => ⟨(h p k n hp h2).1, arrOfT_moved hvm (h p k n hp h2).2.1, (h p k n hp h2).2.2.moved hvm⟩
/-- what a callee needs of the world -/
theorem z_pre {s : State} {R : Room} {D : va_G} {A : Nat → Prop} {ad0 : Nat → Nat} {n0 s0 nS : Nat} {f0 f1 : Nat → Int32} {ad : Nat → Nat} {cA : Nat → ClassId} {L : zL} {M : zM} {H : Heap} {locs : List Loc} {cells slots : Nat} (h : z_Wd s R D A ad0 n0 s0 nS f0 f1 ad cA L M H locs cells slots) (h2 : 2 ≤ n0) (hE : z_En D A (ad0 0) (ad0 1) nS f0 f1 s) {U : State} (hU : U.heap = H) (hW : s.WarmedH U.vm) : z_Pre D ad cA nS f0 f1 H.size L M U := by
  obtain ⟨hns, hK, hZ, ⟨hX0, hb0, hA0⟩, ⟨hX1, hb1, hA1⟩, hA⟩ := hE
  have hsub := z_sub h hA
  have hS := h.2.2.1
  have e0 : ad 0 = ad0 0 := h.2.2.2.2.1 0 (Or.inl (by omega))
  have e1 : ad 1 = ad0 1 := h.2.2.2.2.1 1 (Or.inl (by omega))
  refine ⟨by rw [hU], by rw [hU]; exact h.1, h.2.1.weaken (fun _ _ _ _ => trivial), h.2.2.2.1.moved hW.alike, h.2.2.2.2.2.2, fun w hw => z_warm (List.mem_filter.mp hw).2 hW (hns w hw), va_K.moved hW.alike hK, ?_, ⟨?_, ?_, ?_⟩, ⟨?_, ?_, ?_⟩, fun q hq => ?_⟩
  · rw [hU, e1]
    exact (va_Z.moved hW.alike (hZ.kept hS.2.1)).narrow hsub
  · rw [hU, e0]
    exact va_X.moved hW.alike (hX0.kept (hS.2.1 _ hb0 hA0))
  · rw [hU, e0]; exact Nat.lt_of_lt_of_le hb0 hS.1
  · rw [e0]; exact fun q => hA0 (hsub _ q)
  · rw [hU, e1]
    exact va_X.moved hW.alike (hX1.kept (hS.2.1 _ hb1 hA1))
  · rw [hU, e1]; exact Nat.lt_of_lt_of_le hb1 hS.1
  · rw [e1]; exact fun q => hA1 (hsub _ q)
  · rw [hU] at hq; exact Or.inr hq
/-- behind a call -/
theorem z_after {p : Program} {l : Launch} {e : Env} {R : Room} {s : State} {m : MethodId} {args : Array Value} {below : List Frame} {meth : Method} {c : Code} {Q : State → Prop} {D : va_G} {A : Nat → Prop} {ad0 : Nat → Nat} {n0 s0 nS : Nat} {f0 f1 : Nat → Int32} {ad : Nat → Nat} {cA : Nat → ClassId} {L L' : zL} {M M' : zM} {H : Heap} {locs : List Loc} {cells slots : Nat} {pc : Nat} {ls : Array Slot} {st0 rest : List Value} {v : Option Value} {mc ms : Nat}
    (hr : va_Run p l e R s m args below meth c H locs cells slots mc ms (F0 m pc ls st0) rest (z_Post D ad cA nS f0 f1 H.size L M v L' M') (va_A (z_ws ad cA L M) H.size))
    (hW : z_Wd s R D A ad0 n0 s0 nS f0 f1 ad cA L M H locs cells slots) (hA : ∀ q, s.heap.size ≤ q → A q) (h1 : L.length + mc = L'.length) (h2 : z_sz L + ms = z_sz L') (hc : cells + mc ≤ R.cells) (hs : slots + ms ≤ R.slots)
    (kk : ∀ (ad' : Nat → Nat) (cA' : Nat → ClassId) (H1 : Heap) (locs1 : List Loc), (∀ p, p < L.length ∨ L'.length ≤ p → ad' p = ad p) → z_Wd s R D A ad0 n0 s0 nS f0 f1 ad' cA' L' M' H1 locs1 (cells + mc) (slots + ms) → W p l e R s m args below meth c H1 locs1 (cells + mc) (slots + ms) Q (F0 m (pc + 3) ls ((v.map (z_v ad')).toList ++ rest))) :
    W p l e R s m args below meth c H locs cells slots Q (F0 m pc ls st0) := by
  intro T hT X
  obtain ⟨v', st₀, t, T', Lx, h0, X', hLx, e1, e2, ⟨ad', cA', hv, hag, hP', hD', hAr', hFz', hz, hk⟩, st⟩ := hr T hT X
  cases hv
  rw [h0] at hz hk
  have hsub := z_sub hW hA
  obtain ⟨q1, q2, hS, q4, q5, ⟨k1, k2, k3, k4⟩, q7⟩ := hW
  obtain ⟨t2, a1, b1⟩ := kk ad' cA' T'.heap (locs ++ Lx) hag ⟨by rw [e1]; exact hP', hD'.weaken (fun _ q _ z => hsub _ z), ⟨Nat.le_trans hS.1 (by rw [e1]; exact hz), fun q h1 h2 => by rw [e1, hk q (Nat.lt_of_lt_of_le h1 hS.1) (fun z => h2 (hsub q z))]; exact hS.2.1 q h1 h2, fun q hq => by
      rcases List.mem_append.mp hq with h | h
      · exact hS.2.2 q h
      · exact hsub _ (hLx q h)⟩, hAr'.moved (by rw [← e2]; exact X'.warmed.alike.symm), fun p hp => (hag p (by omega)).trans (q5 p (by omega)), ⟨by omega, by omega, hc, hs⟩, hFz'⟩ T' rfl X'
  exact ⟨t2, st t2 a1, b1⟩
theorem z_frees {ad ad' : Nat → Nat} {n : Nat} (h : ∀ p, p < n ∨ n ≤ p → ad' p = ad p) : ad' = ad := funext fun p => h p (by omega)
theorem z_vmap (ad : Nat → Nat) (v : Option Value) (r : List Value) : (v.map (z_v ad)).toList ++ r.map (z_v ad) = (v.toList ++ r).map (z_v ad) := by cases v <;> simp
theorem z_stk {ad : Nat → Nat} {st r : List Value} {b n : Nat} (h : st.drop n = .ref b :: r) : st.map (z_v ad) = (((st.take n).reverse.map (z_v ad))).reverse ++ .ref (ad b) :: r.map (z_v ad) := by
  have e : st = st.take n ++ st.drop n := (List.take_append_drop n st).symm
  rw [h] at e
  conv => lhs; rw [e]
  simp [List.map_append, List.map_reverse, z_v]
theorem z_stk0 {ad : Nat → Nat} {st : List Value} {n : Nat} : st.map (z_v ad) = (((st.take n).reverse.map (z_v ad))).reverse ++ (st.drop n).map (z_v ad) := by
  conv => lhs; rw [(List.take_append_drop n st).symm]
  simp [List.map_append, List.map_reverse]
theorem z_room {m : MethodId} {pc : Nat} {ls : Array Slot} {ad : Nat → Nat} {st r : List Value} (h : Nat.ble (z_cat r) 8 = true) : 2 * (F0 m pc ls st).monitorRoom + ((r.map (z_v ad)).map fun v => v.category).sum ≤ 8 := lv_room (by rw [z_cat_map]; exact Nat.le_of_ble_eq_true h)
theorem s_callV {own : String} {cc : ByteArray} {nL : Nat} {nm : String} {rt : Option FieldType} {fr lc kc ks pc : Nat} {i : zI} {n ci ix N : Nat} {C : String} {T : u_T} (hcl : vwCl[ci]? = some (C, T, N)) (hcal : z_Cal i n) (hins : Cond.instanceMethod i.1 ∈ z_Ts ∧ Cond.selects C i.1 i.1 ∈ z_Ts) (h1 : Cond.methodLink own ix i.1 ∈ z_Ts) (hR0 : Nat.ble (i.2.2.2.2.1 + 1) fr = true ∧ Nat.ble (8 + (i.2.2.1 + 11) + i.2.2.2.2.2) lc = true) (hd : decode cc pc = .ok (.invokevirtual ix, 3)) : zS own cc nL nm rt fr lc kc ks pc (pc + 3) (o_cv i n ci) := by
  intro p l e R s m args below meth c Q D A ad0 n0 s0 nS f0 f1 hC next jump ret hN hJ hR lo st L M h hlo ad cA H locs cells slots ls hW hl
  obtain ⟨hx, hb, hml, hnm, hrt, hlk, hown, hfr, hlc, hkc, hks, h2, hts, hE⟩ := hC
  have hK := hE.2.1
  have hA := hE.2.2.2.2.2
  unfold o_cv at h
  split at h
  · rename_i b r hst
    split at h
    · rename_i fs ho
      cases hb9 : Nat.ble (z_cat r) 8 with
      | false => rw [hb9] at h; exact h.elim
      | true =>
        rw [hb9] at h
        obtain ⟨v, M', hM, h⟩ := h
        obtain ⟨-, -, hM⟩ := hM
        have hM := hM l D ad cA nS f0 f1 H.size
        have hL := z_obj_at ho
        have hq := hW.place hL (fun n hn => by cases hn)
        obtain ⟨-, -, k3, k4⟩ := hW.2.2.2.2.2.1
        have hn : ((st.take n).reverse.map (z_v ad)).length = n := by
          have : n < st.length := by
            rcases Nat.lt_or_ge n st.length with q | q
            · exact q
            · rw [List.drop_eq_nil_of_le q] at hst; cases hst
          simp; omega
        have hRR : i.2.2.2.2.1 + 1 ≤ R.frames ∧ 8 + (i.2.2.1 + 11) + i.2.2.2.2.2 ≤ R.locals := ⟨by rw [hfr]; exact Nat.le_of_ble_eq_true hR0.1, by rw [hlc]; exact Nat.le_of_ble_eq_true hR0.2⟩
        rw [z_stk hst]
        simp only [Nat.sub_self] at hM
        refine z_after (mc := 0) (ms := 0) (va_runV (C := C) (b := ad b) (As := (st.take n).reverse.map (z_v ad)) ⟨hx, hb, hml, hown, hts⟩ hM ⟨callB_of n hts (z_gcal hcal) rfl rfl rfl (hts _ hcal.2.1) (hts _ h1) hcal.2.2 hRR, hts _ hins.1, hts _ hins.2⟩ ⟨z_blind, va_recv hK hW.1 hcl (z_ws_at hq hL), fun U hU hU2 => ⟨rfl, z_pre hW h2 hE hU hU2⟩⟩ rfl hn (by show ls.size = nL; rw [hl.1, hlo]) rfl (z_room hb9) hd ⟨k3, k4⟩) hW hA (Nat.add_zero _) (Nat.add_zero _) k3 k4 (fun ad' cA' H1 locs1 hag hW1 => ?_)
        have e9 := z_frees hag
        subst e9
        rw [z_vmap]
        exact hN _ _ _ _ h hlo _ _ _ _ _ _ ls hW1 hl
    · exact h.elim
  · exact h.elim
theorem s_callVN {own : String} {cc : ByteArray} {nL : Nat} {nm : String} {rt : Option FieldType} {fr lc kc ks pc : Nat} {i : zI} {n ci ix N : Nat} {C : String} {T : u_T} (hcl : vwCl[ci]? = some (C, T, N)) (hcal : z_Cal i n) (hins : Cond.instanceMethod i.1 ∈ z_Ts ∧ Cond.selects C i.1 i.1 ∈ z_Ts) {host : String} (h1 : Cond.methodLinkNest own ix i.1 host ∈ z_Ns) (hR0 : Nat.ble (i.2.2.2.2.1 + 1) fr = true ∧ Nat.ble (8 + (i.2.2.1 + 11) + i.2.2.2.2.2) lc = true) (hd : decode cc pc = .ok (.invokevirtual ix, 3)) : zS own cc nL nm rt fr lc kc ks pc (pc + 3) (o_cv i n ci) := by
  intro p l e R s m args below meth c Q D A ad0 n0 s0 nS f0 f1 hC next jump ret hN hJ hR lo st L M h hlo ad cA H locs cells slots ls hW hl
  obtain ⟨hx, hb, hml, hnm, hrt, hlk, hown, hfr, hlc, hkc, hks, h2, hts, hE⟩ := hC
  have hK := hE.2.1
  have hA := hE.2.2.2.2.2
  unfold o_cv at h
  split at h
  · rename_i b r hst
    split at h
    · rename_i fs ho
      cases hb9 : Nat.ble (z_cat r) 8 with
      | false => rw [hb9] at h; exact h.elim
      | true =>
        rw [hb9] at h
        obtain ⟨v, M', hM, h⟩ := h
        obtain ⟨-, -, hM⟩ := hM
        have hM := hM l D ad cA nS f0 f1 H.size
        have hL := z_obj_at ho
        have hq := hW.place hL (fun n hn => by cases hn)
        obtain ⟨-, -, k3, k4⟩ := hW.2.2.2.2.2.1
        have hn : ((st.take n).reverse.map (z_v ad)).length = n := by
          have : n < st.length := by
            rcases Nat.lt_or_ge n st.length with q | q
            · exact q
            · rw [List.drop_eq_nil_of_le q] at hst; cases hst
          simp; omega
        have hRR : i.2.2.2.2.1 + 1 ≤ R.frames ∧ 8 + (i.2.2.1 + 11) + i.2.2.2.2.2 ≤ R.locals := ⟨by rw [hfr]; exact Nat.le_of_ble_eq_true hR0.1, by rw [hlc]; exact Nat.le_of_ble_eq_true hR0.2⟩
        rw [z_stk hst]
        simp only [Nat.sub_self] at hM
        refine z_after (mc := 0) (ms := 0) (va_runVN (C := C) (b := ad b) (As := (st.take n).reverse.map (z_v ad)) ⟨hx, hb, hml, hown, hts⟩ hM ⟨va_cnB n hts (z_gcal hcal) rfl rfl rfl (hE.1 _ h1) (hts _ hcal.2.1) hcal.2.2 hRR, hts _ hins.1, hts _ hins.2⟩ ⟨z_blind, va_recv hK hW.1 hcl (z_ws_at hq hL), fun U hU hU2 => ⟨rfl, z_pre hW h2 hE hU hU2⟩⟩ rfl hn (by show ls.size = nL; rw [hl.1, hlo]) rfl (z_room hb9) hd ⟨k3, k4⟩) hW hA (Nat.add_zero _) (Nat.add_zero _) k3 k4 (fun ad' cA' H1 locs1 hag hW1 => ?_)
        have e9 := z_frees hag
        subst e9
        rw [z_vmap]
        exact hN _ _ _ _ h hlo _ _ _ _ _ _ ls hW1 hl
    · exact h.elim
  · exact h.elim
theorem s_callS {own : String} {cc : ByteArray} {nL : Nat} {nm : String} {rt : Option FieldType} {fr lc kc ks pc : Nat} {i : zI} {n ix : Nat} (hcal : z_Cal i n) (hsta : Cond.static i.1 ∈ z_Ts) (h1 : Cond.methodLink own ix i.1 ∈ z_Ts) (hR0 : Nat.ble (i.2.2.2.2.1 + 1) fr = true ∧ Nat.ble (8 + (i.2.2.1 + 11) + i.2.2.2.2.2) lc = true) (hd : decode cc pc = .ok (.invokestatic ix, 3)) : zS own cc nL nm rt fr lc kc ks pc (pc + 3) (o_cs i n) := by
  intro p l e R s m args below meth c Q D A ad0 n0 s0 nS f0 f1 hC next jump ret hN hJ hR lo st L M h hlo ad cA H locs cells slots ls hW hl
  obtain ⟨hx, hb, hml, hnm, hrt, hlk, hown, hfr, hlc, hkc, hks, h2, hts, hE⟩ := hC
  have hK := hE.2.1
  have hA := hE.2.2.2.2.2
  unfold o_cs at h
  cases hb8 : (Nat.ble n st.length && Nat.ble (z_cat (st.drop n)) 8) with
  | false => rw [hb8] at h; exact h.elim
  | true =>
    rw [hb8] at h
    obtain ⟨hb7, hb9⟩ := Bool.and_eq_true_iff.mp hb8
    obtain ⟨v, M', hM, h⟩ := h
    obtain ⟨-, -, hM⟩ := hM
    have hM := hM l D ad cA nS f0 f1 H.size
    obtain ⟨-, -, k3, k4⟩ := hW.2.2.2.2.2.1
    have hn : ((st.take n).reverse.map (z_v ad)).length = n := by
      have := Nat.le_of_ble_eq_true hb7
      simp; omega
    have hRR : i.2.2.2.2.1 + 1 ≤ R.frames ∧ 8 + (i.2.2.1 + 11) + i.2.2.2.2.2 ≤ R.locals := ⟨by rw [hfr]; exact Nat.le_of_ble_eq_true hR0.1, by rw [hlc]; exact Nat.le_of_ble_eq_true hR0.2⟩
    rw [z_stk0 (n := n)]
    simp only [Nat.sub_self] at hM
    refine z_after (mc := 0) (ms := 0) (va_runS (As := (st.take n).reverse.map (z_v ad)) ⟨hx, hb, hml, hown, hts⟩ hM ⟨callB_of n hts (z_gcal hcal) rfl rfl rfl (hts _ hcal.2.1) (hts _ h1) hcal.2.2 hRR, hts _ hsta⟩ ⟨z_blind, fun U hU hU2 => ⟨rfl, z_pre hW h2 hE hU hU2⟩⟩ rfl hn (by show ls.size = nL; rw [hl.1, hlo]) rfl (z_room hb9) hd ⟨k3, k4⟩) hW hA (Nat.add_zero _) (Nat.add_zero _) k3 k4 (fun ad' cA' H1 locs1 hag hW1 => ?_)
    have e9 := z_frees hag
    subst e9
    rw [z_vmap]
    exact hN _ _ _ _ h hlo _ _ _ _ _ _ ls hW1 hl
theorem s_callSN {own : String} {cc : ByteArray} {nL : Nat} {nm : String} {rt : Option FieldType} {fr lc kc ks pc : Nat} {i : zI} {n ix : Nat} (hcal : z_Cal i n) (hsta : Cond.static i.1 ∈ z_Ts) {host : String} (h1 : Cond.methodLinkNest own ix i.1 host ∈ z_Ns) (hR0 : Nat.ble (i.2.2.2.2.1 + 1) fr = true ∧ Nat.ble (8 + (i.2.2.1 + 11) + i.2.2.2.2.2) lc = true) (hd : decode cc pc = .ok (.invokestatic ix, 3)) : zS own cc nL nm rt fr lc kc ks pc (pc + 3) (o_cs i n) := by
  intro p l e R s m args below meth c Q D A ad0 n0 s0 nS f0 f1 hC next jump ret hN hJ hR lo st L M h hlo ad cA H locs cells slots ls hW hl
  obtain ⟨hx, hb, hml, hnm, hrt, hlk, hown, hfr, hlc, hkc, hks, h2, hts, hE⟩ := hC
  have hK := hE.2.1
  have hA := hE.2.2.2.2.2
  unfold o_cs at h
  cases hb8 : (Nat.ble n st.length && Nat.ble (z_cat (st.drop n)) 8) with
  | false => rw [hb8] at h; exact h.elim
  | true =>
    rw [hb8] at h
    obtain ⟨hb7, hb9⟩ := Bool.and_eq_true_iff.mp hb8
    obtain ⟨v, M', hM, h⟩ := h
    obtain ⟨-, -, hM⟩ := hM
    have hM := hM l D ad cA nS f0 f1 H.size
    obtain ⟨-, -, k3, k4⟩ := hW.2.2.2.2.2.1
    have hn : ((st.take n).reverse.map (z_v ad)).length = n := by
      have := Nat.le_of_ble_eq_true hb7
      simp; omega
    have hRR : i.2.2.2.2.1 + 1 ≤ R.frames ∧ 8 + (i.2.2.1 + 11) + i.2.2.2.2.2 ≤ R.locals := ⟨by rw [hfr]; exact Nat.le_of_ble_eq_true hR0.1, by rw [hlc]; exact Nat.le_of_ble_eq_true hR0.2⟩
    rw [z_stk0 (n := n)]
    simp only [Nat.sub_self] at hM
    refine z_after (mc := 0) (ms := 0) (va_runSN (As := (st.take n).reverse.map (z_v ad)) ⟨hx, hb, hml, hown, hts⟩ hM ⟨va_cnB n hts (z_gcal hcal) rfl rfl rfl (hE.1 _ h1) (hts _ hcal.2.1) hcal.2.2 hRR, hts _ hsta, trivial⟩ ⟨z_blind, fun U hU hU2 => ⟨rfl, z_pre hW h2 hE hU hU2⟩⟩ rfl hn (by show ls.size = nL; rw [hl.1, hlo]) rfl (z_room hb9) hd ⟨k3, k4⟩) hW hA (Nat.add_zero _) (Nat.add_zero _) k3 k4 (fun ad' cA' H1 locs1 hag hW1 => ?_)
    have e9 := z_frees hag
    subst e9
    rw [z_vmap]
    exact hN _ _ _ _ h hlo _ _ _ _ _ _ ls hW1 hl
theorem s_callI {own : String} {cc : ByteArray} {nL : Nat} {nm : String} {rt : Option FieldType} {fr lc kc ks pc : Nat} {i : zI} {n ix : Nat} (hcal : z_Cal i n) (hins : Cond.instanceMethod i.1 ∈ z_Ts) (hini : i.1.name = "<init>") (hret : i.2.2.2.1 = none) (h1 : Cond.methodLink own ix i.1 ∈ z_Ts) (hR0 : Nat.ble (i.2.2.2.2.1 + 1) fr = true ∧ Nat.ble (8 + (i.2.2.1 + 11) + i.2.2.2.2.2) lc = true) (hd : decode cc pc = .ok (.invokespecial ix, 3)) : zS own cc nL nm rt fr lc kc ks pc (pc + 3) (o_ci kc ks i n) := by
  intro p l e R s m args below meth c Q D A ad0 n0 s0 nS f0 f1 hC next jump ret hN hJ hR lo st L M h hlo ad cA H locs cells slots ls hW hl
  obtain ⟨hx, hb, hml, hnm, hrt, hlk, hown, hfr, hlc, hkc, hks, h2, hts, hE⟩ := hC
  have hK := hE.2.1
  have hA := hE.2.2.2.2.2
  unfold o_ci at h
  split at h
  · rename_i b r hst
    cases hb8 : (z_ok lo r L && Nat.ble (z_cat r) 8) with
    | false => rw [hb8] at h; exact h.elim
    | true =>
      rw [hb8] at h
      obtain ⟨g1, hb9⟩ := Bool.and_eq_true_iff.mp hb8
      obtain ⟨g5, g6⟩ := Bool.and_eq_true_iff.mp g1
      obtain ⟨g7, g8⟩ := Bool.and_eq_true_iff.mp g6
      obtain ⟨L', M', hM, ⟨hc1, hc2⟩, h⟩ := h
      obtain ⟨hl1, hl2, hM⟩ := hM
      have hM := hM l D ad cA nS f0 f1 H.size
      obtain ⟨k1, k2, k3, k4⟩ := hW.2.2.2.2.2.1
      have hn : ((st.take n).reverse.map (z_v ad)).length = n := by
        have : n < st.length := by
          rcases Nat.lt_or_ge n st.length with q | q
          · exact q
          · rw [List.drop_eq_nil_of_le q] at hst; cases hst
        simp; omega
      have hRR : i.2.2.2.2.1 + 1 ≤ R.frames ∧ 8 + (i.2.2.1 + 11) + i.2.2.2.2.2 ≤ R.locals := ⟨by rw [hfr]; exact Nat.le_of_ble_eq_true hR0.1, by rw [hlc]; exact Nat.le_of_ble_eq_true hR0.2⟩
      have c1 : cells + (L'.length - L.length) ≤ R.cells := by omega
      have c2 : slots + (z_sz L' - z_sz L) ≤ R.slots := by omega
      rw [z_stk hst]
      refine z_after (va_runI (b := ad b) (As := (st.take n).reverse.map (z_v ad)) ⟨hx, hb, hml, hown, hts⟩ hM ⟨callB_of n hts (z_gcal hcal) (by rw [hret]) rfl rfl (hts _ hcal.2.1) (hts _ h1) hcal.2.2 hRR, hini, hts _ hins⟩ ⟨z_blind, fun U hU hU2 => ⟨rfl, z_pre hW h2 hE hU hU2⟩⟩ rfl hn (by show ls.size = nL; rw [hl.1, hlo]) rfl (z_room hb9) hd ⟨c1, c2⟩) hW hA (by omega) (by omega) c1 c2 (fun ad' cA' H1 locs1 hag hW1 => ?_)
      have hag2 : ∀ p, p < L.length → ad' p = ad p := fun p hp => hag p (Or.inl hp)
      have h9 := hN _ _ _ _ h hlo _ _ _ _ _ _ ls hW1 (z_Lo_ag hag2 hl g5)
      rw [z_st_ag hag2 g7] at h9
      exact h9
  · exact h.elim
theorem s_callIN {own : String} {cc : ByteArray} {nL : Nat} {nm : String} {rt : Option FieldType} {fr lc kc ks pc : Nat} {i : zI} {n ix : Nat} (hcal : z_Cal i n) (hins : Cond.instanceMethod i.1 ∈ z_Ts) (hini : i.1.name = "<init>") (hret : i.2.2.2.1 = none) {host : String} (h1 : Cond.methodLinkNest own ix i.1 host ∈ z_Ns) (hR0 : Nat.ble (i.2.2.2.2.1 + 1) fr = true ∧ Nat.ble (8 + (i.2.2.1 + 11) + i.2.2.2.2.2) lc = true) (hd : decode cc pc = .ok (.invokespecial ix, 3)) : zS own cc nL nm rt fr lc kc ks pc (pc + 3) (o_ci kc ks i n) := by
  intro p l e R s m args below meth c Q D A ad0 n0 s0 nS f0 f1 hC next jump ret hN hJ hR lo st L M h hlo ad cA H locs cells slots ls hW hl
  obtain ⟨hx, hb, hml, hnm, hrt, hlk, hown, hfr, hlc, hkc, hks, h2, hts, hE⟩ := hC
  have hK := hE.2.1
  have hA := hE.2.2.2.2.2
  unfold o_ci at h
  split at h
  · rename_i b r hst
    cases hb8 : (z_ok lo r L && Nat.ble (z_cat r) 8) with
    | false => rw [hb8] at h; exact h.elim
    | true =>
      rw [hb8] at h
      obtain ⟨g1, hb9⟩ := Bool.and_eq_true_iff.mp hb8
      obtain ⟨g5, g6⟩ := Bool.and_eq_true_iff.mp g1
      obtain ⟨g7, g8⟩ := Bool.and_eq_true_iff.mp g6
      obtain ⟨L', M', hM, ⟨hc1, hc2⟩, h⟩ := h
      obtain ⟨hl1, hl2, hM⟩ := hM
      have hM := hM l D ad cA nS f0 f1 H.size
      obtain ⟨k1, k2, k3, k4⟩ := hW.2.2.2.2.2.1
      have hn : ((st.take n).reverse.map (z_v ad)).length = n := by
        have : n < st.length := by
          rcases Nat.lt_or_ge n st.length with q | q
          · exact q
          · rw [List.drop_eq_nil_of_le q] at hst; cases hst
        simp; omega
      have hRR : i.2.2.2.2.1 + 1 ≤ R.frames ∧ 8 + (i.2.2.1 + 11) + i.2.2.2.2.2 ≤ R.locals := ⟨by rw [hfr]; exact Nat.le_of_ble_eq_true hR0.1, by rw [hlc]; exact Nat.le_of_ble_eq_true hR0.2⟩
      have c1 : cells + (L'.length - L.length) ≤ R.cells := by omega
      have c2 : slots + (z_sz L' - z_sz L) ≤ R.slots := by omega
      rw [z_stk hst]
      refine z_after (va_runIN (b := ad b) (As := (st.take n).reverse.map (z_v ad)) ⟨hx, hb, hml, hown, hts⟩ hM ⟨va_cnB n hts (z_gcal hcal) (by rw [hret]) rfl rfl (hE.1 _ h1) (hts _ hcal.2.1) hcal.2.2 hRR, hini, hts _ hins⟩ ⟨z_blind, fun U hU hU2 => ⟨rfl, z_pre hW h2 hE hU hU2⟩⟩ rfl hn (by show ls.size = nL; rw [hl.1, hlo]) rfl (z_room hb9) hd ⟨c1, c2⟩) hW hA (by omega) (by omega) c1 c2 (fun ad' cA' H1 locs1 hag hW1 => ?_)
      have hag2 : ∀ p, p < L.length → ad' p = ad p := fun p hp => hag p (Or.inl hp)
      have h9 := hN _ _ _ _ h hlo _ _ _ _ _ _ ls hW1 (z_Lo_ag hag2 hl g5)
      rw [z_st_ag hag2 g7] at h9
      exact h9
  · exact h.elim
end
section
/-! runs of the shadow machine, and a method's contract out of one -/
def z_run : List (Bool × Nat × zOp) → zJ → zR → zN
  | [], _, _ => fun _ _ _ _ => False
  | q :: r, jump, ret => q.2.2 (z_run r jump ret) jump ret
def z_from (pc : Nat) : List (Bool × Nat × zOp) → List (Bool × Nat × zOp)
  | [] => []
  | q :: r => bif q.1 && Nat.beq q.2.1 pc then q :: r else z_from pc r
def z_pcs (r : List (Bool × Nat × zOp)) : Nat := match r with
  | [] => 0
  | q :: _ => q.2.1
def z_OK (S : Nat → Nat → zOp → Prop) : List (Bool × Nat × zOp) → Prop
  | [] => True
  | q :: r => S q.2.1 (z_pcs r) q.2.2 ∧ z_OK S r
/-- from here the frame returns, as ret says -/
def z_E (P : List (Bool × Nat × zOp)) (ret : zR) (pc : Nat) (lo : zO) (st : List Value) (L : zL) (M : zM) : Prop :=
  ∀ X : zJ, (∀ pc lo st L M, (∃ Y : zJ, (∀ t lo st L M, Y t lo st L M → X t lo st L M) ∧ z_run (z_from pc P) Y ret lo st L M) → X pc lo st L M) → X pc lo st L M
theorem z_go {P : List (Bool × Nat × zOp)} {ret : zR} {pc : Nat} {lo : zO} {st : List Value} {L : zL} {M : zM} (h : z_run (z_from pc P) (z_E P ret) ret lo st L M) : z_E P ret pc lo st L M :=
  fun X hX => hX _ _ _ _ _ ⟨z_E P ret, fun _ _ _ _ _ h => h X hX, h⟩
theorem z_from_ok {S : Nat → Nat → zOp → Prop} (pc : Nat) : ∀ {P : List (Bool × Nat × zOp)}, z_OK S P → z_OK S (z_from pc P)
  | [], h => h
  | q :: r, h => by
    unfold z_from
    cases hb : (q.1 && Nat.beq q.2.1 pc) with
    | true => exact h
    | false => exact z_from_ok pc h.2
theorem z_from_pc (pc : Nat) : ∀ {P : List (Bool × Nat × zOp)}, z_from pc P = [] ∨ z_pcs (z_from pc P) = pc
  | [] => Or.inl rfl
  | q :: r => by
    unfold z_from
    cases hb : (q.1 && Nat.beq q.2.1 pc) with
    | true => exact Or.inr (Nat.eq_of_beq_eq_true (Bool.and_eq_true_iff.mp hb).2)
    | false => exact z_from_pc pc
theorem z_sound {own : String} {cc : ByteArray} {nL : Nat} {nm : String} {rt : Option FieldType} {fr lc kc ks : Nat} {P : List (Bool × Nat × zOp)} (hOK : z_OK (zS own cc nL nm rt fr lc kc ks) P)
    {p : Program} {l : Launch} {e : Env} {R : Room} {s : State} {m : MethodId} {args : Array Value} {below : List Frame} {meth : Method} {c : Code} {Q : State → Prop} {D : va_G} {A : Nat → Prop} {ad0 : Nat → Nat} {n0 s0 nS : Nat} {f0 f1 : Nat → Int32}
    (hC : z_Cx own cc nL nm rt fr lc kc ks p R s m args meth c D A ad0 n0 s0 nS f0 f1) {ret : zR} (hR : ∀ v L M, ret v L M → z_T cc rt p l e R s m args below meth c Q D A ad0 n0 s0 nS f0 f1 v L M)
    {pc : Nat} {lo : zO} {st : List Value} {L : zL} {M : zM} (h : z_E P ret pc lo st L M) : z_K p l e R s m args below meth c Q D A ad0 n0 s0 nS f0 f1 nL pc lo st L M := by
  refine h (fun t lo st L M => z_K p l e R s m args below meth c Q D A ad0 n0 s0 nS f0 f1 nL t lo st L M) ?_
  rintro t lo st L M ⟨Y, hY, hrun⟩
  have key : ∀ (r : List (Bool × Nat × zOp)), z_OK (zS own cc nL nm rt fr lc kc ks) r → ∀ lo st L M, z_run r Y ret lo st L M → z_K p l e R s m args below meth c Q D A ad0 n0 s0 nS f0 f1 nL (z_pcs r) lo st L M := by
    intro r
    induction r with
    | nil => intro _ lo st L M h; exact h.elim
    | cons q r ih =>
      intro hok lo st L M h
      exact hok.1 p l e R s m args below meth c Q D A ad0 n0 s0 nS f0 f1 hC (z_run r Y ret) Y ret (fun lo st L M h => ih hok.2 lo st L M h) hY hR lo st L M h
  have h1 := key _ (z_from_ok t hOK) lo st L M hrun
  rcases z_from_pc t (P := P) with e1 | e1
  · rw [e1] at hrun; exact hrun.elim
  · rw [e1] at h1; exact h1
-- the locals at a method's entry
def z_sl : List Value → zO
  | [] => []
  | v :: r => bif Nat.beq v.category 2 then some v :: none :: z_sl r else some v :: z_sl r
def z_lo (n : Nat) (as : List Value) : zO := z_sl as ++ List.replicate (n - (z_sl as).length) none
theorem z_sl_len (ad : Nat → Nat) : ∀ (as : List Value), (lg_sl (as.map (z_v ad))).length = (z_sl as).length
  | [] => rfl
  | v :: r => by
    have ih := z_sl_len ad r
    cases hb : Nat.beq v.category 2 with
    | true =>
      have e := Nat.eq_of_beq_eq_true hb
      have e2 : (z_v ad v).category = 2 := by rw [z_v_cat]; exact e
      simp [z_sl, hb, lg_sl, e2]
      simpa [lg_sl] using ih
    | false =>
      have e2 : ¬ (z_v ad v).category = 2 := by rw [z_v_cat]; intro h; rw [h] at hb; cases hb
      simp [z_sl, hb, lg_sl, e2]
      have := ih
      simp [lg_sl] at this
      omega
theorem z_sl_at (ad : Nat → Nat) : ∀ (as : List Value) (k i : Nat) (v : Value), (z_sl as)[i]? = some (some v) → (k + i, z_v ad v) ∈ lv_args k (as.map (z_v ad))
  | [], _, _, _, h => by cases h
  | w :: r, k, i, v, h => by
    unfold z_sl at h
    cases hb : Nat.beq w.category 2 with
    | true =>
      rw [hb] at h
      have e2 : (z_v ad w).category = 2 := by rw [z_v_cat]; exact Nat.eq_of_beq_eq_true hb
      simp only [List.map_cons, lv_args, e2, if_true]
      match i, h with
      | 0, h => cases h; exact List.mem_cons_self
      | 1, h => cases h
      | j + 2, h =>
        have := z_sl_at ad r (k + 2) j v h
        rw [show k + (j + 2) = k + 2 + j by omega]
        exact List.mem_cons_of_mem _ this
    | false =>
      rw [hb] at h
      have e2 : ¬ (z_v ad w).category = 2 := by rw [z_v_cat]; intro h; rw [h] at hb; cases hb
      simp only [List.map_cons, lv_args, e2, if_false]
      match i, h with
      | 0, h => cases h; exact List.mem_cons_self
      | j + 1, h =>
        have := z_sl_at ad r (k + 1) j v h
        rw [show k + (j + 1) = k + 1 + j by omega]
        exact List.mem_cons_of_mem _ this
theorem z_entry (ad : Nat → Nat) (as : List Value) (n : Nat) (h : (z_sl as).length ≤ n) : z_Lo ad ((lg_sl (as.map (z_v ad)) ++ List.replicate (n - (lg_sl (as.map (z_v ad))).length) Slot.unset).toArray) (z_lo n as) ∧ (z_lo n as).length = n := by
  have hl := lv_entry (as.map (z_v ad)) (n := n) (by rw [z_sl_len]; exact h)
  have e : (z_lo n as).length = n := by simp [z_lo]; omega
  refine ⟨⟨hl.1.trans e.symm, hl.2.1, fun i v hi => ?_⟩, e⟩
  unfold z_lo at hi
  by_cases hlt : i < (z_sl as).length
  · rw [List.getElem?_append_left hlt] at hi
    have := z_sl_at ad as 0 i v hi
    rw [Nat.zero_add] at this
    exact hl.2.2 _ this
  · rw [List.getElem?_append_right (by omega)] at hi
    have := List.eq_of_mem_replicate (List.mem_of_getElem? hi)
    cases this
/-- a method's contract out of a run -/
theorem z_meth {i : zI} {P : List (Bool × Nat × zOp)} {L L' : zL} {M M' : zM} {v : Option Value} {as : List Value} (hOK : z_OK (zS i.1.cls i.2.1 i.2.2.1 i.1.name i.2.2.2.1 i.2.2.2.2.1 i.2.2.2.2.2 L'.length (z_sz L')) P) (hy : plainName i.1.cls = true)
    (h1 : L.length ≤ L'.length) (h2 : z_sz L ≤ z_sz L') (h3 : 2 ≤ L.length) (hn : Nat.ble (z_sl as).length i.2.2.1 = true)
    (h : z_E P (fun v' L'' M'' => v' = v ∧ L'' = L' ∧ M'' = M') 0 (z_lo i.2.2.1 as) [] L M) : zMet i as L M v L' M' := by
  refine ⟨h1, h2, fun l D ad cA nS f0 f1 sz => ?_⟩
  refine Met.ofW (cc := i.2.1) (maxL := i.2.2.1) (ret := i.2.2.2.1) hy rfl ?_
  intro p e s m args below meth c s₁ B hml hv
  obtain ⟨rfl, hsz, hP, hD0, hAr, hFz, hE⟩ := hv
  have hts := atoms_spec (ws := Cond.code i.1 i.2.1 i.2.2.1 i.2.2.2.1 :: z_Ts) B.pre
  have hlocks := B.notSynchronized
  subst hsz
  have hD := hD0.self (sz := s.heap.size)
  have hC : z_Cx i.1.cls i.2.1 i.2.2.1 i.1.name i.2.2.2.1 i.2.2.2.2.1 i.2.2.2.2.2 L'.length (z_sz L') p (headSpec (Cond.code i.1 i.2.1 i.2.2.1 i.2.2.2.1 :: z_Ts) { frames := i.2.2.2.2.1, cells := L'.length - L.length, slots := z_sz L' - z_sz L, locals := i.2.2.2.2.2 }).room s m (as.map (z_v ad)).toArray meth c D (va_A (z_ws ad cA L M) s.heap.size) ad L.length (z_sz L) nS f0 f1 :=
    ⟨B.exec, B.bytes, hml, (name_of_methodNamed B.named B.method).1, B.returns, hlocks, findClass_of_methodNamed B.named, rfl, rfl, by show L'.length - L.length + L.length = _; omega, by show z_sz L' - z_sz L + z_sz L = _; omega, h3, fun w hw => hts w (List.mem_cons_of_mem _ hw), hE⟩
  have hent := z_entry ad as i.2.2.1 (Nat.le_of_ble_eq_true hn)
  rw [lg_entry_eq]
  refine z_sound hOK hC (ret := fun v' L'' M'' => v' = v ∧ L'' = L' ∧ M'' = M') ?_ h hent.2 ad cA s.heap [] 0 0 _ ⟨hP, hD, va_S.rf, hAr, fun _ _ => rfl, ⟨by omega, by omega, by omega, by omega⟩, hFz⟩ hent.1
  rintro v' L'' M'' ⟨rfl, rfl, rfl⟩
  intro ad1 cA1 H locs cells slots ls pc ins hW hd hri
  obtain ⟨q1, q2, q3, q4, q5, ⟨k1, k2, k3, k4⟩, q7⟩ := hW
  have ec : cells = L''.length - L.length := by omega
  have es : slots = z_sz L'' - z_sz L := by omega
  subst ec; subst es
  have post : ∀ t : State, t.heap = H → s.WarmedH t.vm → z_Post D ad cA nS f0 f1 s.heap.size L M v' L'' M'' s (.returned (v'.map (z_v ad1))) t := fun t ht hWm => ⟨ad1, cA1, rfl, q5, by rw [ht]; exact q1, q2, q4.moved hWm.alike, q7, q3.F ht⟩
  rcases hri with ⟨rfl, x, ty, rfl, hr, hnar⟩ | ⟨rfl, x, rfl, hr⟩ | ⟨rfl, x, ty, rfl, hr, hty⟩ | ⟨rfl, rfl, hr⟩
  · exact W.zret B.exec B.bytes (B.returns.trans hr) hnar post q3.2.2 hd
  · exact W.lret B.exec B.bytes (B.returns.trans hr) post q3.2.2 hd
  · exact W.aret B.exec B.bytes (B.returns.trans hr) hty (Or.inr ⟨ad1 x, rfl⟩) post q3.2.2 hd
  · exact W.vret B.exec B.bytes (B.returns.trans hr) post q3.2.2 hd
end
