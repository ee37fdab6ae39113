-- ===== PART A: goes FIRST, ahead of the names: the tables' words, and 'selects' of the private methods out of them =====
/-- a private method of a class that the tables say can be made, by its rows of tables_1 -/
def lw_okq (q : MethodName × Nat) : Prop := (q.1.cls ≠ "java/lang/invoke/MethodHandle" ∧ q.1.cls ≠ "java/lang/invoke/VarHandle") ∧ Cond.instantiable q.1.cls q.2 ∈ tables_1 ∧ Cond.privateMethod q.1 ∈ tables_1 ∧ Cond.instanceMethod q.1 ∈ tables_1
theorem lw_p0 : lw_okq (⟨"WoolBridge$Text", "advance", "()V"⟩, 6) := ⟨⟨by decide +kernel, by decide +kernel⟩, List.mem_of_getElem? (i := 20) (by decide +kernel), List.mem_of_getElem? (i := 249) (by decide +kernel), List.mem_of_getElem? (i := 250) (by decide +kernel)⟩
theorem lw_p1 : lw_okq (⟨"WoolBridge$Text", "weigh", "(I)V"⟩, 6) := ⟨⟨by decide +kernel, by decide +kernel⟩, List.mem_of_getElem? (i := 20) (by decide +kernel), List.mem_of_getElem? (i := 256) (by decide +kernel), List.mem_of_getElem? (i := 257) (by decide +kernel)⟩
theorem lw_p2 : lw_okq (⟨"WoolBridge$Text", "readItem", "(LWoolBridge$Told;)Z"⟩, 6) := ⟨⟨by decide +kernel, by decide +kernel⟩, List.mem_of_getElem? (i := 20) (by decide +kernel), List.mem_of_getElem? (i := 260) (by decide +kernel), List.mem_of_getElem? (i := 261) (by decide +kernel)⟩
theorem lw_p3 : lw_okq (⟨"WoolBridge$Text", "readPerson", "(LWoolBridge$Told;)Z"⟩, 6) := ⟨⟨by decide +kernel, by decide +kernel⟩, List.mem_of_getElem? (i := 20) (by decide +kernel), List.mem_of_getElem? (i := 264) (by decide +kernel), List.mem_of_getElem? (i := 265) (by decide +kernel)⟩
theorem lw_p4 : lw_okq (⟨"WoolBridge$Text", "readNumber", "(II)Z"⟩, 6) := ⟨⟨by decide +kernel, by decide +kernel⟩, List.mem_of_getElem? (i := 20) (by decide +kernel), List.mem_of_getElem? (i := 268) (by decide +kernel), List.mem_of_getElem? (i := 269) (by decide +kernel)⟩
theorem lw_p5 : lw_okq (⟨"WoolBridge$Text", "readSemicolon", "()Z"⟩, 6) := ⟨⟨by decide +kernel, by decide +kernel⟩, List.mem_of_getElem? (i := 20) (by decide +kernel), List.mem_of_getElem? (i := 277) (by decide +kernel), List.mem_of_getElem? (i := 278) (by decide +kernel)⟩
theorem lw_p6 : lw_okq (⟨"WoolBridge$Text", "readRows", "(LWoolBridge$Told;)Z"⟩, 6) := ⟨⟨by decide +kernel, by decide +kernel⟩, List.mem_of_getElem? (i := 20) (by decide +kernel), List.mem_of_getElem? (i := 281) (by decide +kernel), List.mem_of_getElem? (i := 282) (by decide +kernel)⟩
theorem lw_p7 : lw_okq (⟨"WoolBridge$Text", "readGap", "(LWoolBridge$Told;)Z"⟩, 6) := ⟨⟨by decide +kernel, by decide +kernel⟩, List.mem_of_getElem? (i := 20) (by decide +kernel), List.mem_of_getElem? (i := 292) (by decide +kernel), List.mem_of_getElem? (i := 293) (by decide +kernel)⟩
theorem lw_p8 : lw_okq (⟨"WoolBridge$Text", "readSlack", "(LWoolBridge$Told;)Z"⟩, 6) := ⟨⟨by decide +kernel, by decide +kernel⟩, List.mem_of_getElem? (i := 20) (by decide +kernel), List.mem_of_getElem? (i := 296) (by decide +kernel), List.mem_of_getElem? (i := 297) (by decide +kernel)⟩
theorem lw_p9 : lw_okq (⟨"WoolBridge", "span", "()LWoolBridge$Span;"⟩, 9) := ⟨⟨by decide +kernel, by decide +kernel⟩, List.mem_of_getElem? (i := 12) (by decide +kernel), List.mem_of_getElem? (i := 336) (by decide +kernel), List.mem_of_getElem? (i := 337) (by decide +kernel)⟩
theorem lw_p10 : lw_okq (⟨"WoolBridge", "holdsNow", "(I)Z"⟩, 9) := ⟨⟨by decide +kernel, by decide +kernel⟩, List.mem_of_getElem? (i := 12) (by decide +kernel), List.mem_of_getElem? (i := 370) (by decide +kernel), List.mem_of_getElem? (i := 371) (by decide +kernel)⟩
theorem lw_p11 : lw_okq (⟨"WoolBridge", "mayCross", "()I"⟩, 9) := ⟨⟨by decide +kernel, by decide +kernel⟩, List.mem_of_getElem? (i := 12) (by decide +kernel), List.mem_of_getElem? (i := 449) (by decide +kernel), List.mem_of_getElem? (i := 450) (by decide +kernel)⟩
theorem lw_p12 : lw_okq (⟨"WoolBridge$Ahead", "length", "()I"⟩, 4) := ⟨⟨by decide +kernel, by decide +kernel⟩, List.mem_of_getElem? (i := 119) (by decide +kernel), List.mem_of_getElem? (i := 482) (by decide +kernel), List.mem_of_getElem? (i := 483) (by decide +kernel)⟩
theorem lw_p13 : lw_okq (⟨"WoolBridge$Ahead", "first", "()I"⟩, 4) := ⟨⟨by decide +kernel, by decide +kernel⟩, List.mem_of_getElem? (i := 119) (by decide +kernel), List.mem_of_getElem? (i := 486) (by decide +kernel), List.mem_of_getElem? (i := 487) (by decide +kernel)⟩
theorem lw_p14 : lw_okq (⟨"WoolBridge$Ahead", "least", "()I"⟩, 4) := ⟨⟨by decide +kernel, by decide +kernel⟩, List.mem_of_getElem? (i := 119) (by decide +kernel), List.mem_of_getElem? (i := 492) (by decide +kernel), List.mem_of_getElem? (i := 493) (by decide +kernel)⟩
theorem lw_p15 : lw_okq (⟨"WoolBridge$Ahead", "knit", "(LWoolBridge$Told;I)V"⟩, 4) := ⟨⟨by decide +kernel, by decide +kernel⟩, List.mem_of_getElem? (i := 119) (by decide +kernel), List.mem_of_getElem? (i := 498) (by decide +kernel), List.mem_of_getElem? (i := 499) (by decide +kernel)⟩
def lw_privs_1 : List (MethodName × Nat) := [(⟨"WoolBridge$Text", "advance", "()V"⟩, 6), (⟨"WoolBridge$Text", "weigh", "(I)V"⟩, 6), (⟨"WoolBridge$Text", "readItem", "(LWoolBridge$Told;)Z"⟩, 6), (⟨"WoolBridge$Text", "readPerson", "(LWoolBridge$Told;)Z"⟩, 6), (⟨"WoolBridge$Text", "readNumber", "(II)Z"⟩, 6), (⟨"WoolBridge$Text", "readSemicolon", "()Z"⟩, 6), (⟨"WoolBridge$Text", "readRows", "(LWoolBridge$Told;)Z"⟩, 6), (⟨"WoolBridge$Text", "readGap", "(LWoolBridge$Told;)Z"⟩, 6), (⟨"WoolBridge$Text", "readSlack", "(LWoolBridge$Told;)Z"⟩, 6), (⟨"WoolBridge", "span", "()LWoolBridge$Span;"⟩, 9), (⟨"WoolBridge", "holdsNow", "(I)Z"⟩, 9), (⟨"WoolBridge", "mayCross", "()I"⟩, 9), (⟨"WoolBridge$Ahead", "length", "()I"⟩, 4), (⟨"WoolBridge$Ahead", "first", "()I"⟩, 4), (⟨"WoolBridge$Ahead", "least", "()I"⟩, 4), (⟨"WoolBridge$Ahead", "knit", "(LWoolBridge$Told;I)V"⟩, 4)]
theorem lw_r1 : ∀ q ∈ lw_privs_1, lw_okq q := List.forall_mem_cons.mpr ⟨lw_p0, List.forall_mem_cons.mpr ⟨lw_p1, List.forall_mem_cons.mpr ⟨lw_p2, List.forall_mem_cons.mpr ⟨lw_p3, List.forall_mem_cons.mpr ⟨lw_p4, List.forall_mem_cons.mpr ⟨lw_p5, List.forall_mem_cons.mpr ⟨lw_p6, List.forall_mem_cons.mpr ⟨lw_p7, List.forall_mem_cons.mpr ⟨lw_p8, List.forall_mem_cons.mpr ⟨lw_p9, List.forall_mem_cons.mpr ⟨lw_p10, List.forall_mem_cons.mpr ⟨lw_p11, List.forall_mem_cons.mpr ⟨lw_p12, List.forall_mem_cons.mpr ⟨lw_p13, List.forall_mem_cons.mpr ⟨lw_p14, List.forall_mem_cons.mpr ⟨lw_p15, fun _ h => absurd h List.not_mem_nil⟩⟩⟩⟩⟩⟩⟩⟩⟩⟩⟩⟩⟩⟩⟩⟩
theorem lw_p16 : lw_okq (⟨"WoolBridge", "rowsToGap", "(LWoolBridge$Span;)I"⟩, 9) := ⟨⟨by decide +kernel, by decide +kernel⟩, List.mem_of_getElem? (i := 12) (by decide +kernel), List.mem_of_getElem? (i := 522) (by decide +kernel), List.mem_of_getElem? (i := 523) (by decide +kernel)⟩
theorem lw_p17 : lw_okq (⟨"WoolBridge", "chancesAfter", "(III)I"⟩, 9) := ⟨⟨by decide +kernel, by decide +kernel⟩, List.mem_of_getElem? (i := 12) (by decide +kernel), List.mem_of_getElem? (i := 535) (by decide +kernel), List.mem_of_getElem? (i := 536) (by decide +kernel)⟩
theorem lw_p18 : lw_okq (⟨"WoolBridge", "markOfRow", "(I)I"⟩, 9) := ⟨⟨by decide +kernel, by decide +kernel⟩, List.mem_of_getElem? (i := 12) (by decide +kernel), List.mem_of_getElem? (i := 581) (by decide +kernel), List.mem_of_getElem? (i := 582) (by decide +kernel)⟩
theorem lw_p19 : lw_okq (⟨"WoolBridge", "markOfPoor", "(I)I"⟩, 9) := ⟨⟨by decide +kernel, by decide +kernel⟩, List.mem_of_getElem? (i := 12) (by decide +kernel), List.mem_of_getElem? (i := 585) (by decide +kernel), List.mem_of_getElem? (i := 586) (by decide +kernel)⟩
theorem lw_p20 : lw_okq (⟨"WoolBridge", "markOfBride", "(I)I"⟩, 9) := ⟨⟨by decide +kernel, by decide +kernel⟩, List.mem_of_getElem? (i := 12) (by decide +kernel), List.mem_of_getElem? (i := 590) (by decide +kernel), List.mem_of_getElem? (i := 591) (by decide +kernel)⟩
theorem lw_p21 : lw_okq (⟨"WoolBridge", "markOfDrover", "(I)I"⟩, 9) := ⟨⟨by decide +kernel, by decide +kernel⟩, List.mem_of_getElem? (i := 12) (by decide +kernel), List.mem_of_getElem? (i := 595) (by decide +kernel), List.mem_of_getElem? (i := 596) (by decide +kernel)⟩
theorem lw_p22 : lw_okq (⟨"WoolBridge", "markOfOath", "(I)I"⟩, 9) := ⟨⟨by decide +kernel, by decide +kernel⟩, List.mem_of_getElem? (i := 12) (by decide +kernel), List.mem_of_getElem? (i := 600) (by decide +kernel), List.mem_of_getElem? (i := 601) (by decide +kernel)⟩
theorem lw_p23 : lw_okq (⟨"WoolBridge", "markOfSheep", "(I)I"⟩, 9) := ⟨⟨by decide +kernel, by decide +kernel⟩, List.mem_of_getElem? (i := 12) (by decide +kernel), List.mem_of_getElem? (i := 605) (by decide +kernel), List.mem_of_getElem? (i := 606) (by decide +kernel)⟩
theorem lw_p24 : lw_okq (⟨"WoolBridgeModel", "reads", "()Z"⟩, 15) := ⟨⟨by decide +kernel, by decide +kernel⟩, List.mem_of_getElem? (i := 630) (by decide +kernel), List.mem_of_getElem? (i := 636) (by decide +kernel), List.mem_of_getElem? (i := 637) (by decide +kernel)⟩
theorem lw_p25 : lw_okq (⟨"WoolBridgeModel", "token", "()V"⟩, 15) := ⟨⟨by decide +kernel, by decide +kernel⟩, List.mem_of_getElem? (i := 630) (by decide +kernel), List.mem_of_getElem? (i := 640) (by decide +kernel), List.mem_of_getElem? (i := 641) (by decide +kernel)⟩
theorem lw_p26 : lw_okq (⟨"WoolBridgeModel", "byteAt", "(I)I"⟩, 15) := ⟨⟨by decide +kernel, by decide +kernel⟩, List.mem_of_getElem? (i := 630) (by decide +kernel), List.mem_of_getElem? (i := 644) (by decide +kernel), List.mem_of_getElem? (i := 645) (by decide +kernel)⟩
theorem lw_p27 : lw_okq (⟨"WoolBridgeModel", "readsItem", "()Z"⟩, 15) := ⟨⟨by decide +kernel, by decide +kernel⟩, List.mem_of_getElem? (i := 630) (by decide +kernel), List.mem_of_getElem? (i := 657) (by decide +kernel), List.mem_of_getElem? (i := 658) (by decide +kernel)⟩
theorem lw_p28 : lw_okq (⟨"WoolBridgeModel", "number", "(III)Z"⟩, 15) := ⟨⟨by decide +kernel, by decide +kernel⟩, List.mem_of_getElem? (i := 630) (by decide +kernel), List.mem_of_getElem? (i := 661) (by decide +kernel), List.mem_of_getElem? (i := 662) (by decide +kernel)⟩
theorem lw_p29 : lw_okq (⟨"WoolBridgeModel", "readsRows", "()Z"⟩, 15) := ⟨⟨by decide +kernel, by decide +kernel⟩, List.mem_of_getElem? (i := 630) (by decide +kernel), List.mem_of_getElem? (i := 665) (by decide +kernel), List.mem_of_getElem? (i := 666) (by decide +kernel)⟩
theorem lw_p30 : lw_okq (⟨"WoolBridgeModel", "once", "(III)Z"⟩, 15) := ⟨⟨by decide +kernel, by decide +kernel⟩, List.mem_of_getElem? (i := 630) (by decide +kernel), List.mem_of_getElem? (i := 669) (by decide +kernel), List.mem_of_getElem? (i := 670) (by decide +kernel)⟩
theorem lw_p31 : lw_okq (⟨"WoolBridgeModel", "tells", "()V"⟩, 15) := ⟨⟨by decide +kernel, by decide +kernel⟩, List.mem_of_getElem? (i := 630) (by decide +kernel), List.mem_of_getElem? (i := 673) (by decide +kernel), List.mem_of_getElem? (i := 674) (by decide +kernel)⟩
def lw_privs_2 : List (MethodName × Nat) := [(⟨"WoolBridge", "rowsToGap", "(LWoolBridge$Span;)I"⟩, 9), (⟨"WoolBridge", "chancesAfter", "(III)I"⟩, 9), (⟨"WoolBridge", "markOfRow", "(I)I"⟩, 9), (⟨"WoolBridge", "markOfPoor", "(I)I"⟩, 9), (⟨"WoolBridge", "markOfBride", "(I)I"⟩, 9), (⟨"WoolBridge", "markOfDrover", "(I)I"⟩, 9), (⟨"WoolBridge", "markOfOath", "(I)I"⟩, 9), (⟨"WoolBridge", "markOfSheep", "(I)I"⟩, 9), (⟨"WoolBridgeModel", "reads", "()Z"⟩, 15), (⟨"WoolBridgeModel", "token", "()V"⟩, 15), (⟨"WoolBridgeModel", "byteAt", "(I)I"⟩, 15), (⟨"WoolBridgeModel", "readsItem", "()Z"⟩, 15), (⟨"WoolBridgeModel", "number", "(III)Z"⟩, 15), (⟨"WoolBridgeModel", "readsRows", "()Z"⟩, 15), (⟨"WoolBridgeModel", "once", "(III)Z"⟩, 15), (⟨"WoolBridgeModel", "tells", "()V"⟩, 15)]
theorem lw_r2 : ∀ q ∈ lw_privs_2, lw_okq q := List.forall_mem_cons.mpr ⟨lw_p16, List.forall_mem_cons.mpr ⟨lw_p17, List.forall_mem_cons.mpr ⟨lw_p18, List.forall_mem_cons.mpr ⟨lw_p19, List.forall_mem_cons.mpr ⟨lw_p20, List.forall_mem_cons.mpr ⟨lw_p21, List.forall_mem_cons.mpr ⟨lw_p22, List.forall_mem_cons.mpr ⟨lw_p23, List.forall_mem_cons.mpr ⟨lw_p24, List.forall_mem_cons.mpr ⟨lw_p25, List.forall_mem_cons.mpr ⟨lw_p26, List.forall_mem_cons.mpr ⟨lw_p27, List.forall_mem_cons.mpr ⟨lw_p28, List.forall_mem_cons.mpr ⟨lw_p29, List.forall_mem_cons.mpr ⟨lw_p30, List.forall_mem_cons.mpr ⟨lw_p31, fun _ h => absurd h List.not_mem_nil⟩⟩⟩⟩⟩⟩⟩⟩⟩⟩⟩⟩⟩⟩⟩⟩
theorem lw_p32 : lw_okq (⟨"WoolBridgeModel", "isPerson", "(I)Z"⟩, 15) := ⟨⟨by decide +kernel, by decide +kernel⟩, List.mem_of_getElem? (i := 630) (by decide +kernel), List.mem_of_getElem? (i := 739) (by decide +kernel), List.mem_of_getElem? (i := 740) (by decide +kernel)⟩
theorem lw_p33 : lw_okq (⟨"WoolBridgeModel", "share", "(I)I"⟩, 15) := ⟨⟨by decide +kernel, by decide +kernel⟩, List.mem_of_getElem? (i := 630) (by decide +kernel), List.mem_of_getElem? (i := 743) (by decide +kernel), List.mem_of_getElem? (i := 744) (by decide +kernel)⟩
theorem lw_p34 : lw_okq (⟨"WoolBridgeModel", "isRow", "(I)Z"⟩, 15) := ⟨⟨by decide +kernel, by decide +kernel⟩, List.mem_of_getElem? (i := 630) (by decide +kernel), List.mem_of_getElem? (i := 751) (by decide +kernel), List.mem_of_getElem? (i := 752) (by decide +kernel)⟩
theorem lw_p35 : lw_okq (⟨"WoolBridgeModel", "bears", "(I)I"⟩, 15) := ⟨⟨by decide +kernel, by decide +kernel⟩, List.mem_of_getElem? (i := 630) (by decide +kernel), List.mem_of_getElem? (i := 755) (by decide +kernel), List.mem_of_getElem? (i := 756) (by decide +kernel)⟩
theorem lw_p36 : lw_okq (⟨"WoolBridgeModel", "holds", "(I)Z"⟩, 15) := ⟨⟨by decide +kernel, by decide +kernel⟩, List.mem_of_getElem? (i := 630) (by decide +kernel), List.mem_of_getElem? (i := 763) (by decide +kernel), List.mem_of_getElem? (i := 764) (by decide +kernel)⟩
theorem lw_p37 : lw_okq (⟨"WoolBridgeModel", "most", "()I"⟩, 15) := ⟨⟨by decide +kernel, by decide +kernel⟩, List.mem_of_getElem? (i := 630) (by decide +kernel), List.mem_of_getElem? (i := 770) (by decide +kernel), List.mem_of_getElem? (i := 771) (by decide +kernel)⟩
theorem lw_p38 : lw_okq (⟨"WoolBridgeModel", "keeps", "()V"⟩, 15) := ⟨⟨by decide +kernel, by decide +kernel⟩, List.mem_of_getElem? (i := 630) (by decide +kernel), List.mem_of_getElem? (i := 774) (by decide +kernel), List.mem_of_getElem? (i := 775) (by decide +kernel)⟩
theorem lw_p39 : lw_okq (⟨"WoolBridgeModel", "goesOver", "(I)V"⟩, 15) := ⟨⟨by decide +kernel, by decide +kernel⟩, List.mem_of_getElem? (i := 630) (by decide +kernel), List.mem_of_getElem? (i := 778) (by decide +kernel), List.mem_of_getElem? (i := 779) (by decide +kernel)⟩
theorem lw_p40 : lw_okq (⟨"WoolBridgeModel", "knits", "(III)V"⟩, 15) := ⟨⟨by decide +kernel, by decide +kernel⟩, List.mem_of_getElem? (i := 630) (by decide +kernel), List.mem_of_getElem? (i := 782) (by decide +kernel), List.mem_of_getElem? (i := 783) (by decide +kernel)⟩
theorem lw_p41 : lw_okq (⟨"WoolBridgeModel", "goesAway", "(I)V"⟩, 15) := ⟨⟨by decide +kernel, by decide +kernel⟩, List.mem_of_getElem? (i := 630) (by decide +kernel), List.mem_of_getElem? (i := 786) (by decide +kernel), List.mem_of_getElem? (i := 787) (by decide +kernel)⟩
theorem lw_p42 : lw_okq (⟨"WoolBridgeModel", "ages", "()V"⟩, 15) := ⟨⟨by decide +kernel, by decide +kernel⟩, List.mem_of_getElem? (i := 630) (by decide +kernel), List.mem_of_getElem? (i := 810) (by decide +kernel), List.mem_of_getElem? (i := 811) (by decide +kernel)⟩
theorem lw_p43 : lw_okq (⟨"WoolBridgeModel", "thin", "()I"⟩, 15) := ⟨⟨by decide +kernel, by decide +kernel⟩, List.mem_of_getElem? (i := 630) (by decide +kernel), List.mem_of_getElem? (i := 822) (by decide +kernel), List.mem_of_getElem? (i := 823) (by decide +kernel)⟩
theorem lw_p44 : lw_okq (⟨"WoolBridgeModel", "remembers", "()V"⟩, 15) := ⟨⟨by decide +kernel, by decide +kernel⟩, List.mem_of_getElem? (i := 630) (by decide +kernel), List.mem_of_getElem? (i := 830) (by decide +kernel), List.mem_of_getElem? (i := 831) (by decide +kernel)⟩
theorem lw_p45 : lw_okq (⟨"WoolBridgeModel", "lets", "()V"⟩, 15) := ⟨⟨by decide +kernel, by decide +kernel⟩, List.mem_of_getElem? (i := 630) (by decide +kernel), List.mem_of_getElem? (i := 834) (by decide +kernel), List.mem_of_getElem? (i := 835) (by decide +kernel)⟩
theorem lw_p46 : lw_okq (⟨"WoolBridgeModel", "isSo", "()Z"⟩, 15) := ⟨⟨by decide +kernel, by decide +kernel⟩, List.mem_of_getElem? (i := 630) (by decide +kernel), List.mem_of_getElem? (i := 870) (by decide +kernel), List.mem_of_getElem? (i := 871) (by decide +kernel)⟩
def lw_privs_3 : List (MethodName × Nat) := [(⟨"WoolBridgeModel", "isPerson", "(I)Z"⟩, 15), (⟨"WoolBridgeModel", "share", "(I)I"⟩, 15), (⟨"WoolBridgeModel", "isRow", "(I)Z"⟩, 15), (⟨"WoolBridgeModel", "bears", "(I)I"⟩, 15), (⟨"WoolBridgeModel", "holds", "(I)Z"⟩, 15), (⟨"WoolBridgeModel", "most", "()I"⟩, 15), (⟨"WoolBridgeModel", "keeps", "()V"⟩, 15), (⟨"WoolBridgeModel", "goesOver", "(I)V"⟩, 15), (⟨"WoolBridgeModel", "knits", "(III)V"⟩, 15), (⟨"WoolBridgeModel", "goesAway", "(I)V"⟩, 15), (⟨"WoolBridgeModel", "ages", "()V"⟩, 15), (⟨"WoolBridgeModel", "thin", "()I"⟩, 15), (⟨"WoolBridgeModel", "remembers", "()V"⟩, 15), (⟨"WoolBridgeModel", "lets", "()V"⟩, 15), (⟨"WoolBridgeModel", "isSo", "()Z"⟩, 15)]
theorem lw_r3 : ∀ q ∈ lw_privs_3, lw_okq q := List.forall_mem_cons.mpr ⟨lw_p32, List.forall_mem_cons.mpr ⟨lw_p33, List.forall_mem_cons.mpr ⟨lw_p34, List.forall_mem_cons.mpr ⟨lw_p35, List.forall_mem_cons.mpr ⟨lw_p36, List.forall_mem_cons.mpr ⟨lw_p37, List.forall_mem_cons.mpr ⟨lw_p38, List.forall_mem_cons.mpr ⟨lw_p39, List.forall_mem_cons.mpr ⟨lw_p40, List.forall_mem_cons.mpr ⟨lw_p41, List.forall_mem_cons.mpr ⟨lw_p42, List.forall_mem_cons.mpr ⟨lw_p43, List.forall_mem_cons.mpr ⟨lw_p44, List.forall_mem_cons.mpr ⟨lw_p45, List.forall_mem_cons.mpr ⟨lw_p46, fun _ h => absurd h List.not_mem_nil⟩⟩⟩⟩⟩⟩⟩⟩⟩⟩⟩⟩⟩⟩⟩
def lw_privs : List (MethodName × Nat) := lw_privs_1 ++ (lw_privs_2 ++ (lw_privs_3))
def lw_tbl : List Cond := k2_sels lw_privs ++ tables_1
theorem lw_privs_ok : ∀ q ∈ lw_privs, lw_okq q := by
  show ∀ q ∈ lw_privs_1 ++ (lw_privs_2 ++ (lw_privs_3)), lw_okq q
  exact List.forall_mem_append.mpr ⟨lw_r1, List.forall_mem_append.mpr ⟨lw_r2, lw_r3⟩⟩

/-! ===== BEGIN words of one list among another's, by their places ===== -/
theorem goodIn_r {big : List Cond} (ws : List Cond) (ps : List Nat) (hp : ws = ps.filterMap (fun i => big[i]?)) (h : ws.all goodWord = true) : GoodIn big ws := by
  intro w hw
  have h1 := List.all_eq_true.mp h w hw
  rw [hp] at hw
  obtain ⟨i, -, hi⟩ := List.mem_filterMap.mp hw
  have hm : w ∈ big := by first | exact List.mem_of_getElem? hi | exact List.getElem?_mem hi
  exact ⟨hm, good_of_word h1⟩
theorem goodIn_app {big a b : List Cond} (ha : GoodIn big a) (hb : GoodIn big b) : GoodIn big (a ++ b) := fun w h => (List.mem_append.mp h).elim (ha w) (hb w)
theorem goodIn_ca {big a b : List Cond} {c : Cond} (ha : GoodIn big (c :: a)) (hb : GoodIn big b) : GoodIn big (c :: (a ++ b)) := fun w h => (List.mem_cons.mp h).elim (fun e => ha w (List.mem_cons.mpr (Or.inl e))) (fun h => (List.mem_append.mp h).elim (fun h => ha w (List.mem_cons.mpr (Or.inr h))) (hb w))
theorem goodIn_sub {big ws : List Cond} (hm : ∀ w ∈ ws, w ∈ big) (h : ws.all goodWord = true) : GoodIn big ws := fun w hw => ⟨hm w hw, good_of_word (List.all_eq_true.mp h w hw)⟩
/-! ===== END ===== -/

/-! ===== BEGIN printed: names, fields, word lists, decode rows ===== -/
def RX0 : String := "WoolBridge$Ahead"
def TX0 : u_T := fun k => match k with
  | 0 => ("WoolBridge$Ahead", "bears", "[I", true)
  | 1 => ("WoolBridge$Ahead", "chosen", "[I", true)
  | 2 => ("WoolBridge$Ahead", "end", "I", false)
  | _ => ("WoolBridge$Ahead", "rain", "Z", false)
def tyX0 : Nat → FieldType := fun k => match k with
  | 0 => .array .int
  | 1 => .array .int
  | 2 => .int
  | _ => .boolean
abbrev wsX00 : List Cond := u_ws RX0 TX0 4
theorem nmX0 : ∀ a, a < 4 → ∀ b, b < 4 → a ≠ b → (TX0 a).2.1 ≠ (TX0 b).2.1 := by decide +kernel
theorem tyX0_ok : ∀ k, k < 4 → parseFieldDescriptor (TX0 k).2.2.1 = some (tyX0 k) := by decide +kernel
abbrev cX0_init : ByteArray := prog_2_method_1_code
def yX0_init : MethodName := ⟨RX0, "<init>", "()V"⟩
abbrev cX0_startFrom : ByteArray := prog_2_method_2_code
def yX0_startFrom : MethodName := ⟨RX0, "startFrom", "(LWoolBridge$Span;)V"⟩
abbrev cX0_crossed : ByteArray := prog_2_method_3_code
def yX0_crossed : MethodName := ⟨RX0, "crossed", "(LWoolBridge$Told;I)Z"⟩
abbrev cX0_findOrder : ByteArray := prog_2_method_4_code
def yX0_findOrder : MethodName := ⟨RX0, "findOrder", "(LWoolBridge$Told;I)Z"⟩
abbrev cX0_findRest : ByteArray := prog_2_method_5_code
def yX0_findRest : MethodName := ⟨RX0, "findRest", "(LWoolBridge$Ahead;LWoolBridge$Told;III)Z"⟩
abbrev cX0_knit : ByteArray := prog_2_method_6_code
def yX0_knit : MethodName := ⟨RX0, "knit", "(LWoolBridge$Told;I)V"⟩
abbrev cX0_first : ByteArray := prog_2_method_7_code
def yX0_first : MethodName := ⟨RX0, "first", "()I"⟩
abbrev cX0_length : ByteArray := prog_2_method_8_code
def yX0_length : MethodName := ⟨RX0, "length", "()I"⟩
abbrev cX0_least : ByteArray := prog_2_method_9_code
def yX0_least : MethodName := ⟨RX0, "least", "()I"⟩
def RX1 : String := "WoolBridge$Past"
def TX1 : u_T := fun k => match k with
  | 0 => ("WoolBridge$Past", "spans", "[LWoolBridge$Span;", true)
  | 1 => ("WoolBridge$Past", "at", "I", false)
  | _ => ("WoolBridge$Past", "known", "I", false)
def tyX1 : Nat → FieldType := fun k => match k with
  | 0 => .array (.object "WoolBridge$Span")
  | 1 => .int
  | _ => .int
abbrev wsX10 : List Cond := u_ws RX1 TX1 3
theorem nmX1 : ∀ a, a < 3 → ∀ b, b < 3 → a ≠ b → (TX1 a).2.1 ≠ (TX1 b).2.1 := by decide +kernel
theorem tyX1_ok : ∀ k, k < 3 → parseFieldDescriptor (TX1 k).2.2.1 = some (tyX1 k) := by decide +kernel
abbrev cX1_init : ByteArray := prog_3_method_1_code
def yX1_init : MethodName := ⟨RX1, "<init>", "()V"⟩
abbrev cX1_startFrom : ByteArray := prog_3_method_2_code
def yX1_startFrom : MethodName := ⟨RX1, "startFrom", "(LWoolBridge$Told;)V"⟩
abbrev cX1_latest : ByteArray := prog_3_method_3_code
def yX1_latest : MethodName := ⟨RX1, "latest", "()LWoolBridge$Span;"⟩
abbrev cX1_step : ByteArray := prog_3_method_4_code
def yX1_step : MethodName := ⟨RX1, "step", "()LWoolBridge$Span;"⟩
abbrev cX1_stepBack : ByteArray := prog_3_method_5_code
def yX1_stepBack : MethodName := ⟨RX1, "stepBack", "()V"⟩
abbrev cX1_takeAll : ByteArray := prog_3_method_6_code
def yX1_takeAll : MethodName := ⟨RX1, "takeAll", "(LWoolBridge$Past;)V"⟩
def RX2 : String := "WoolBridge$Plumbed"
def TX2 : u_T := fun k => match k with
  | 0 => ("WoolBridge$Plumbed", "row", "[I", true)
  | 1 => ("WoolBridge$Plumbed", "borne", "[I", true)
  | _ => ("WoolBridge$Plumbed", "size", "I", false)
def tyX2 : Nat → FieldType := fun k => match k with
  | 0 => .array .int
  | 1 => .array .int
  | _ => .int
abbrev wsX20 : List Cond := u_ws RX2 TX2 3
theorem nmX2 : ∀ a, a < 3 → ∀ b, b < 3 → a ≠ b → (TX2 a).2.1 ≠ (TX2 b).2.1 := by decide +kernel
theorem tyX2_ok : ∀ k, k < 3 → parseFieldDescriptor (TX2 k).2.2.1 = some (tyX2 k) := by decide +kernel
abbrev cX2_init : ByteArray := prog_4_method_1_code
def yX2_init : MethodName := ⟨RX2, "<init>", "()V"⟩
abbrev cX2_add : ByteArray := prog_4_method_2_code
def yX2_add : MethodName := ⟨RX2, "add", "(II)Z"⟩
abbrev cX2_empty : ByteArray := prog_4_method_3_code
def yX2_empty : MethodName := ⟨RX2, "empty", "()I"⟩
abbrev cX2_isSoIfDrawn : ByteArray := prog_4_method_4_code
def yX2_isSoIfDrawn : MethodName := ⟨RX2, "isSoIfDrawn", "(LWoolBridge$Span;II)Z"⟩
abbrev cX2_isSoIfCrossed : ByteArray := prog_4_method_5_code
def yX2_isSoIfCrossed : MethodName := ⟨RX2, "isSoIfCrossed", "(LWoolBridge$Span;II)Z"⟩
def RX3 : String := "WoolBridge$Span"
def TX3 : u_T := fun k => match k with
  | 0 => ("WoolBridge$Span", "whose", "[I", true)
  | 1 => ("WoolBridge$Span", "thick", "[I", true)
  | 2 => ("WoolBridge$Span", "old", "[I", true)
  | 3 => ("WoolBridge$Span", "rows", "I", false)
  | 4 => ("WoolBridge$Span", "rain", "Z", false)
  | _ => ("WoolBridge$Span", "year", "I", false)
def tyX3 : Nat → FieldType := fun k => match k with
  | 0 => .array .int
  | 1 => .array .int
  | 2 => .array .int
  | 3 => .int
  | 4 => .boolean
  | _ => .int
abbrev wsX30 : List Cond := u_ws RX3 TX3 6
theorem nmX3 : ∀ a, a < 6 → ∀ b, b < 6 → a ≠ b → (TX3 a).2.1 ≠ (TX3 b).2.1 := by decide +kernel
theorem tyX3_ok : ∀ k, k < 6 → parseFieldDescriptor (TX3 k).2.2.1 = some (tyX3 k) := by decide +kernel
abbrev cX3_init : ByteArray := prog_5_method_1_code
def yX3_init : MethodName := ⟨RX3, "<init>", "()V"⟩
abbrev cX3_startFrom : ByteArray := prog_5_method_2_code
def yX3_startFrom : MethodName := ⟨RX3, "startFrom", "(LWoolBridge$Told;)V"⟩
abbrev cX3_take : ByteArray := prog_5_method_3_code
def yX3_take : MethodName := ⟨RX3, "take", "(LWoolBridge$Span;)V"⟩
abbrev cX3_has : ByteArray := prog_5_method_4_code
def yX3_has : MethodName := ⟨RX3, "has", "(I)Z"⟩
abbrev cX3_bears : ByteArray := prog_5_method_5_code
def yX3_bears : MethodName := ⟨RX3, "bears", "(I)I"⟩
abbrev cX3_bearsAs : ByteArray := prog_5_method_6_code
def yX3_bearsAs : MethodName := ⟨RX3, "bearsAs", "(III)I"⟩
abbrev cX3_length : ByteArray := prog_5_method_7_code
def yX3_length : MethodName := ⟨RX3, "length", "()I"⟩
abbrev cX3_lengthOf : ByteArray := prog_5_method_8_code
def yX3_lengthOf : MethodName := ⟨RX3, "lengthOf", "(I)I"⟩
abbrev cX3_leastAfter : ByteArray := prog_5_method_9_code
def yX3_leastAfter : MethodName := ⟨RX3, "leastAfter", "(I)I"⟩
abbrev cX3_strength : ByteArray := prog_5_method_10_code
def yX3_strength : MethodName := ⟨RX3, "strength", "()I"⟩
abbrev cX3_thinnest : ByteArray := prog_5_method_11_code
def yX3_thinnest : MethodName := ⟨RX3, "thinnest", "()I"⟩
abbrev cX3_holes : ByteArray := prog_5_method_12_code
def yX3_holes : MethodName := ⟨RX3, "holes", "()I"⟩
abbrev cX3_middle : ByteArray := prog_5_method_13_code
def yX3_middle : MethodName := ⟨RX3, "middle", "()I"⟩
abbrev cX3_share : ByteArray := prog_5_method_14_code
def yX3_share : MethodName := ⟨RX3, "share", "(I)I"⟩
abbrev cX3_woolFor : ByteArray := prog_5_method_15_code
def yX3_woolFor : MethodName := ⟨RX3, "woolFor", "(I)I"⟩
abbrev cX3_knit : ByteArray := prog_5_method_16_code
def yX3_knit : MethodName := ⟨RX3, "knit", "(III)V"⟩
abbrev cX3_unravel : ByteArray := prog_5_method_17_code
def yX3_unravel : MethodName := ⟨RX3, "unravel", "()I"⟩
abbrev cX3_removeFrom : ByteArray := prog_5_method_18_code
def yX3_removeFrom : MethodName := ⟨RX3, "removeFrom", "(II)V"⟩
abbrev cX3_age : ByteArray := prog_5_method_19_code
def yX3_age : MethodName := ⟨RX3, "age", "()V"⟩
def RX4 : String := "WoolBridge$Text"
def TX4 : u_T := fun k => match k with
  | 0 => ("WoolBridge$Text", "bytes", "[I", true)
  | 1 => ("WoolBridge$Text", "size", "I", false)
  | 2 => ("WoolBridge$Text", "next", "I", false)
  | 3 => ("WoolBridge$Text", "start", "I", false)
  | 4 => ("WoolBridge$Text", "token", "I", false)
  | _ => ("WoolBridge$Text", "value", "I", false)
def tyX4 : Nat → FieldType := fun k => match k with
  | 0 => .array .int
  | 1 => .int
  | 2 => .int
  | 3 => .int
  | 4 => .int
  | _ => .int
abbrev wsX40 : List Cond := u_ws RX4 TX4 6
theorem nmX4 : ∀ a, a < 6 → ∀ b, b < 6 → a ≠ b → (TX4 a).2.1 ≠ (TX4 b).2.1 := by decide +kernel
theorem tyX4_ok : ∀ k, k < 6 → parseFieldDescriptor (TX4 k).2.2.1 = some (tyX4 k) := by decide +kernel
abbrev cX4_init : ByteArray := prog_6_method_1_code
def yX4_init : MethodName := ⟨RX4, "<init>", "()V"⟩
abbrev cX4_add : ByteArray := prog_6_method_2_code
def yX4_add : MethodName := ⟨RX4, "add", "(I)Z"⟩
abbrev cX4_empty : ByteArray := prog_6_method_3_code
def yX4_empty : MethodName := ⟨RX4, "empty", "()I"⟩
abbrev cX4_readInto : ByteArray := prog_6_method_4_code
def yX4_readInto : MethodName := ⟨RX4, "readInto", "(LWoolBridge$Told;)I"⟩
abbrev cX4_readItem : ByteArray := prog_6_method_5_code
def yX4_readItem : MethodName := ⟨RX4, "readItem", "(LWoolBridge$Told;)Z"⟩
abbrev cX4_readPerson : ByteArray := prog_6_method_6_code
def yX4_readPerson : MethodName := ⟨RX4, "readPerson", "(LWoolBridge$Told;)Z"⟩
abbrev cX4_readRows : ByteArray := prog_6_method_7_code
def yX4_readRows : MethodName := ⟨RX4, "readRows", "(LWoolBridge$Told;)Z"⟩
abbrev cX4_readGap : ByteArray := prog_6_method_8_code
def yX4_readGap : MethodName := ⟨RX4, "readGap", "(LWoolBridge$Told;)Z"⟩
abbrev cX4_readSlack : ByteArray := prog_6_method_9_code
def yX4_readSlack : MethodName := ⟨RX4, "readSlack", "(LWoolBridge$Told;)Z"⟩
abbrev cX4_readNumber : ByteArray := prog_6_method_10_code
def yX4_readNumber : MethodName := ⟨RX4, "readNumber", "(II)Z"⟩
abbrev cX4_readSemicolon : ByteArray := prog_6_method_11_code
def yX4_readSemicolon : MethodName := ⟨RX4, "readSemicolon", "()Z"⟩
abbrev cX4_advance : ByteArray := prog_6_method_12_code
def yX4_advance : MethodName := ⟨RX4, "advance", "()V"⟩
abbrev cX4_tokenBegunBy : ByteArray := prog_6_method_13_code
def yX4_tokenBegunBy : MethodName := ⟨RX4, "tokenBegunBy", "(I)I"⟩
abbrev cX4_weigh : ByteArray := prog_6_method_14_code
def yX4_weigh : MethodName := ⟨RX4, "weigh", "(I)V"⟩
def RX5 : String := "WoolBridge$Told"
def TX5 : u_T := fun k => match k with
  | 0 => ("WoolBridge$Told", "heavy", "[I", true)
  | 1 => ("WoolBridge$Told", "thick", "[I", true)
  | 2 => ("WoolBridge$Told", "whose", "[I", true)
  | 3 => ("WoolBridge$Told", "people", "I", false)
  | 4 => ("WoolBridge$Told", "rows", "I", false)
  | 5 => ("WoolBridge$Told", "gap", "I", false)
  | 6 => ("WoolBridge$Told", "slack", "I", false)
  | 7 => ("WoolBridge$Told", "gapTold", "Z", false)
  | _ => ("WoolBridge$Told", "slackTold", "Z", false)
def tyX5 : Nat → FieldType := fun k => match k with
  | 0 => .array .int
  | 1 => .array .int
  | 2 => .array .int
  | 3 => .int
  | 4 => .int
  | 5 => .int
  | 6 => .int
  | 7 => .boolean
  | _ => .boolean
abbrev wsX50 : List Cond := u_ws RX5 TX5 9
theorem nmX5 : ∀ a, a < 9 → ∀ b, b < 9 → a ≠ b → (TX5 a).2.1 ≠ (TX5 b).2.1 := by decide +kernel
theorem tyX5_ok : ∀ k, k < 9 → parseFieldDescriptor (TX5 k).2.2.1 = some (tyX5 k) := by decide +kernel
abbrev cX5_init : ByteArray := prog_7_method_1_code
def yX5_init : MethodName := ⟨RX5, "<init>", "()V"⟩
abbrev cX5_startAnew : ByteArray := prog_7_method_2_code
def yX5_startAnew : MethodName := ⟨RX5, "startAnew", "()V"⟩
abbrev cX5_has : ByteArray := prog_7_method_3_code
def yX5_has : MethodName := ⟨RX5, "has", "(I)Z"⟩
abbrev cX5_holds : ByteArray := prog_7_method_4_code
def yX5_holds : MethodName := ⟨RX5, "holds", "(III)Z"⟩
abbrev cX5_addPerson : ByteArray := prog_7_method_5_code
def yX5_addPerson : MethodName := ⟨RX5, "addPerson", "(II)V"⟩
abbrev cX5_addRows : ByteArray := prog_7_method_6_code
def yX5_addRows : MethodName := ⟨RX5, "addRows", "(II)V"⟩
def RX6 : String := "WoolBridge"
def TX6 : u_T := fun k => match k with
  | 0 => ("WoolBridge", "text", "LWoolBridge$Text;", true)
  | 1 => ("WoolBridge", "past", "LWoolBridge$Past;", true)
  | 2 => ("WoolBridge", "images", "[LWoolBridge$Past;", true)
  | 3 => ("WoolBridge", "kept", "[Z", true)
  | 4 => ("WoolBridge", "plumbed", "LWoolBridge$Plumbed;", true)
  | 5 => ("WoolBridge", "ahead", "LWoolBridge$Ahead;", true)
  | 6 => ("WoolBridge", "told", "LWoolBridge$Told;", false)
  | 7 => ("WoolBridge", "spare", "LWoolBridge$Told;", false)
  | _ => ("WoolBridge", "traced", "J", false)
def tyX6 : Nat → FieldType := fun k => match k with
  | 0 => .object "WoolBridge$Text"
  | 1 => .object "WoolBridge$Past"
  | 2 => .array (.object "WoolBridge$Past")
  | 3 => .array .boolean
  | 4 => .object "WoolBridge$Plumbed"
  | 5 => .object "WoolBridge$Ahead"
  | 6 => .object "WoolBridge$Told"
  | 7 => .object "WoolBridge$Told"
  | _ => .long
abbrev wsX60 : List Cond := u_ws RX6 TX6 9
theorem nmX6 : ∀ a, a < 9 → ∀ b, b < 9 → a ≠ b → (TX6 a).2.1 ≠ (TX6 b).2.1 := by decide +kernel
theorem tyX6_ok : ∀ k, k < 9 → parseFieldDescriptor (TX6 k).2.2.1 = some (tyX6 k) := by decide +kernel
abbrev cX6_init : ByteArray := prog_1_method_1_code
def yX6_init : MethodName := ⟨RX6, "<init>", "()V"⟩
abbrev cX6_type : ByteArray := prog_1_method_2_code
def yX6_type : MethodName := ⟨RX6, "type", "(I)I"⟩
abbrev cX6_clear : ByteArray := prog_1_method_3_code
def yX6_clear : MethodName := ⟨RX6, "clear", "()I"⟩
abbrev cX6_gorge : ByteArray := prog_1_method_4_code
def yX6_gorge : MethodName := ⟨RX6, "gorge", "()I"⟩
abbrev cX6_person : ByteArray := prog_1_method_5_code
def yX6_person : MethodName := ⟨RX6, "person", "(II)I"⟩
abbrev cX6_row : ByteArray := prog_1_method_6_code
def yX6_row : MethodName := ⟨RX6, "row", "(II)I"⟩
abbrev cX6_crosses : ByteArray := prog_1_method_7_code
def yX6_crosses : MethodName := ⟨RX6, "crosses", "(I)I"⟩
abbrev cX6_turnsBack : ByteArray := prog_1_method_8_code
def yX6_turnsBack : MethodName := ⟨RX6, "turnsBack", "()I"⟩
abbrev cX6_drops : ByteArray := prog_1_method_9_code
def yX6_drops : MethodName := ⟨RX6, "drops", "(I)I"⟩
abbrev cX6_draws : ByteArray := prog_1_method_10_code
def yX6_draws : MethodName := ⟨RX6, "draws", "(I)I"⟩
abbrev cX6_rains : ByteArray := prog_1_method_11_code
def yX6_rains : MethodName := ⟨RX6, "rains", "(I)I"⟩
abbrev cX6_year : ByteArray := prog_1_method_12_code
def yX6_year : MethodName := ⟨RX6, "year", "()I"⟩
abbrev cX6_undo : ByteArray := prog_1_method_13_code
def yX6_undo : MethodName := ⟨RX6, "undo", "()I"⟩
abbrev cX6_now : ByteArray := prog_1_method_14_code
def yX6_now : MethodName := ⟨RX6, "now", "(I)I"⟩
abbrev cX6_order : ByteArray := prog_1_method_15_code
def yX6_order : MethodName := ⟨RX6, "order", "(II)I"⟩
abbrev cX6_lastOne : ByteArray := prog_1_method_16_code
def yX6_lastOne : MethodName := ⟨RX6, "lastOne", "()I"⟩
abbrev cX6_crossings : ByteArray := prog_1_method_17_code
def yX6_crossings : MethodName := ⟨RX6, "crossings", "(I)I"⟩
abbrev cX6_over : ByteArray := prog_1_method_18_code
def yX6_over : MethodName := ⟨RX6, "over", "(I)I"⟩
abbrev cX6_mend : ByteArray := prog_1_method_19_code
def yX6_mend : MethodName := ⟨RX6, "mend", "(II)I"⟩
abbrev cX6_odds : ByteArray := prog_1_method_20_code
def yX6_odds : MethodName := ⟨RX6, "odds", "(IIII)I"⟩
abbrev cX6_plumbs : ByteArray := prog_1_method_21_code
def yX6_plumbs : MethodName := ⟨RX6, "plumbs", "(II)I"⟩
abbrev cX6_forget : ByteArray := prog_1_method_22_code
def yX6_forget : MethodName := ⟨RX6, "forget", "()I"⟩
abbrev cX6_drew : ByteArray := prog_1_method_23_code
def yX6_drew : MethodName := ⟨RX6, "drew", "(I)I"⟩
abbrev cX6_night : ByteArray := prog_1_method_24_code
def yX6_night : MethodName := ⟨RX6, "night", "(I)I"⟩
abbrev cX6_mark : ByteArray := prog_1_method_25_code
def yX6_mark : MethodName := ⟨RX6, "mark", "(II)I"⟩
abbrev cX6_keep : ByteArray := prog_1_method_26_code
def yX6_keep : MethodName := ⟨RX6, "keep", "(I)I"⟩
abbrev cX6_back : ByteArray := prog_1_method_27_code
def yX6_back : MethodName := ⟨RX6, "back", "(I)I"⟩
abbrev cX6_count : ByteArray := prog_1_method_28_code
def yX6_count : MethodName := ⟨RX6, "count", "(I)I"⟩
abbrev cX6_trace : ByteArray := prog_1_method_29_code
def yX6_trace : MethodName := ⟨RX6, "trace", "()J"⟩
abbrev cX6_within : ByteArray := prog_1_method_30_code
def yX6_within : MethodName := ⟨RX6, "within", "(III)Z"⟩
abbrev cX6_span : ByteArray := prog_1_method_31_code
def yX6_span : MethodName := ⟨RX6, "span", "()LWoolBridge$Span;"⟩
abbrev cX6_holdsNow : ByteArray := prog_1_method_32_code
def yX6_holdsNow : MethodName := ⟨RX6, "holdsNow", "(I)Z"⟩
abbrev cX6_mayCross : ByteArray := prog_1_method_33_code
def yX6_mayCross : MethodName := ⟨RX6, "mayCross", "()I"⟩
abbrev cX6_rowsToGap : ByteArray := prog_1_method_34_code
def yX6_rowsToGap : MethodName := ⟨RX6, "rowsToGap", "(LWoolBridge$Span;)I"⟩
abbrev cX6_chancesAfter : ByteArray := prog_1_method_35_code
def yX6_chancesAfter : MethodName := ⟨RX6, "chancesAfter", "(III)I"⟩
abbrev cX6_lengthWith : ByteArray := prog_1_method_36_code
def yX6_lengthWith : MethodName := ⟨RX6, "lengthWith", "(IZ)I"⟩
abbrev cX6_commonDivisor : ByteArray := prog_1_method_37_code
def yX6_commonDivisor : MethodName := ⟨RX6, "commonDivisor", "(II)I"⟩
abbrev cX6_markOfRow : ByteArray := prog_1_method_38_code
def yX6_markOfRow : MethodName := ⟨RX6, "markOfRow", "(I)I"⟩
abbrev cX6_markOfPoor : ByteArray := prog_1_method_39_code
def yX6_markOfPoor : MethodName := ⟨RX6, "markOfPoor", "(I)I"⟩
abbrev cX6_markOfBride : ByteArray := prog_1_method_40_code
def yX6_markOfBride : MethodName := ⟨RX6, "markOfBride", "(I)I"⟩
abbrev cX6_markOfDrover : ByteArray := prog_1_method_41_code
def yX6_markOfDrover : MethodName := ⟨RX6, "markOfDrover", "(I)I"⟩
abbrev cX6_markOfOath : ByteArray := prog_1_method_42_code
def yX6_markOfOath : MethodName := ⟨RX6, "markOfOath", "(I)I"⟩
abbrev cX6_markOfSheep : ByteArray := prog_1_method_43_code
def yX6_markOfSheep : MethodName := ⟨RX6, "markOfSheep", "(I)I"⟩
def RX7 : String := "WoolBridgeModel"
def TX7 : u_T := fun k => match k with
  | 0 => ("WoolBridgeModel", "trace", "J", false)
  | 1 => ("WoolBridgeModel", "text", "[I", true)
  | 2 => ("WoolBridgeModel", "typed", "I", false)
  | 3 => ("WoolBridgeModel", "told", "[I", true)
  | 4 => ("WoolBridgeModel", "draft", "[I", true)
  | 5 => ("WoolBridgeModel", "s", "[I", true)
  | 6 => ("WoolBridgeModel", "images", "[I", true)
  | 7 => ("WoolBridgeModel", "kept", "[Z", true)
  | 8 => ("WoolBridgeModel", "plumbed", "[I", true)
  | 9 => ("WoolBridgeModel", "plumbs", "I", false)
  | 10 => ("WoolBridgeModel", "at", "I", false)
  | 11 => ("WoolBridgeModel", "sort", "I", false)
  | 12 => ("WoolBridgeModel", "start", "I", false)
  | 13 => ("WoolBridgeModel", "value", "I", false)
  | _ => ("WoolBridgeModel", "held", "[I", true)
def tyX7 : Nat → FieldType := fun k => match k with
  | 0 => .long
  | 1 => .array .int
  | 2 => .int
  | 3 => .array .int
  | 4 => .array .int
  | 5 => .array .int
  | 6 => .array .int
  | 7 => .array .boolean
  | 8 => .array .int
  | 9 => .int
  | 10 => .int
  | 11 => .int
  | 12 => .int
  | 13 => .int
  | _ => .array .int
abbrev wsX70 : List Cond := u_ws RX7 TX7 15
theorem nmX7 : ∀ a, a < 15 → ∀ b, b < 15 → a ≠ b → (TX7 a).2.1 ≠ (TX7 b).2.1 := by decide +kernel
theorem tyX7_ok : ∀ k, k < 15 → parseFieldDescriptor (TX7 k).2.2.1 = some (tyX7 k) := by decide +kernel
abbrev cX7_init : ByteArray := prog_9_method_1_code
def yX7_init : MethodName := ⟨RX7, "<init>", "()V"⟩
abbrev cX7_in : ByteArray := prog_9_method_3_code
def yX7_in : MethodName := ⟨RX7, "in", "(III)Z"⟩
abbrev cX7_isPerson : ByteArray := prog_9_method_4_code
def yX7_isPerson : MethodName := ⟨RX7, "isPerson", "(I)Z"⟩
abbrev cX7_isRow : ByteArray := prog_9_method_5_code
def yX7_isRow : MethodName := ⟨RX7, "isRow", "(I)Z"⟩
abbrev cX7_type : ByteArray := prog_9_method_6_code
def yX7_type : MethodName := ⟨RX7, "type", "(I)I"⟩
abbrev cX7_clear : ByteArray := prog_9_method_7_code
def yX7_clear : MethodName := ⟨RX7, "clear", "()I"⟩
abbrev cX7_byteAt : ByteArray := prog_9_method_8_code
def yX7_byteAt : MethodName := ⟨RX7, "byteAt", "(I)I"⟩
abbrev cX7_isLetter : ByteArray := prog_9_method_9_code
def yX7_isLetter : MethodName := ⟨RX7, "isLetter", "(I)Z"⟩
abbrev cX7_isDigit : ByteArray := prog_9_method_10_code
def yX7_isDigit : MethodName := ⟨RX7, "isDigit", "(I)Z"⟩
abbrev cX7_token : ByteArray := prog_9_method_11_code
def yX7_token : MethodName := ⟨RX7, "token", "()V"⟩
abbrev cX7_number : ByteArray := prog_9_method_12_code
def yX7_number : MethodName := ⟨RX7, "number", "(III)Z"⟩
abbrev cX7_readsRows : ByteArray := prog_9_method_13_code
def yX7_readsRows : MethodName := ⟨RX7, "readsRows", "()Z"⟩
abbrev cX7_once : ByteArray := prog_9_method_14_code
def yX7_once : MethodName := ⟨RX7, "once", "(III)Z"⟩
abbrev cX7_readsItem : ByteArray := prog_9_method_15_code
def yX7_readsItem : MethodName := ⟨RX7, "readsItem", "()Z"⟩
abbrev cX7_reads : ByteArray := prog_9_method_16_code
def yX7_reads : MethodName := ⟨RX7, "reads", "()Z"⟩
abbrev cX7_tells : ByteArray := prog_9_method_17_code
def yX7_tells : MethodName := ⟨RX7, "tells", "()V"⟩
abbrev cX7_gorge : ByteArray := prog_9_method_18_code
def yX7_gorge : MethodName := ⟨RX7, "gorge", "()I"⟩
abbrev cX7_share : ByteArray := prog_9_method_19_code
def yX7_share : MethodName := ⟨RX7, "share", "(I)I"⟩
abbrev cX7_person : ByteArray := prog_9_method_20_code
def yX7_person : MethodName := ⟨RX7, "person", "(II)I"⟩
abbrev cX7_bears : ByteArray := prog_9_method_21_code
def yX7_bears : MethodName := ⟨RX7, "bears", "(I)I"⟩
abbrev cX7_row : ByteArray := prog_9_method_22_code
def yX7_row : MethodName := ⟨RX7, "row", "(II)I"⟩
abbrev cX7_longOf : ByteArray := prog_9_method_23_code
def yX7_longOf : MethodName := ⟨RX7, "longOf", "(II)I"⟩
abbrev cX7_most : ByteArray := prog_9_method_24_code
def yX7_most : MethodName := ⟨RX7, "most", "()I"⟩
abbrev cX7_holds : ByteArray := prog_9_method_25_code
def yX7_holds : MethodName := ⟨RX7, "holds", "(I)Z"⟩
abbrev cX7_goesAway : ByteArray := prog_9_method_26_code
def yX7_goesAway : MethodName := ⟨RX7, "goesAway", "(I)V"⟩
abbrev cX7_knits : ByteArray := prog_9_method_27_code
def yX7_knits : MethodName := ⟨RX7, "knits", "(III)V"⟩
abbrev cX7_goesOver : ByteArray := prog_9_method_28_code
def yX7_goesOver : MethodName := ⟨RX7, "goesOver", "(I)V"⟩
abbrev cX7_ages : ByteArray := prog_9_method_29_code
def yX7_ages : MethodName := ⟨RX7, "ages", "()V"⟩
abbrev cX7_keeps : ByteArray := prog_9_method_30_code
def yX7_keeps : MethodName := ⟨RX7, "keeps", "()V"⟩
abbrev cX7_crosses : ByteArray := prog_9_method_31_code
def yX7_crosses : MethodName := ⟨RX7, "crosses", "(I)I"⟩
abbrev cX7_turnsBack : ByteArray := prog_9_method_32_code
def yX7_turnsBack : MethodName := ⟨RX7, "turnsBack", "()I"⟩
abbrev cX7_drops : ByteArray := prog_9_method_33_code
def yX7_drops : MethodName := ⟨RX7, "drops", "(I)I"⟩
abbrev cX7_draws : ByteArray := prog_9_method_34_code
def yX7_draws : MethodName := ⟨RX7, "draws", "(I)I"⟩
abbrev cX7_rains : ByteArray := prog_9_method_35_code
def yX7_rains : MethodName := ⟨RX7, "rains", "(I)I"⟩
abbrev cX7_year : ByteArray := prog_9_method_36_code
def yX7_year : MethodName := ⟨RX7, "year", "()I"⟩
abbrev cX7_undo : ByteArray := prog_9_method_37_code
def yX7_undo : MethodName := ⟨RX7, "undo", "()I"⟩
abbrev cX7_thin : ByteArray := prog_9_method_38_code
def yX7_thin : MethodName := ⟨RX7, "thin", "()I"⟩
abbrev cX7_now : ByteArray := prog_9_method_39_code
def yX7_now : MethodName := ⟨RX7, "now", "(I)I"⟩
abbrev cX7_remembers : ByteArray := prog_9_method_40_code
def yX7_remembers : MethodName := ⟨RX7, "remembers", "()V"⟩
abbrev cX7_lets : ByteArray := prog_9_method_41_code
def yX7_lets : MethodName := ⟨RX7, "lets", "()V"⟩
abbrev cX7_order : ByteArray := prog_9_method_42_code
def yX7_order : MethodName := ⟨RX7, "order", "(II)I"⟩
abbrev cX7_lastOne : ByteArray := prog_9_method_43_code
def yX7_lastOne : MethodName := ⟨RX7, "lastOne", "()I"⟩
abbrev cX7_crossings : ByteArray := prog_9_method_44_code
def yX7_crossings : MethodName := ⟨RX7, "crossings", "(I)I"⟩
abbrev cX7_over : ByteArray := prog_9_method_45_code
def yX7_over : MethodName := ⟨RX7, "over", "(I)I"⟩
abbrev cX7_mend : ByteArray := prog_9_method_46_code
def yX7_mend : MethodName := ⟨RX7, "mend", "(II)I"⟩
abbrev cX7_odds : ByteArray := prog_9_method_47_code
def yX7_odds : MethodName := ⟨RX7, "odds", "(IIII)I"⟩
abbrev cX7_plumbs : ByteArray := prog_9_method_48_code
def yX7_plumbs : MethodName := ⟨RX7, "plumbs", "(II)I"⟩
abbrev cX7_forget : ByteArray := prog_9_method_49_code
def yX7_forget : MethodName := ⟨RX7, "forget", "()I"⟩
abbrev cX7_isSo : ByteArray := prog_9_method_50_code
def yX7_isSo : MethodName := ⟨RX7, "isSo", "()Z"⟩
abbrev cX7_drew : ByteArray := prog_9_method_51_code
def yX7_drew : MethodName := ⟨RX7, "drew", "(I)I"⟩
abbrev cX7_night : ByteArray := prog_9_method_52_code
def yX7_night : MethodName := ⟨RX7, "night", "(I)I"⟩
abbrev cX7_mark : ByteArray := prog_9_method_53_code
def yX7_mark : MethodName := ⟨RX7, "mark", "(II)I"⟩
abbrev cX7_keep : ByteArray := prog_9_method_54_code
def yX7_keep : MethodName := ⟨RX7, "keep", "(I)I"⟩
abbrev cX7_back : ByteArray := prog_9_method_55_code
def yX7_back : MethodName := ⟨RX7, "back", "(I)I"⟩
abbrev cX7_count : ByteArray := prog_9_method_56_code
def yX7_count : MethodName := ⟨RX7, "count", "(I)I"⟩
abbrev cX7_trace : ByteArray := prog_9_method_57_code
def yX7_trace : MethodName := ⟨RX7, "trace", "()J"⟩
def RJ9 : String := "java/lang/Math"
def TJ9 : u_T := fun k => match k with
  | _ => ("", "", "", false)
def tyJ9 : Nat → FieldType := fun k => match k with
  | _ => .int
abbrev wsJ90 : List Cond := u_ws RJ9 TJ9 0
theorem nmJ9 : ∀ a, a < 0 → ∀ b, b < 0 → a ≠ b → (TJ9 a).2.1 ≠ (TJ9 b).2.1 := by decide +kernel
theorem tyJ9_ok : ∀ k, k < 0 → parseFieldDescriptor (TJ9 k).2.2.1 = some (tyJ9 k) := by decide +kernel
abbrev cJ9_max_7cf53 : ByteArray := prog_10_method_65_code
def yJ9_max_7cf53 : MethodName := ⟨RJ9, "max", "(II)I"⟩
abbrev cJ9_min_7cf53 : ByteArray := prog_10_method_69_code
def yJ9_min_7cf53 : MethodName := ⟨RJ9, "min", "(II)I"⟩
def RJ10 : String := "java/lang/System"
def TJ10 : u_T := fun k => match k with
  | _ => ("", "", "", false)
def tyJ10 : Nat → FieldType := fun k => match k with
  | _ => .int
abbrev wsJ100 : List Cond := u_ws RJ10 TJ10 0
theorem nmJ10 : ∀ a, a < 0 → ∀ b, b < 0 → a ≠ b → (TJ10 a).2.1 ≠ (TJ10 b).2.1 := by decide +kernel
theorem tyJ10_ok : ∀ k, k < 0 → parseFieldDescriptor (TJ10 k).2.2.1 = some (tyJ10 k) := by decide +kernel
def RL : String := "WoolBridgeLaw"
abbrev cL_law : ByteArray := code
def yL_law : MethodName := ⟨RL, "law", "([I)Z"⟩
abbrev vwCl : List vw_C := [(RX0, TX0, 4), (RX1, TX1, 3), (RX2, TX2, 3), (RX3, TX3, 6), (RX4, TX4, 6), (RX5, TX5, 9), (RX6, TX6, 9), (RX7, TX7, 15)]
