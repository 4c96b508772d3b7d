section
-- ===== PART A: goes FIRST, ahead of the names: the tables' words, and 'selects' of the private methods out of them =====
/-- a private method of a class that the tables say can be made, by its rows of tables_1 -/
def lw_okq (q : MethodName × Nat) : Prop := (q.1.cls ≠ "java/lang/invoke/MethodHandle" ∧ q.1.cls ≠ "java/lang/invoke/VarHandle") ∧ Cond.instantiable q.1.cls q.2 ∈ tables_1 ∧ Cond.privateMethod q.1 ∈ tables_1 ∧ Cond.instanceMethod q.1 ∈ tables_1
theorem lw_p0 : lw_okq (⟨"CastWorks$TextReader", "skipBlanks", "()V"⟩, 5) := ⟨⟨by decide +kernel, by decide +kernel⟩, List.mem_of_getElem? (i := 43) (by decide +kernel), List.mem_of_getElem? (i := 310) (by decide +kernel), List.mem_of_getElem? (i := 311) (by decide +kernel)⟩
theorem lw_p1 : lw_okq (⟨"CastWorks$TextReader", "readStatement", "(LCastWorks$Cells;)V"⟩, 5) := ⟨⟨by decide +kernel, by decide +kernel⟩, List.mem_of_getElem? (i := 43) (by decide +kernel), List.mem_of_getElem? (i := 322) (by decide +kernel), List.mem_of_getElem? (i := 323) (by decide +kernel)⟩
theorem lw_p2 : lw_okq (⟨"CastWorks$TextReader", "takeWord", "(Ljava/lang/String;)Z"⟩, 5) := ⟨⟨by decide +kernel, by decide +kernel⟩, List.mem_of_getElem? (i := 43) (by decide +kernel), List.mem_of_getElem? (i := 327) (by decide +kernel), List.mem_of_getElem? (i := 328) (by decide +kernel)⟩
theorem lw_p3 : lw_okq (⟨"CastWorks$TextReader", "readBlock", "(LCastWorks$Cells;I)V"⟩, 5) := ⟨⟨by decide +kernel, by decide +kernel⟩, List.mem_of_getElem? (i := 43) (by decide +kernel), List.mem_of_getElem? (i := 382) (by decide +kernel), List.mem_of_getElem? (i := 383) (by decide +kernel)⟩
theorem lw_p4 : lw_okq (⟨"CastWorks$TextReader", "readNumber", "(I)V"⟩, 5) := ⟨⟨by decide +kernel, by decide +kernel⟩, List.mem_of_getElem? (i := 43) (by decide +kernel), List.mem_of_getElem? (i := 386) (by decide +kernel), List.mem_of_getElem? (i := 387) (by decide +kernel)⟩
theorem lw_p5 : lw_okq (⟨"CastWorks$TextReader", "refuse", "(II)V"⟩, 5) := ⟨⟨by decide +kernel, by decide +kernel⟩, List.mem_of_getElem? (i := 43) (by decide +kernel), List.mem_of_getElem? (i := 390) (by decide +kernel), List.mem_of_getElem? (i := 391) (by decide +kernel)⟩
theorem lw_p6 : lw_okq (⟨"CastWorks$TextReader", "readSemicolon", "()V"⟩, 5) := ⟨⟨by decide +kernel, by decide +kernel⟩, List.mem_of_getElem? (i := 43) (by decide +kernel), List.mem_of_getElem? (i := 394) (by decide +kernel), List.mem_of_getElem? (i := 395) (by decide +kernel)⟩
theorem lw_p7 : lw_okq (⟨"CastWorks$Cells", "put", "(IIII)V"⟩, 5) := ⟨⟨by decide +kernel, by decide +kernel⟩, List.mem_of_getElem? (i := 65) (by decide +kernel), List.mem_of_getElem? (i := 405) (by decide +kernel), List.mem_of_getElem? (i := 406) (by decide +kernel)⟩
theorem lw_p8 : lw_okq (⟨"CastWorks$TextReader", "readMirror", "(LCastWorks$Cells;)V"⟩, 5) := ⟨⟨by decide +kernel, by decide +kernel⟩, List.mem_of_getElem? (i := 43) (by decide +kernel), List.mem_of_getElem? (i := 418) (by decide +kernel), List.mem_of_getElem? (i := 419) (by decide +kernel)⟩
theorem lw_p9 : lw_okq (⟨"CastWorks$TextReader", "takeAxis", "()I"⟩, 5) := ⟨⟨by decide +kernel, by decide +kernel⟩, List.mem_of_getElem? (i := 43) (by decide +kernel), List.mem_of_getElem? (i := 422) (by decide +kernel), List.mem_of_getElem? (i := 423) (by decide +kernel)⟩
theorem lw_p10 : lw_okq (⟨"CastWorks$TextReader", "readTurn", "(LCastWorks$Cells;I)V"⟩, 5) := ⟨⟨by decide +kernel, by decide +kernel⟩, List.mem_of_getElem? (i := 43) (by decide +kernel), List.mem_of_getElem? (i := 438) (by decide +kernel), List.mem_of_getElem? (i := 439) (by decide +kernel)⟩
theorem lw_p11 : lw_okq (⟨"CastWorks$Cells", "keepLayer", "(I)V"⟩, 5) := ⟨⟨by decide +kernel, by decide +kernel⟩, List.mem_of_getElem? (i := 65) (by decide +kernel), List.mem_of_getElem? (i := 451) (by decide +kernel), List.mem_of_getElem? (i := 452) (by decide +kernel)⟩
theorem lw_p12 : lw_okq (⟨"CastWorks$Mould", "addMember", "(I)V"⟩, 4) := ⟨⟨by decide +kernel, by decide +kernel⟩, List.mem_of_getElem? (i := 90) (by decide +kernel), List.mem_of_getElem? (i := 474) (by decide +kernel), List.mem_of_getElem? (i := 475) (by decide +kernel)⟩
theorem lw_p13 : lw_okq (⟨"CastWorks$Mould", "freeFromEdge", "(I)V"⟩, 4) := ⟨⟨by decide +kernel, by decide +kernel⟩, List.mem_of_getElem? (i := 90) (by decide +kernel), List.mem_of_getElem? (i := 478) (by decide +kernel), List.mem_of_getElem? (i := 479) (by decide +kernel)⟩
theorem lw_p14 : lw_okq (⟨"CastWorks$Mould", "freeInwards", "(II)V"⟩, 4) := ⟨⟨by decide +kernel, by decide +kernel⟩, List.mem_of_getElem? (i := 90) (by decide +kernel), List.mem_of_getElem? (i := 486) (by decide +kernel), List.mem_of_getElem? (i := 487) (by decide +kernel)⟩
theorem lw_p15 : lw_okq (⟨"CastWorks$Drawing", "noteFreedoms", "()V"⟩, 8) := ⟨⟨by decide +kernel, by decide +kernel⟩, List.mem_of_getElem? (i := 137) (by decide +kernel), List.mem_of_getElem? (i := 557) (by decide +kernel), List.mem_of_getElem? (i := 558) (by decide +kernel)⟩
def lw_privs_1 : List (MethodName × Nat) := [(⟨"CastWorks$TextReader", "skipBlanks", "()V"⟩, 5), (⟨"CastWorks$TextReader", "readStatement", "(LCastWorks$Cells;)V"⟩, 5), (⟨"CastWorks$TextReader", "takeWord", "(Ljava/lang/String;)Z"⟩, 5), (⟨"CastWorks$TextReader", "readBlock", "(LCastWorks$Cells;I)V"⟩, 5), (⟨"CastWorks$TextReader", "readNumber", "(I)V"⟩, 5), (⟨"CastWorks$TextReader", "refuse", "(II)V"⟩, 5), (⟨"CastWorks$TextReader", "readSemicolon", "()V"⟩, 5), (⟨"CastWorks$Cells", "put", "(IIII)V"⟩, 5), (⟨"CastWorks$TextReader", "readMirror", "(LCastWorks$Cells;)V"⟩, 5), (⟨"CastWorks$TextReader", "takeAxis", "()I"⟩, 5), (⟨"CastWorks$TextReader", "readTurn", "(LCastWorks$Cells;I)V"⟩, 5), (⟨"CastWorks$Cells", "keepLayer", "(I)V"⟩, 5), (⟨"CastWorks$Mould", "addMember", "(I)V"⟩, 4), (⟨"CastWorks$Mould", "freeFromEdge", "(I)V"⟩, 4), (⟨"CastWorks$Mould", "freeInwards", "(II)V"⟩, 4), (⟨"CastWorks$Drawing", "noteFreedoms", "()V"⟩, 8)]
theorem lw_r1 : ∀ q ∈ lw_privs_1, lw_okq q := List.forall_mem_cons.mpr ⟨lw_p0, List.forall_mem_cons.mpr ⟨lw_p1, List.forall_mem_cons.mpr ⟨lw_p2, List.forall_mem_cons.mpr ⟨lw_p3, List.forall_mem_cons.mpr ⟨lw_p4, List.forall_mem_cons.mpr ⟨lw_p5, List.forall_mem_cons.mpr ⟨lw_p6, List.forall_mem_cons.mpr ⟨lw_p7, List.forall_mem_cons.mpr ⟨lw_p8, List.forall_mem_cons.mpr ⟨lw_p9, List.forall_mem_cons.mpr ⟨lw_p10, List.forall_mem_cons.mpr ⟨lw_p11, List.forall_mem_cons.mpr ⟨lw_p12, List.forall_mem_cons.mpr ⟨lw_p13, List.forall_mem_cons.mpr ⟨lw_p14, List.forall_mem_cons.mpr ⟨lw_p15, fun _ h => absurd h List.not_mem_nil⟩⟩⟩⟩⟩⟩⟩⟩⟩⟩⟩⟩⟩⟩⟩⟩
theorem lw_p16 : lw_okq (⟨"CastWorks$Drawing", "fewestWays", "()I"⟩, 8) := ⟨⟨by decide +kernel, by decide +kernel⟩, List.mem_of_getElem? (i := 137) (by decide +kernel), List.mem_of_getElem? (i := 571) (by decide +kernel), List.mem_of_getElem? (i := 572) (by decide +kernel)⟩
theorem lw_p17 : lw_okq (⟨"CastWorks$Drawing", "frees", "(I)Z"⟩, 8) := ⟨⟨by decide +kernel, by decide +kernel⟩, List.mem_of_getElem? (i := 137) (by decide +kernel), List.mem_of_getElem? (i := 581) (by decide +kernel), List.mem_of_getElem? (i := 582) (by decide +kernel)⟩
theorem lw_p18 : lw_okq (⟨"CastWorks$Drawing", "weighSets", "(I)V"⟩, 8) := ⟨⟨by decide +kernel, by decide +kernel⟩, List.mem_of_getElem? (i := 137) (by decide +kernel), List.mem_of_getElem? (i := 585) (by decide +kernel), List.mem_of_getElem? (i := 586) (by decide +kernel)⟩
theorem lw_p19 : lw_okq (⟨"CastWorks$Drawing", "weighWays", "(I)V"⟩, 8) := ⟨⟨by decide +kernel, by decide +kernel⟩, List.mem_of_getElem? (i := 137) (by decide +kernel), List.mem_of_getElem? (i := 590) (by decide +kernel), List.mem_of_getElem? (i := 591) (by decide +kernel)⟩
theorem lw_p20 : lw_okq (⟨"CastWorks$Parting", "openCells", "(II)V"⟩, 3) := ⟨⟨by decide +kernel, by decide +kernel⟩, List.mem_of_getElem? (i := 143) (by decide +kernel), List.mem_of_getElem? (i := 598) (by decide +kernel), List.mem_of_getElem? (i := 599) (by decide +kernel)⟩
theorem lw_p21 : lw_okq (⟨"CastWorks$Parting", "spread", "(II)V"⟩, 3) := ⟨⟨by decide +kernel, by decide +kernel⟩, List.mem_of_getElem? (i := 143) (by decide +kernel), List.mem_of_getElem? (i := 609) (by decide +kernel), List.mem_of_getElem? (i := 610) (by decide +kernel)⟩
theorem lw_p22 : lw_okq (⟨"CastWorks$Parting", "reach", "(III)I"⟩, 3) := ⟨⟨by decide +kernel, by decide +kernel⟩, List.mem_of_getElem? (i := 143) (by decide +kernel), List.mem_of_getElem? (i := 613) (by decide +kernel), List.mem_of_getElem? (i := 614) (by decide +kernel)⟩
theorem lw_p23 : lw_okq (⟨"CastWorks$Drawing", "keepBest", "(I)V"⟩, 8) := ⟨⟨by decide +kernel, by decide +kernel⟩, List.mem_of_getElem? (i := 137) (by decide +kernel), List.mem_of_getElem? (i := 618) (by decide +kernel), List.mem_of_getElem? (i := 619) (by decide +kernel)⟩
theorem lw_p24 : lw_okq (⟨"CastWorks$Pieces", "borneBy", "(I)I"⟩, 7) := ⟨⟨by decide +kernel, by decide +kernel⟩, List.mem_of_getElem? (i := 109) (by decide +kernel), List.mem_of_getElem? (i := 671) (by decide +kernel), List.mem_of_getElem? (i := 672) (by decide +kernel)⟩
theorem lw_p25 : lw_okq (⟨"CastWorks$Pieces", "leftOn", "(I)I"⟩, 7) := ⟨⟨by decide +kernel, by decide +kernel⟩, List.mem_of_getElem? (i := 109) (by decide +kernel), List.mem_of_getElem? (i := 698) (by decide +kernel), List.mem_of_getElem? (i := 699) (by decide +kernel)⟩
theorem lw_p26 : lw_okq (⟨"CastWorks$Pieces", "pourAndMendOne", "(II)I"⟩, 7) := ⟨⟨by decide +kernel, by decide +kernel⟩, List.mem_of_getElem? (i := 109) (by decide +kernel), List.mem_of_getElem? (i := 720) (by decide +kernel), List.mem_of_getElem? (i := 721) (by decide +kernel)⟩
theorem lw_p27 : lw_okq (⟨"CastWorks$OrderBook", "allOrders", "()I"⟩, 9) := ⟨⟨by decide +kernel, by decide +kernel⟩, List.mem_of_getElem? (i := 184) (by decide +kernel), List.mem_of_getElem? (i := 756) (by decide +kernel), List.mem_of_getElem? (i := 757) (by decide +kernel)⟩
theorem lw_p28 : lw_okq (⟨"CastWorks$OrderBook", "poursOf", "(I)I"⟩, 9) := ⟨⟨by decide +kernel, by decide +kernel⟩, List.mem_of_getElem? (i := 184) (by decide +kernel), List.mem_of_getElem? (i := 760) (by decide +kernel), List.mem_of_getElem? (i := 761) (by decide +kernel)⟩
theorem lw_p29 : lw_okq (⟨"CastWorks$OrderBook", "weighSet", "(II)V"⟩, 9) := ⟨⟨by decide +kernel, by decide +kernel⟩, List.mem_of_getElem? (i := 184) (by decide +kernel), List.mem_of_getElem? (i := 764) (by decide +kernel), List.mem_of_getElem? (i := 765) (by decide +kernel)⟩
theorem lw_p30 : lw_okq (⟨"CastWorks$OrderBook", "latenessOf", "(II)I"⟩, 9) := ⟨⟨by decide +kernel, by decide +kernel⟩, List.mem_of_getElem? (i := 184) (by decide +kernel), List.mem_of_getElem? (i := 769) (by decide +kernel), List.mem_of_getElem? (i := 770) (by decide +kernel)⟩
theorem lw_p31 : lw_okq (⟨"CastWorks$OrderBook", "keepRow", "(I)V"⟩, 9) := ⟨⟨by decide +kernel, by decide +kernel⟩, List.mem_of_getElem? (i := 184) (by decide +kernel), List.mem_of_getElem? (i := 774) (by decide +kernel), List.mem_of_getElem? (i := 775) (by decide +kernel)⟩
def lw_privs_2 : List (MethodName × Nat) := [(⟨"CastWorks$Drawing", "fewestWays", "()I"⟩, 8), (⟨"CastWorks$Drawing", "frees", "(I)Z"⟩, 8), (⟨"CastWorks$Drawing", "weighSets", "(I)V"⟩, 8), (⟨"CastWorks$Drawing", "weighWays", "(I)V"⟩, 8), (⟨"CastWorks$Parting", "openCells", "(II)V"⟩, 3), (⟨"CastWorks$Parting", "spread", "(II)V"⟩, 3), (⟨"CastWorks$Parting", "reach", "(III)I"⟩, 3), (⟨"CastWorks$Drawing", "keepBest", "(I)V"⟩, 8), (⟨"CastWorks$Pieces", "borneBy", "(I)I"⟩, 7), (⟨"CastWorks$Pieces", "leftOn", "(I)I"⟩, 7), (⟨"CastWorks$Pieces", "pourAndMendOne", "(II)I"⟩, 7), (⟨"CastWorks$OrderBook", "allOrders", "()I"⟩, 9), (⟨"CastWorks$OrderBook", "poursOf", "(I)I"⟩, 9), (⟨"CastWorks$OrderBook", "weighSet", "(II)V"⟩, 9), (⟨"CastWorks$OrderBook", "latenessOf", "(II)I"⟩, 9), (⟨"CastWorks$OrderBook", "keepRow", "(I)V"⟩, 9)]
theorem lw_r2 : ∀ q ∈ lw_privs_2, lw_okq q := List.forall_mem_cons.mpr ⟨lw_p16, List.forall_mem_cons.mpr ⟨lw_p17, List.forall_mem_cons.mpr ⟨lw_p18, List.forall_mem_cons.mpr ⟨lw_p19, List.forall_mem_cons.mpr ⟨lw_p20, List.forall_mem_cons.mpr ⟨lw_p21, List.forall_mem_cons.mpr ⟨lw_p22, List.forall_mem_cons.mpr ⟨lw_p23, List.forall_mem_cons.mpr ⟨lw_p24, List.forall_mem_cons.mpr ⟨lw_p25, List.forall_mem_cons.mpr ⟨lw_p26, List.forall_mem_cons.mpr ⟨lw_p27, List.forall_mem_cons.mpr ⟨lw_p28, List.forall_mem_cons.mpr ⟨lw_p29, List.forall_mem_cons.mpr ⟨lw_p30, List.forall_mem_cons.mpr ⟨lw_p31, fun _ h => absurd h List.not_mem_nil⟩⟩⟩⟩⟩⟩⟩⟩⟩⟩⟩⟩⟩⟩⟩⟩
theorem lw_p32 : lw_okq (⟨"CastWorks$Finds", "canBeMother", "(II)Z"⟩, 5) := ⟨⟨by decide +kernel, by decide +kernel⟩, List.mem_of_getElem? (i := 218) (by decide +kernel), List.mem_of_getElem? (i := 823) (by decide +kernel), List.mem_of_getElem? (i := 824) (by decide +kernel)⟩
theorem lw_p33 : lw_okq (⟨"CastWorks$Finds", "quarrelOf", "(II)I"⟩, 5) := ⟨⟨by decide +kernel, by decide +kernel⟩, List.mem_of_getElem? (i := 218) (by decide +kernel), List.mem_of_getElem? (i := 828) (by decide +kernel), List.mem_of_getElem? (i := 829) (by decide +kernel)⟩
theorem lw_p34 : lw_okq (⟨"CastWorksModel", "reads", "()V"⟩, 53) := ⟨⟨by decide +kernel, by decide +kernel⟩, List.mem_of_getElem? (i := 856) (by decide +kernel), List.mem_of_getElem? (i := 1039) (by decide +kernel), List.mem_of_getElem? (i := 1040) (by decide +kernel)⟩
theorem lw_p35 : lw_okq (⟨"CastWorksModel", "next", "()I"⟩, 53) := ⟨⟨by decide +kernel, by decide +kernel⟩, List.mem_of_getElem? (i := 856) (by decide +kernel), List.mem_of_getElem? (i := 1043) (by decide +kernel), List.mem_of_getElem? (i := 1044) (by decide +kernel)⟩
theorem lw_p36 : lw_okq (⟨"CastWorksModel", "isWord", "([C)Z"⟩, 53) := ⟨⟨by decide +kernel, by decide +kernel⟩, List.mem_of_getElem? (i := 856) (by decide +kernel), List.mem_of_getElem? (i := 1047) (by decide +kernel), List.mem_of_getElem? (i := 1048) (by decide +kernel)⟩
theorem lw_p37 : lw_okq (⟨"CastWorksModel", "boxes", "(Z)V"⟩, 53) := ⟨⟨by decide +kernel, by decide +kernel⟩, List.mem_of_getElem? (i := 856) (by decide +kernel), List.mem_of_getElem? (i := 1054) (by decide +kernel), List.mem_of_getElem? (i := 1055) (by decide +kernel)⟩
theorem lw_p38 : lw_okq (⟨"CastWorksModel", "number", "(I)I"⟩, 53) := ⟨⟨by decide +kernel, by decide +kernel⟩, List.mem_of_getElem? (i := 856) (by decide +kernel), List.mem_of_getElem? (i := 1058) (by decide +kernel), List.mem_of_getElem? (i := 1059) (by decide +kernel)⟩
theorem lw_p39 : lw_okq (⟨"CastWorksModel", "fail", "(II)V"⟩, 53) := ⟨⟨by decide +kernel, by decide +kernel⟩, List.mem_of_getElem? (i := 856) (by decide +kernel), List.mem_of_getElem? (i := 1065) (by decide +kernel), List.mem_of_getElem? (i := 1066) (by decide +kernel)⟩
theorem lw_p40 : lw_okq (⟨"CastWorksModel", "mirrors", "()V"⟩, 53) := ⟨⟨by decide +kernel, by decide +kernel⟩, List.mem_of_getElem? (i := 856) (by decide +kernel), List.mem_of_getElem? (i := 1072) (by decide +kernel), List.mem_of_getElem? (i := 1073) (by decide +kernel)⟩
theorem lw_p41 : lw_okq (⟨"CastWorksModel", "turns", "(I)V"⟩, 53) := ⟨⟨by decide +kernel, by decide +kernel⟩, List.mem_of_getElem? (i := 856) (by decide +kernel), List.mem_of_getElem? (i := 1076) (by decide +kernel), List.mem_of_getElem? (i := 1077) (by decide +kernel)⟩
theorem lw_p42 : lw_okq (⟨"CastWorksModel", "waysOf", "(III)I"⟩, 53) := ⟨⟨by decide +kernel, by decide +kernel⟩, List.mem_of_getElem? (i := 856) (by decide +kernel), List.mem_of_getElem? (i := 1083) (by decide +kernel), List.mem_of_getElem? (i := 1084) (by decide +kernel)⟩
theorem lw_p43 : lw_okq (⟨"CastWorksModel", "isMould", "(III)Z"⟩, 53) := ⟨⟨by decide +kernel, by decide +kernel⟩, List.mem_of_getElem? (i := 856) (by decide +kernel), List.mem_of_getElem? (i := 1087) (by decide +kernel), List.mem_of_getElem? (i := 1088) (by decide +kernel)⟩
theorem lw_p44 : lw_okq (⟨"CastWorksModel", "fewest", "()I"⟩, 53) := ⟨⟨by decide +kernel, by decide +kernel⟩, List.mem_of_getElem? (i := 856) (by decide +kernel), List.mem_of_getElem? (i := 1120) (by decide +kernel), List.mem_of_getElem? (i := 1121) (by decide +kernel)⟩
theorem lw_p45 : lw_okq (⟨"CastWorksModel", "covers", "(I)Z"⟩, 53) := ⟨⟨by decide +kernel, by decide +kernel⟩, List.mem_of_getElem? (i := 856) (by decide +kernel), List.mem_of_getElem? (i := 1127) (by decide +kernel), List.mem_of_getElem? (i := 1128) (by decide +kernel)⟩
theorem lw_p46 : lw_okq (⟨"CastWorksModel", "parts", "([II)I"⟩, 53) := ⟨⟨by decide +kernel, by decide +kernel⟩, List.mem_of_getElem? (i := 856) (by decide +kernel), List.mem_of_getElem? (i := 1132) (by decide +kernel), List.mem_of_getElem? (i := 1133) (by decide +kernel)⟩
theorem lw_p47 : lw_okq (⟨"CastWorksModel", "belongs", "(I[II)I"⟩, 53) := ⟨⟨by decide +kernel, by decide +kernel⟩, List.mem_of_getElem? (i := 856) (by decide +kernel), List.mem_of_getElem? (i := 1136) (by decide +kernel), List.mem_of_getElem? (i := 1137) (by decide +kernel)⟩
def lw_privs_3 : List (MethodName × Nat) := [(⟨"CastWorks$Finds", "canBeMother", "(II)Z"⟩, 5), (⟨"CastWorks$Finds", "quarrelOf", "(II)I"⟩, 5), (⟨"CastWorksModel", "reads", "()V"⟩, 53), (⟨"CastWorksModel", "next", "()I"⟩, 53), (⟨"CastWorksModel", "isWord", "([C)Z"⟩, 53), (⟨"CastWorksModel", "boxes", "(Z)V"⟩, 53), (⟨"CastWorksModel", "number", "(I)I"⟩, 53), (⟨"CastWorksModel", "fail", "(II)V"⟩, 53), (⟨"CastWorksModel", "mirrors", "()V"⟩, 53), (⟨"CastWorksModel", "turns", "(I)V"⟩, 53), (⟨"CastWorksModel", "waysOf", "(III)I"⟩, 53), (⟨"CastWorksModel", "isMould", "(III)Z"⟩, 53), (⟨"CastWorksModel", "fewest", "()I"⟩, 53), (⟨"CastWorksModel", "covers", "(I)Z"⟩, 53), (⟨"CastWorksModel", "parts", "([II)I"⟩, 53), (⟨"CastWorksModel", "belongs", "(I[II)I"⟩, 53)]
theorem lw_r3 : ∀ q ∈ lw_privs_3, lw_okq q := List.forall_mem_cons.mpr ⟨lw_p32, List.forall_mem_cons.mpr ⟨lw_p33, List.forall_mem_cons.mpr ⟨lw_p34, List.forall_mem_cons.mpr ⟨lw_p35, List.forall_mem_cons.mpr ⟨lw_p36, List.forall_mem_cons.mpr ⟨lw_p37, List.forall_mem_cons.mpr ⟨lw_p38, List.forall_mem_cons.mpr ⟨lw_p39, List.forall_mem_cons.mpr ⟨lw_p40, List.forall_mem_cons.mpr ⟨lw_p41, List.forall_mem_cons.mpr ⟨lw_p42, List.forall_mem_cons.mpr ⟨lw_p43, List.forall_mem_cons.mpr ⟨lw_p44, List.forall_mem_cons.mpr ⟨lw_p45, List.forall_mem_cons.mpr ⟨lw_p46, List.forall_mem_cons.mpr ⟨lw_p47, fun _ h => absurd h List.not_mem_nil⟩⟩⟩⟩⟩⟩⟩⟩⟩⟩⟩⟩⟩⟩⟩⟩
theorem lw_p48 : lw_okq (⟨"CastWorksModel", "hangs", "(I[III)V"⟩, 53) := ⟨⟨by decide +kernel, by decide +kernel⟩, List.mem_of_getElem? (i := 856) (by decide +kernel), List.mem_of_getElem? (i := 1140) (by decide +kernel), List.mem_of_getElem? (i := 1141) (by decide +kernel)⟩
theorem lw_p49 : lw_okq (⟨"CastWorksModel", "touches", "(III)Z"⟩, 53) := ⟨⟨by decide +kernel, by decide +kernel⟩, List.mem_of_getElem? (i := 856) (by decide +kernel), List.mem_of_getElem? (i := 1144) (by decide +kernel), List.mem_of_getElem? (i := 1145) (by decide +kernel)⟩
theorem lw_p50 : lw_okq (⟨"CastWorksModel", "isPiece", "(I)Z"⟩, 53) := ⟨⟨by decide +kernel, by decide +kernel⟩, List.mem_of_getElem? (i := 856) (by decide +kernel), List.mem_of_getElem? (i := 1160) (by decide +kernel), List.mem_of_getElem? (i := 1161) (by decide +kernel)⟩
theorem lw_p51 : lw_okq (⟨"CastWorksModel", "bears", "(I)I"⟩, 53) := ⟨⟨by decide +kernel, by decide +kernel⟩, List.mem_of_getElem? (i := 856) (by decide +kernel), List.mem_of_getElem? (i := 1164) (by decide +kernel), List.mem_of_getElem? (i := 1165) (by decide +kernel)⟩
theorem lw_p52 : lw_okq (⟨"CastWorksModel", "isBorne", "()Z"⟩, 53) := ⟨⟨by decide +kernel, by decide +kernel⟩, List.mem_of_getElem? (i := 856) (by decide +kernel), List.mem_of_getElem? (i := 1176) (by decide +kernel), List.mem_of_getElem? (i := 1177) (by decide +kernel)⟩
theorem lw_p53 : lw_okq (⟨"CastWorksModel", "pours", "()V"⟩, 53) := ⟨⟨by decide +kernel, by decide +kernel⟩, List.mem_of_getElem? (i := 856) (by decide +kernel), List.mem_of_getElem? (i := 1180) (by decide +kernel), List.mem_of_getElem? (i := 1181) (by decide +kernel)⟩
theorem lw_p54 : lw_okq (⟨"CastWorksModel", "lateOf", "(II)I"⟩, 53) := ⟨⟨by decide +kernel, by decide +kernel⟩, List.mem_of_getElem? (i := 856) (by decide +kernel), List.mem_of_getElem? (i := 1210) (by decide +kernel), List.mem_of_getElem? (i := 1211) (by decide +kernel)⟩
theorem lw_p55 : lw_okq (⟨"CastWorksModel", "poursOf", "(I)I"⟩, 53) := ⟨⟨by decide +kernel, by decide +kernel⟩, List.mem_of_getElem? (i := 856) (by decide +kernel), List.mem_of_getElem? (i := 1214) (by decide +kernel), List.mem_of_getElem? (i := 1215) (by decide +kernel)⟩
theorem lw_p56 : lw_okq (⟨"CastWorksModel", "isCast", "(I)Z"⟩, 53) := ⟨⟨by decide +kernel, by decide +kernel⟩, List.mem_of_getElem? (i := 856) (by decide +kernel), List.mem_of_getElem? (i := 1239) (by decide +kernel), List.mem_of_getElem? (i := 1240) (by decide +kernel)⟩
theorem lw_p57 : lw_okq (⟨"CastWorksModel", "quarrel", "(II)I"⟩, 53) := ⟨⟨by decide +kernel, by decide +kernel⟩, List.mem_of_getElem? (i := 856) (by decide +kernel), List.mem_of_getElem? (i := 1243) (by decide +kernel), List.mem_of_getElem? (i := 1244) (by decide +kernel)⟩
def lw_privs_4 : List (MethodName × Nat) := [(⟨"CastWorksModel", "hangs", "(I[III)V"⟩, 53), (⟨"CastWorksModel", "touches", "(III)Z"⟩, 53), (⟨"CastWorksModel", "isPiece", "(I)Z"⟩, 53), (⟨"CastWorksModel", "bears", "(I)I"⟩, 53), (⟨"CastWorksModel", "isBorne", "()Z"⟩, 53), (⟨"CastWorksModel", "pours", "()V"⟩, 53), (⟨"CastWorksModel", "lateOf", "(II)I"⟩, 53), (⟨"CastWorksModel", "poursOf", "(I)I"⟩, 53), (⟨"CastWorksModel", "isCast", "(I)Z"⟩, 53), (⟨"CastWorksModel", "quarrel", "(II)I"⟩, 53)]
theorem lw_r4 : ∀ q ∈ lw_privs_4, lw_okq q := List.forall_mem_cons.mpr ⟨lw_p48, List.forall_mem_cons.mpr ⟨lw_p49, List.forall_mem_cons.mpr ⟨lw_p50, List.forall_mem_cons.mpr ⟨lw_p51, List.forall_mem_cons.mpr ⟨lw_p52, List.forall_mem_cons.mpr ⟨lw_p53, List.forall_mem_cons.mpr ⟨lw_p54, List.forall_mem_cons.mpr ⟨lw_p55, List.forall_mem_cons.mpr ⟨lw_p56, List.forall_mem_cons.mpr ⟨lw_p57, fun _ h => absurd h List.not_mem_nil⟩⟩⟩⟩⟩⟩⟩⟩⟩⟩
def lw_privs : List (MethodName × Nat) := lw_privs_1 ++ (lw_privs_2 ++ (lw_privs_3 ++ (lw_privs_4)))
def lw_tbl : List Cond := k2_sels lw_privs ++ tables_1
theorem lw_privs_ok : ∀ q ∈ lw_privs, lw_okq q := by
  show ∀ q ∈ lw_privs_1 ++ (lw_privs_2 ++ (lw_privs_3 ++ (lw_privs_4))), lw_okq q
  exact List.forall_mem_append.mpr ⟨lw_r1, List.forall_mem_append.mpr ⟨lw_r2, List.forall_mem_append.mpr ⟨lw_r3, lw_r4⟩⟩⟩
end
section
def RX0 : String := "CastWorks$Cells"
def TX0 : u_T := fun k => match k with
  | 0 => ("CastWorks$Cells", "solidCells", "[I", true)
  | 1 => ("CastWorks$Cells", "layer", "[I", true)
  | 2 => ("CastWorks$Cells", "wide", "I", false)
  | 3 => ("CastWorks$Cells", "high", "I", false)
  | _ => ("CastWorks$Cells", "deep", "I", false)
def tyX0 : Nat → FieldType := fun k => match k with
  | 0 => .array .int
  | 1 => .array .int
  | 2 => .int
  | 3 => .int
  | _ => .int
abbrev wsX00 : List Cond := u_ws RX0 TX0 5
theorem nmX0 : ∀ a, a < 5 → ∀ b, b < 5 → a ≠ b → (TX0 a).2.1 ≠ (TX0 b).2.1 := by decide +kernel
theorem tyX0_ok : ∀ k, k < 5 → parseFieldDescriptor (TX0 k).2.2.1 = some (tyX0 k) := by decide +kernel
abbrev cX0_init : ByteArray := prog_2_method_1_code
def yX0_init : MethodName := ⟨RX0, "<init>", "()V"⟩
abbrev cX0_canBeSide : ByteArray := prog_2_method_2_code
def yX0_canBeSide : MethodName := ⟨RX0, "canBeSide", "(I)Z"⟩
abbrev cX0_indexOf : ByteArray := prog_2_method_3_code
def yX0_indexOf : MethodName := ⟨RX0, "indexOf", "(III)I"⟩
abbrev cX0_begin : ByteArray := prog_2_method_4_code
def yX0_begin : MethodName := ⟨RX0, "begin", "(III)V"⟩
abbrev cX0_copyFrom : ByteArray := prog_2_method_5_code
def yX0_copyFrom : MethodName := ⟨RX0, "copyFrom", "(LCastWorks$Cells;)V"⟩
abbrev cX0_isThere : ByteArray := prog_2_method_6_code
def yX0_isThere : MethodName := ⟨RX0, "isThere", "()Z"⟩
abbrev cX0_areWithin : ByteArray := prog_2_method_7_code
def yX0_areWithin : MethodName := ⟨RX0, "areWithin", "(IIII)Z"⟩
abbrev cX0_isSolid : ByteArray := prog_2_method_8_code
def yX0_isSolid : MethodName := ⟨RX0, "isSolid", "(I)Z"⟩
abbrev cX0_countSolid : ByteArray := prog_2_method_9_code
def yX0_countSolid : MethodName := ⟨RX0, "countSolid", "()I"⟩
abbrev cX0_fillBlock : ByteArray := prog_2_method_10_code
def yX0_fillBlock : MethodName := ⟨RX0, "fillBlock", "([II)V"⟩
abbrev cX0_mirrorAcross : ByteArray := prog_2_method_11_code
def yX0_mirrorAcross : MethodName := ⟨RX0, "mirrorAcross", "(I)V"⟩
abbrev cX0_canTurn : ByteArray := prog_2_method_12_code
def yX0_canTurn : MethodName := ⟨RX0, "canTurn", "()Z"⟩
abbrev cX0_turnOnce : ByteArray := prog_2_method_13_code
def yX0_turnOnce : MethodName := ⟨RX0, "turnOnce", "()V"⟩
abbrev cX0_keepLayer : ByteArray := prog_2_method_14_code
def yX0_keepLayer : MethodName := ⟨RX0, "keepLayer", "(I)V"⟩
abbrev cX0_put : ByteArray := prog_2_method_15_code
def yX0_put : MethodName := ⟨RX0, "put", "(IIII)V"⟩
def RX1 : String := "CastWorks$Drawing"
def TX1 : u_T := fun k => match k with
  | 0 => ("CastWorks$Drawing", "mould", "LCastWorks$Mould;", true)
  | 1 => ("CastWorks$Drawing", "pieces", "LCastWorks$Pieces;", true)
  | 2 => ("CastWorks$Drawing", "parting", "LCastWorks$Parting;", true)
  | 3 => ("CastWorks$Drawing", "ways", "[I", true)
  | 4 => ("CastWorks$Drawing", "wayCount", "I", false)
  | 5 => ("CastWorks$Drawing", "piecesToCome", "[I", true)
  | 6 => ("CastWorks$Drawing", "wayToCome", "[I", true)
  | _ => ("CastWorks$Drawing", "cellsFreeBy", "[I", true)
def tyX1 : Nat → FieldType := fun k => match k with
  | 0 => .object "CastWorks$Mould"
  | 1 => .object "CastWorks$Pieces"
  | 2 => .object "CastWorks$Parting"
  | 3 => .array .int
  | 4 => .int
  | 5 => .array .int
  | 6 => .array .int
  | _ => .array .int
abbrev wsX10 : List Cond := u_ws RX1 TX1 8
theorem nmX1 : ∀ a, a < 8 → ∀ b, b < 8 → a ≠ b → (TX1 a).2.1 ≠ (TX1 b).2.1 := by decide +kernel
theorem tyX1_ok : ∀ k, k < 8 → parseFieldDescriptor (TX1 k).2.2.1 = some (tyX1 k) := by decide +kernel
abbrev cX1_init : ByteArray := prog_3_method_1_code
def yX1_init : MethodName := ⟨RX1, "<init>", "(LCastWorks$Mould;LCastWorks$Pieces;)V"⟩
abbrev cX1_forget : ByteArray := prog_3_method_2_code
def yX1_forget : MethodName := ⟨RX1, "forget", "()V"⟩
abbrev cX1_find : ByteArray := prog_3_method_3_code
def yX1_find : MethodName := ⟨RX1, "find", "()Z"⟩
abbrev cX1_wayNumber : ByteArray := prog_3_method_4_code
def yX1_wayNumber : MethodName := ⟨RX1, "wayNumber", "(I)I"⟩
abbrev cX1_pieceOfCell : ByteArray := prog_3_method_5_code
def yX1_pieceOfCell : MethodName := ⟨RX1, "pieceOfCell", "(I)I"⟩
abbrev cX1_noteFreedoms : ByteArray := prog_3_method_6_code
def yX1_noteFreedoms : MethodName := ⟨RX1, "noteFreedoms", "()V"⟩
abbrev cX1_frees : ByteArray := prog_3_method_7_code
def yX1_frees : MethodName := ⟨RX1, "frees", "(I)Z"⟩
abbrev cX1_fewestWays : ByteArray := prog_3_method_8_code
def yX1_fewestWays : MethodName := ⟨RX1, "fewestWays", "()I"⟩
abbrev cX1_weighSets : ByteArray := prog_3_method_9_code
def yX1_weighSets : MethodName := ⟨RX1, "weighSets", "(I)V"⟩
abbrev cX1_weighWays : ByteArray := prog_3_method_10_code
def yX1_weighWays : MethodName := ⟨RX1, "weighWays", "(I)V"⟩
abbrev cX1_keepBest : ByteArray := prog_3_method_11_code
def yX1_keepBest : MethodName := ⟨RX1, "keepBest", "(I)V"⟩
def RX2 : String := "CastWorks$Finds"
def TX2 : u_T := fun k => match k with
  | 0 => ("CastWorks$Finds", "sizes", "[I", true)
  | 1 => ("CastWorks$Finds", "details", "[I", true)
  | 2 => ("CastWorks$Finds", "shrinking", "I", false)
  | 3 => ("CastWorks$Finds", "blurring", "I", false)
  | _ => ("CastWorks$Finds", "mostQuarrel", "I", false)
def tyX2 : Nat → FieldType := fun k => match k with
  | 0 => .array .int
  | 1 => .array .int
  | 2 => .int
  | 3 => .int
  | _ => .int
abbrev wsX20 : List Cond := u_ws RX2 TX2 5
theorem nmX2 : ∀ a, a < 5 → ∀ b, b < 5 → a ≠ b → (TX2 a).2.1 ≠ (TX2 b).2.1 := by decide +kernel
theorem tyX2_ok : ∀ k, k < 5 → parseFieldDescriptor (TX2 k).2.2.1 = some (tyX2 k) := by decide +kernel
abbrev cX2_init : ByteArray := prog_4_method_1_code
def yX2_init : MethodName := ⟨RX2, "<init>", "()V"⟩
abbrev cX2_has : ByteArray := prog_4_method_2_code
def yX2_has : MethodName := ⟨RX2, "has", "(I)Z"⟩
abbrev cX2_set : ByteArray := prog_4_method_3_code
def yX2_set : MethodName := ⟨RX2, "set", "(III)Z"⟩
abbrev cX2_setCopying : ByteArray := prog_4_method_4_code
def yX2_setCopying : MethodName := ⟨RX2, "setCopying", "(III)Z"⟩
abbrev cX2_motherOf : ByteArray := prog_4_method_5_code
def yX2_motherOf : MethodName := ⟨RX2, "motherOf", "(I)I"⟩
abbrev cX2_stepsFrom : ByteArray := prog_4_method_6_code
def yX2_stepsFrom : MethodName := ⟨RX2, "stepsFrom", "(I)I"⟩
abbrev cX2_countMotherless : ByteArray := prog_4_method_7_code
def yX2_countMotherless : MethodName := ⟨RX2, "countMotherless", "()I"⟩
abbrev cX2_sumQuarrels : ByteArray := prog_4_method_8_code
def yX2_sumQuarrels : MethodName := ⟨RX2, "sumQuarrels", "()I"⟩
abbrev cX2_canBeMother : ByteArray := prog_4_method_9_code
def yX2_canBeMother : MethodName := ⟨RX2, "canBeMother", "(II)Z"⟩
abbrev cX2_quarrelOf : ByteArray := prog_4_method_10_code
def yX2_quarrelOf : MethodName := ⟨RX2, "quarrelOf", "(II)I"⟩
def RX3 : String := "CastWorks$Mould"
def TX3 : u_T := fun k => match k with
  | 0 => ("CastWorks$Mould", "cells", "LCastWorks$Cells;", true)
  | 1 => ("CastWorks$Mould", "members", "[I", true)
  | 2 => ("CastWorks$Mould", "length", "I", false)
  | _ => ("CastWorks$Mould", "freeBits", "[I", true)
def tyX3 : Nat → FieldType := fun k => match k with
  | 0 => .object "CastWorks$Cells"
  | 1 => .array .int
  | 2 => .int
  | _ => .array .int
abbrev wsX30 : List Cond := u_ws RX3 TX3 4
theorem nmX3 : ∀ a, a < 4 → ∀ b, b < 4 → a ≠ b → (TX3 a).2.1 ≠ (TX3 b).2.1 := by decide +kernel
theorem tyX3_ok : ∀ k, k < 4 → parseFieldDescriptor (TX3 k).2.2.1 = some (tyX3 k) := by decide +kernel
abbrev cX3_init : ByteArray := prog_5_method_1_code
def yX3_init : MethodName := ⟨RX3, "<init>", "(LCastWorks$Cells;)V"⟩
abbrev cX3_makeAnew : ByteArray := prog_5_method_2_code
def yX3_makeAnew : MethodName := ⟨RX3, "makeAnew", "()V"⟩
abbrev cX3_size : ByteArray := prog_5_method_3_code
def yX3_size : MethodName := ⟨RX3, "size", "()I"⟩
abbrev cX3_member : ByteArray := prog_5_method_4_code
def yX3_member : MethodName := ⟨RX3, "member", "(I)I"⟩
abbrev cX3_cellAt : ByteArray := prog_5_method_5_code
def yX3_cellAt : MethodName := ⟨RX3, "cellAt", "(III)I"⟩
abbrev cX3_freeWays : ByteArray := prog_5_method_6_code
def yX3_freeWays : MethodName := ⟨RX3, "freeWays", "(I)I"⟩
abbrev cX3_countShut : ByteArray := prog_5_method_7_code
def yX3_countShut : MethodName := ⟨RX3, "countShut", "()I"⟩
abbrev cX3_beside : ByteArray := prog_5_method_8_code
def yX3_beside : MethodName := ⟨RX3, "beside", "(II)I"⟩
abbrev cX3_touchesSolid : ByteArray := prog_5_method_9_code
def yX3_touchesSolid : MethodName := ⟨RX3, "touchesSolid", "(I)Z"⟩
abbrev cX3_addMember : ByteArray := prog_5_method_10_code
def yX3_addMember : MethodName := ⟨RX3, "addMember", "(I)V"⟩
abbrev cX3_freeFromEdge : ByteArray := prog_5_method_11_code
def yX3_freeFromEdge : MethodName := ⟨RX3, "freeFromEdge", "(I)V"⟩
abbrev cX3_freeInwards : ByteArray := prog_5_method_12_code
def yX3_freeInwards : MethodName := ⟨RX3, "freeInwards", "(II)V"⟩
def RX4 : String := "CastWorks$OrderBook"
def TX4 : u_T := fun k => match k with
  | 0 => ("CastWorks$OrderBook", "pours", "[I", true)
  | 1 => ("CastWorks$OrderBook", "dues", "[I", true)
  | 2 => ("CastWorks$OrderBook", "weights", "[I", true)
  | 3 => ("CastWorks$OrderBook", "dryDays", "I", false)
  | 4 => ("CastWorks$OrderBook", "leastSum", "[I", true)
  | 5 => ("CastWorks$OrderBook", "leader", "[I", true)
  | 6 => ("CastWorks$OrderBook", "rowOrders", "[I", true)
  | 7 => ("CastWorks$OrderBook", "rowLate", "[I", true)
  | _ => ("CastWorks$OrderBook", "rowLength", "I", false)
def tyX4 : Nat → FieldType := fun k => match k with
  | 0 => .array .int
  | 1 => .array .int
  | 2 => .array .int
  | 3 => .int
  | 4 => .array .int
  | 5 => .array .int
  | 6 => .array .int
  | 7 => .array .int
  | _ => .int
abbrev wsX40 : List Cond := u_ws RX4 TX4 9
theorem nmX4 : ∀ a, a < 9 → ∀ b, b < 9 → a ≠ b → (TX4 a).2.1 ≠ (TX4 b).2.1 := by decide +kernel
theorem tyX4_ok : ∀ k, k < 9 → parseFieldDescriptor (TX4 k).2.2.1 = some (tyX4 k) := by decide +kernel
abbrev cX4_init : ByteArray := prog_6_method_1_code
def yX4_init : MethodName := ⟨RX4, "<init>", "()V"⟩
abbrev cX4_setDry : ByteArray := prog_6_method_2_code
def yX4_setDry : MethodName := ⟨RX4, "setDry", "(I)I"⟩
abbrev cX4_add : ByteArray := prog_6_method_3_code
def yX4_add : MethodName := ⟨RX4, "add", "(III)I"⟩
abbrev cX4_remove : ByteArray := prog_6_method_4_code
def yX4_remove : MethodName := ⟨RX4, "remove", "(I)Z"⟩
abbrev cX4_rowNumber : ByteArray := prog_6_method_5_code
def yX4_rowNumber : MethodName := ⟨RX4, "rowNumber", "(I)I"⟩
abbrev cX4_rowLateness : ByteArray := prog_6_method_6_code
def yX4_rowLateness : MethodName := ⟨RX4, "rowLateness", "(I)I"⟩
abbrev cX4_findRow : ByteArray := prog_6_method_7_code
def yX4_findRow : MethodName := ⟨RX4, "findRow", "()I"⟩
abbrev cX4_allOrders : ByteArray := prog_6_method_8_code
def yX4_allOrders : MethodName := ⟨RX4, "allOrders", "()I"⟩
abbrev cX4_poursOf : ByteArray := prog_6_method_9_code
def yX4_poursOf : MethodName := ⟨RX4, "poursOf", "(I)I"⟩
abbrev cX4_weighSet : ByteArray := prog_6_method_10_code
def yX4_weighSet : MethodName := ⟨RX4, "weighSet", "(II)V"⟩
abbrev cX4_latenessOf : ByteArray := prog_6_method_11_code
def yX4_latenessOf : MethodName := ⟨RX4, "latenessOf", "(II)I"⟩
abbrev cX4_keepRow : ByteArray := prog_6_method_12_code
def yX4_keepRow : MethodName := ⟨RX4, "keepRow", "(I)V"⟩
def RX5 : String := "CastWorks$Parting"
def TX5 : u_T := fun k => match k with
  | 0 => ("CastWorks$Parting", "mould", "LCastWorks$Mould;", true)
  | 1 => ("CastWorks$Parting", "numberOf", "[I", true)
  | _ => ("CastWorks$Parting", "waiting", "[I", true)
def tyX5 : Nat → FieldType := fun k => match k with
  | 0 => .object "CastWorks$Mould"
  | 1 => .array .int
  | _ => .array .int
abbrev wsX50 : List Cond := u_ws RX5 TX5 3
theorem nmX5 : ∀ a, a < 3 → ∀ b, b < 3 → a ≠ b → (TX5 a).2.1 ≠ (TX5 b).2.1 := by decide +kernel
theorem tyX5_ok : ∀ k, k < 3 → parseFieldDescriptor (TX5 k).2.2.1 = some (tyX5 k) := by decide +kernel
abbrev cX5_init : ByteArray := prog_7_method_1_code
def yX5_init : MethodName := ⟨RX5, "<init>", "(LCastWorks$Mould;)V"⟩
abbrev cX5_numberAt : ByteArray := prog_7_method_2_code
def yX5_numberAt : MethodName := ⟨RX5, "numberAt", "(I)I"⟩
abbrev cX5_part : ByteArray := prog_7_method_3_code
def yX5_part : MethodName := ⟨RX5, "part", "(III)I"⟩
abbrev cX5_openCells : ByteArray := prog_7_method_4_code
def yX5_openCells : MethodName := ⟨RX5, "openCells", "(II)V"⟩
abbrev cX5_spread : ByteArray := prog_7_method_5_code
def yX5_spread : MethodName := ⟨RX5, "spread", "(II)V"⟩
abbrev cX5_reach : ByteArray := prog_7_method_6_code
def yX5_reach : MethodName := ⟨RX5, "reach", "(III)I"⟩
def RX6 : String := "CastWorks$Pieces"
def TX6 : u_T := fun k => match k with
  | 0 => ("CastWorks$Pieces", "ways", "[I", true)
  | 1 => ("CastWorks$Pieces", "sizes", "[I", true)
  | 2 => ("CastWorks$Pieces", "touching", "[I", true)
  | 3 => ("CastWorks$Pieces", "poured", "[I", true)
  | 4 => ("CastWorks$Pieces", "length", "I", false)
  | 5 => ("CastWorks$Pieces", "life", "I", false)
  | _ => ("CastWorks$Pieces", "price", "I", false)
def tyX6 : Nat → FieldType := fun k => match k with
  | 0 => .array .int
  | 1 => .array .int
  | 2 => .array .int
  | 3 => .array .int
  | 4 => .int
  | 5 => .int
  | _ => .int
abbrev wsX60 : List Cond := u_ws RX6 TX6 7
theorem nmX6 : ∀ a, a < 7 → ∀ b, b < 7 → a ≠ b → (TX6 a).2.1 ≠ (TX6 b).2.1 := by decide +kernel
theorem tyX6_ok : ∀ k, k < 7 → parseFieldDescriptor (TX6 k).2.2.1 = some (tyX6 k) := by decide +kernel
abbrev cX6_init : ByteArray := prog_8_method_1_code
def yX6_init : MethodName := ⟨RX6, "<init>", "()V"⟩
abbrev cX6_clear : ByteArray := prog_8_method_2_code
def yX6_clear : MethodName := ⟨RX6, "clear", "()V"⟩
abbrev cX6_count : ByteArray := prog_8_method_3_code
def yX6_count : MethodName := ⟨RX6, "count", "()I"⟩
abbrev cX6_has : ByteArray := prog_8_method_4_code
def yX6_has : MethodName := ⟨RX6, "has", "(I)Z"⟩
abbrev cX6_add : ByteArray := prog_8_method_5_code
def yX6_add : MethodName := ⟨RX6, "add", "(II)V"⟩
abbrev cX6_gather : ByteArray := prog_8_method_6_code
def yX6_gather : MethodName := ⟨RX6, "gather", "(LCastWorks$Mould;LCastWorks$Parting;)V"⟩
abbrev cX6_takeBackPours : ByteArray := prog_8_method_7_code
def yX6_takeBackPours : MethodName := ⟨RX6, "takeBackPours", "()V"⟩
abbrev cX6_tell : ByteArray := prog_8_method_8_code
def yX6_tell : MethodName := ⟨RX6, "tell", "(II)I"⟩
abbrev cX6_setWear : ByteArray := prog_8_method_9_code
def yX6_setWear : MethodName := ⟨RX6, "setWear", "(II)Z"⟩
abbrev cX6_canPour : ByteArray := prog_8_method_10_code
def yX6_canPour : MethodName := ⟨RX6, "canPour", "(I)Z"⟩
abbrev cX6_pourWhileBorne : ByteArray := prog_8_method_11_code
def yX6_pourWhileBorne : MethodName := ⟨RX6, "pourWhileBorne", "(I)I"⟩
abbrev cX6_mendOne : ByteArray := prog_8_method_12_code
def yX6_mendOne : MethodName := ⟨RX6, "mendOne", "(I)I"⟩
abbrev cX6_pourAndMend : ByteArray := prog_8_method_13_code
def yX6_pourAndMend : MethodName := ⟨RX6, "pourAndMend", "(I)I"⟩
abbrev cX6_pourAndMendOne : ByteArray := prog_8_method_14_code
def yX6_pourAndMendOne : MethodName := ⟨RX6, "pourAndMendOne", "(II)I"⟩
abbrev cX6_borneBy : ByteArray := prog_8_method_15_code
def yX6_borneBy : MethodName := ⟨RX6, "borneBy", "(I)I"⟩
abbrev cX6_leftOn : ByteArray := prog_8_method_16_code
def yX6_leftOn : MethodName := ⟨RX6, "leftOn", "(I)I"⟩
def RX7 : String := "CastWorks$Tape"
def TX7 : u_T := fun k => match k with
  | 0 => ("CastWorks$Tape", "bytes", "[I", true)
  | _ => ("CastWorks$Tape", "length", "I", false)
def tyX7 : Nat → FieldType := fun k => match k with
  | 0 => .array .int
  | _ => .int
abbrev wsX70 : List Cond := u_ws RX7 TX7 2
theorem nmX7 : ∀ a, a < 2 → ∀ b, b < 2 → a ≠ b → (TX7 a).2.1 ≠ (TX7 b).2.1 := by decide +kernel
theorem tyX7_ok : ∀ k, k < 2 → parseFieldDescriptor (TX7 k).2.2.1 = some (tyX7 k) := by decide +kernel
abbrev cX7_init : ByteArray := prog_9_method_1_code
def yX7_init : MethodName := ⟨RX7, "<init>", "()V"⟩
abbrev cX7_size : ByteArray := prog_9_method_2_code
def yX7_size : MethodName := ⟨RX7, "size", "()I"⟩
abbrev cX7_hasRoomForTwenty : ByteArray := prog_9_method_3_code
def yX7_hasRoomForTwenty : MethodName := ⟨RX7, "hasRoomForTwenty", "()Z"⟩
abbrev cX7_addFour : ByteArray := prog_9_method_4_code
def yX7_addFour : MethodName := ⟨RX7, "addFour", "(I)V"⟩
abbrev cX7_keepFirst : ByteArray := prog_9_method_5_code
def yX7_keepFirst : MethodName := ⟨RX7, "keepFirst", "(I)Z"⟩
abbrev cX7_byteAt : ByteArray := prog_9_method_6_code
def yX7_byteAt : MethodName := ⟨RX7, "byteAt", "(I)I"⟩
def RX8 : String := "CastWorks$TextReader"
def TX8 : u_T := fun k => match k with
  | 0 => ("CastWorks$TextReader", "tape", "LCastWorks$Tape;", true)
  | 1 => ("CastWorks$TextReader", "numbers", "[I", true)
  | 2 => ("CastWorks$TextReader", "place", "I", false)
  | 3 => ("CastWorks$TextReader", "kind", "I", false)
  | _ => ("CastWorks$TextReader", "kindPlace", "I", false)
def tyX8 : Nat → FieldType := fun k => match k with
  | 0 => .object "CastWorks$Tape"
  | 1 => .array .int
  | 2 => .int
  | 3 => .int
  | _ => .int
abbrev wsX80 : List Cond := u_ws RX8 TX8 5
theorem nmX8 : ∀ a, a < 5 → ∀ b, b < 5 → a ≠ b → (TX8 a).2.1 ≠ (TX8 b).2.1 := by decide +kernel
theorem tyX8_ok : ∀ k, k < 5 → parseFieldDescriptor (TX8 k).2.2.1 = some (tyX8 k) := by decide +kernel
abbrev cX8_init : ByteArray := prog_10_method_1_code
def yX8_init : MethodName := ⟨RX8, "<init>", "(LCastWorks$Tape;)V"⟩
abbrev cX8_faultKind : ByteArray := prog_10_method_2_code
def yX8_faultKind : MethodName := ⟨RX8, "faultKind", "()I"⟩
abbrev cX8_faultPlace : ByteArray := prog_10_method_3_code
def yX8_faultPlace : MethodName := ⟨RX8, "faultPlace", "()I"⟩
abbrev cX8_readOnto : ByteArray := prog_10_method_4_code
def yX8_readOnto : MethodName := ⟨RX8, "readOnto", "(LCastWorks$Cells;)Z"⟩
abbrev cX8_readStatement : ByteArray := prog_10_method_5_code
def yX8_readStatement : MethodName := ⟨RX8, "readStatement", "(LCastWorks$Cells;)V"⟩
abbrev cX8_readBlock : ByteArray := prog_10_method_6_code
def yX8_readBlock : MethodName := ⟨RX8, "readBlock", "(LCastWorks$Cells;I)V"⟩
abbrev cX8_readNumber : ByteArray := prog_10_method_7_code
def yX8_readNumber : MethodName := ⟨RX8, "readNumber", "(I)V"⟩
abbrev cX8_readMirror : ByteArray := prog_10_method_8_code
def yX8_readMirror : MethodName := ⟨RX8, "readMirror", "(LCastWorks$Cells;)V"⟩
abbrev cX8_readTurn : ByteArray := prog_10_method_9_code
def yX8_readTurn : MethodName := ⟨RX8, "readTurn", "(LCastWorks$Cells;I)V"⟩
abbrev cX8_readSemicolon : ByteArray := prog_10_method_10_code
def yX8_readSemicolon : MethodName := ⟨RX8, "readSemicolon", "()V"⟩
abbrev cX8_takeAxis : ByteArray := prog_10_method_11_code
def yX8_takeAxis : MethodName := ⟨RX8, "takeAxis", "()I"⟩
abbrev cX8_takeWord : ByteArray := prog_10_method_12_code
def yX8_takeWord : MethodName := ⟨RX8, "takeWord", "(Ljava/lang/String;)Z"⟩
abbrev cX8_isLetter : ByteArray := prog_10_method_13_code
def yX8_isLetter : MethodName := ⟨RX8, "isLetter", "(I)Z"⟩
abbrev cX8_skipBlanks : ByteArray := prog_10_method_14_code
def yX8_skipBlanks : MethodName := ⟨RX8, "skipBlanks", "()V"⟩
abbrev cX8_isBlank : ByteArray := prog_10_method_15_code
def yX8_isBlank : MethodName := ⟨RX8, "isBlank", "(I)Z"⟩
abbrev cX8_refuse : ByteArray := prog_10_method_16_code
def yX8_refuse : MethodName := ⟨RX8, "refuse", "(II)V"⟩
def RX9 : String := "CastWorks"
def TX9 : u_T := fun k => match k with
  | 0 => ("CastWorks", "tape", "LCastWorks$Tape;", true)
  | 1 => ("CastWorks", "reader", "LCastWorks$TextReader;", true)
  | 2 => ("CastWorks", "cells", "LCastWorks$Cells;", true)
  | 3 => ("CastWorks", "draft", "LCastWorks$Cells;", true)
  | 4 => ("CastWorks", "mould", "LCastWorks$Mould;", true)
  | 5 => ("CastWorks", "pieces", "LCastWorks$Pieces;", true)
  | 6 => ("CastWorks", "drawing", "LCastWorks$Drawing;", true)
  | 7 => ("CastWorks", "orders", "LCastWorks$OrderBook;", true)
  | _ => ("CastWorks", "finds", "LCastWorks$Finds;", true)
def tyX9 : Nat → FieldType := fun k => match k with
  | 0 => .object "CastWorks$Tape"
  | 1 => .object "CastWorks$TextReader"
  | 2 => .object "CastWorks$Cells"
  | 3 => .object "CastWorks$Cells"
  | 4 => .object "CastWorks$Mould"
  | 5 => .object "CastWorks$Pieces"
  | 6 => .object "CastWorks$Drawing"
  | 7 => .object "CastWorks$OrderBook"
  | _ => .object "CastWorks$Finds"
abbrev wsX90 : List Cond := u_ws RX9 TX9 9
theorem nmX9 : ∀ a, a < 9 → ∀ b, b < 9 → a ≠ b → (TX9 a).2.1 ≠ (TX9 b).2.1 := by decide +kernel
theorem tyX9_ok : ∀ k, k < 9 → parseFieldDescriptor (TX9 k).2.2.1 = some (tyX9 k) := by decide +kernel
abbrev cX9_init : ByteArray := prog_1_method_1_code
def yX9_init : MethodName := ⟨RX9, "<init>", "()V"⟩
abbrev cX9_feed : ByteArray := prog_1_method_2_code
def yX9_feed : MethodName := ⟨RX9, "feed", "(IIIII)I"⟩
abbrev cX9_end : ByteArray := prog_1_method_3_code
def yX9_end : MethodName := ⟨RX9, "end", "(I)Z"⟩
abbrev cX9_form : ByteArray := prog_1_method_4_code
def yX9_form : MethodName := ⟨RX9, "form", "(III)I"⟩
abbrev cX9_fault : ByteArray := prog_1_method_5_code
def yX9_fault : MethodName := ⟨RX9, "fault", "(I)I"⟩
abbrev cX9_solid : ByteArray := prog_1_method_6_code
def yX9_solid : MethodName := ⟨RX9, "solid", "(III)I"⟩
abbrev cX9_free : ByteArray := prog_1_method_7_code
def yX9_free : MethodName := ⟨RX9, "free", "(III)I"⟩
abbrev cX9_shut : ByteArray := prog_1_method_8_code
def yX9_shut : MethodName := ⟨RX9, "shut", "()I"⟩
abbrev cX9_draw : ByteArray := prog_1_method_9_code
def yX9_draw : MethodName := ⟨RX9, "draw", "()I"⟩
abbrev cX9_way : ByteArray := prog_1_method_10_code
def yX9_way : MethodName := ⟨RX9, "way", "(I)I"⟩
abbrev cX9_pieceAt : ByteArray := prog_1_method_11_code
def yX9_pieceAt : MethodName := ⟨RX9, "pieceAt", "(III)I"⟩
abbrev cX9_piece : ByteArray := prog_1_method_12_code
def yX9_piece : MethodName := ⟨RX9, "piece", "(II)I"⟩
abbrev cX9_wear : ByteArray := prog_1_method_13_code
def yX9_wear : MethodName := ⟨RX9, "wear", "(II)Z"⟩
abbrev cX9_pour : ByteArray := prog_1_method_14_code
def yX9_pour : MethodName := ⟨RX9, "pour", "(I)I"⟩
abbrev cX9_mend : ByteArray := prog_1_method_15_code
def yX9_mend : MethodName := ⟨RX9, "mend", "(I)I"⟩
abbrev cX9_run : ByteArray := prog_1_method_16_code
def yX9_run : MethodName := ⟨RX9, "run", "(I)I"⟩
abbrev cX9_dry : ByteArray := prog_1_method_17_code
def yX9_dry : MethodName := ⟨RX9, "dry", "(I)I"⟩
abbrev cX9_order : ByteArray := prog_1_method_18_code
def yX9_order : MethodName := ⟨RX9, "order", "(III)I"⟩
abbrev cX9_cancel : ByteArray := prog_1_method_19_code
def yX9_cancel : MethodName := ⟨RX9, "cancel", "(I)Z"⟩
abbrev cX9_row : ByteArray := prog_1_method_20_code
def yX9_row : MethodName := ⟨RX9, "row", "()I"⟩
abbrev cX9_next : ByteArray := prog_1_method_21_code
def yX9_next : MethodName := ⟨RX9, "next", "(I)I"⟩
abbrev cX9_late : ByteArray := prog_1_method_22_code
def yX9_late : MethodName := ⟨RX9, "late", "(I)I"⟩
abbrev cX9_cast : ByteArray := prog_1_method_23_code
def yX9_cast : MethodName := ⟨RX9, "cast", "(III)Z"⟩
abbrev cX9_copies : ByteArray := prog_1_method_24_code
def yX9_copies : MethodName := ⟨RX9, "copies", "(III)Z"⟩
abbrev cX9_mother : ByteArray := prog_1_method_25_code
def yX9_mother : MethodName := ⟨RX9, "mother", "(I)I"⟩
abbrev cX9_steps : ByteArray := prog_1_method_26_code
def yX9_steps : MethodName := ⟨RX9, "steps", "(I)I"⟩
abbrev cX9_told : ByteArray := prog_1_method_27_code
def yX9_told : MethodName := ⟨RX9, "told", "(I)I"⟩
def RX10 : String := "CastWorksModel"
def TX10 : u_T := fun k => match k with
  | 0 => ("CastWorksModel", "tape", "[I", true)
  | 1 => ("CastWorksModel", "taped", "I", false)
  | 2 => ("CastWorksModel", "at", "I", false)
  | 3 => ("CastWorksModel", "size", "I", false)
  | 4 => ("CastWorksModel", "begun", "I", false)
  | 5 => ("CastWorksModel", "ended", "I", false)
  | 6 => ("CastWorksModel", "bad", "I", false)
  | 7 => ("CastWorksModel", "badPlace", "I", false)
  | 8 => ("CastWorksModel", "fault", "I", false)
  | 9 => ("CastWorksModel", "faultPlace", "I", false)
  | 10 => ("CastWorksModel", "boxWord", "[C", true)
  | 11 => ("CastWorksModel", "holeWord", "[C", true)
  | 12 => ("CastWorksModel", "mirrorWord", "[C", true)
  | 13 => ("CastWorksModel", "turnWord", "[C", true)
  | 14 => ("CastWorksModel", "newWide", "I", false)
  | 15 => ("CastWorksModel", "newHigh", "I", false)
  | 16 => ("CastWorksModel", "newDeep", "I", false)
  | 17 => ("CastWorksModel", "made", "[Z", true)
  | 18 => ("CastWorksModel", "other", "[Z", true)
  | 19 => ("CastWorksModel", "told", "[I", true)
  | 20 => ("CastWorksModel", "hasForm", "Z", false)
  | 21 => ("CastWorksModel", "wide", "I", false)
  | 22 => ("CastWorksModel", "high", "I", false)
  | 23 => ("CastWorksModel", "deep", "I", false)
  | 24 => ("CastWorksModel", "solid", "[Z", true)
  | 25 => ("CastWorksModel", "ways", "[I", true)
  | 26 => ("CastWorksModel", "hasDrawing", "Z", false)
  | 27 => ("CastWorksModel", "many", "I", false)
  | 28 => ("CastWorksModel", "order", "[I", true)
  | 29 => ("CastWorksModel", "tried", "[I", true)
  | 30 => ("CastWorksModel", "pieceOf", "[I", true)
  | 31 => ("CastWorksModel", "pile", "[I", true)
  | 32 => ("CastWorksModel", "pieces", "I", false)
  | 33 => ("CastWorksModel", "pieceWay", "[I", true)
  | 34 => ("CastWorksModel", "pieceCells", "[I", true)
  | 35 => ("CastWorksModel", "pieceTouch", "[I", true)
  | 36 => ("CastWorksModel", "poured", "[I", true)
  | 37 => ("CastWorksModel", "life", "I", false)
  | 38 => ("CastWorksModel", "price", "I", false)
  | 39 => ("CastWorksModel", "dry", "I", false)
  | 40 => ("CastWorksModel", "isOrder", "[Z", true)
  | 41 => ("CastWorksModel", "pourMany", "[I", true)
  | 42 => ("CastWorksModel", "due", "[I", true)
  | 43 => ("CastWorksModel", "weight", "[I", true)
  | 44 => ("CastWorksModel", "least", "[I", true)
  | 45 => ("CastWorksModel", "rows", "I", false)
  | 46 => ("CastWorksModel", "rowOrder", "[I", true)
  | 47 => ("CastWorksModel", "rowLate", "[I", true)
  | 48 => ("CastWorksModel", "castSize", "[I", true)
  | 49 => ("CastWorksModel", "detail", "[I", true)
  | 50 => ("CastWorksModel", "shrink", "I", false)
  | 51 => ("CastWorksModel", "blur", "I", false)
  | _ => ("CastWorksModel", "bound", "I", false)
def tyX10 : Nat → FieldType := fun k => match k with
  | 0 => .array .int
  | 1 => .int
  | 2 => .int
  | 3 => .int
  | 4 => .int
  | 5 => .int
  | 6 => .int
  | 7 => .int
  | 8 => .int
  | 9 => .int
  | 10 => .array .char
  | 11 => .array .char
  | 12 => .array .char
  | 13 => .array .char
  | 14 => .int
  | 15 => .int
  | 16 => .int
  | 17 => .array .boolean
  | 18 => .array .boolean
  | 19 => .array .int
  | 20 => .boolean
  | 21 => .int
  | 22 => .int
  | 23 => .int
  | 24 => .array .boolean
  | 25 => .array .int
  | 26 => .boolean
  | 27 => .int
  | 28 => .array .int
  | 29 => .array .int
  | 30 => .array .int
  | 31 => .array .int
  | 32 => .int
  | 33 => .array .int
  | 34 => .array .int
  | 35 => .array .int
  | 36 => .array .int
  | 37 => .int
  | 38 => .int
  | 39 => .int
  | 40 => .array .boolean
  | 41 => .array .int
  | 42 => .array .int
  | 43 => .array .int
  | 44 => .array .int
  | 45 => .int
  | 46 => .array .int
  | 47 => .array .int
  | 48 => .array .int
  | 49 => .array .int
  | 50 => .int
  | 51 => .int
  | _ => .int
abbrev wsX100 : List Cond := u_ws RX10 TX10 53
theorem nmX10 : ∀ a, a < 53 → ∀ b, b < 53 → a ≠ b → (TX10 a).2.1 ≠ (TX10 b).2.1 := by decide +kernel
theorem tyX10_ok : ∀ k, k < 53 → parseFieldDescriptor (TX10 k).2.2.1 = some (tyX10 k) := by decide +kernel
abbrev cX10_init : ByteArray := prog_12_method_1_code
def yX10_init : MethodName := ⟨RX10, "<init>", "()V"⟩
abbrev cX10_feed : ByteArray := prog_12_method_2_code
def yX10_feed : MethodName := ⟨RX10, "feed", "(IIIII)I"⟩
abbrev cX10_end : ByteArray := prog_12_method_3_code
def yX10_end : MethodName := ⟨RX10, "end", "(I)Z"⟩
abbrev cX10_fail : ByteArray := prog_12_method_4_code
def yX10_fail : MethodName := ⟨RX10, "fail", "(II)V"⟩
abbrev cX10_isLetter : ByteArray := prog_12_method_5_code
def yX10_isLetter : MethodName := ⟨RX10, "isLetter", "(I)Z"⟩
abbrev cX10_isDigit : ByteArray := prog_12_method_6_code
def yX10_isDigit : MethodName := ⟨RX10, "isDigit", "(I)Z"⟩
abbrev cX10_next : ByteArray := prog_12_method_7_code
def yX10_next : MethodName := ⟨RX10, "next", "()I"⟩
abbrev cX10_number : ByteArray := prog_12_method_8_code
def yX10_number : MethodName := ⟨RX10, "number", "(I)I"⟩
abbrev cX10_isWord : ByteArray := prog_12_method_9_code
def yX10_isWord : MethodName := ⟨RX10, "isWord", "([C)Z"⟩
abbrev cX10_cell : ByteArray := prog_12_method_10_code
def yX10_cell : MethodName := ⟨RX10, "cell", "(III)I"⟩
abbrev cX10_boxes : ByteArray := prog_12_method_11_code
def yX10_boxes : MethodName := ⟨RX10, "boxes", "(Z)V"⟩
abbrev cX10_mirrors : ByteArray := prog_12_method_12_code
def yX10_mirrors : MethodName := ⟨RX10, "mirrors", "()V"⟩
abbrev cX10_turns : ByteArray := prog_12_method_13_code
def yX10_turns : MethodName := ⟨RX10, "turns", "(I)V"⟩
abbrev cX10_reads : ByteArray := prog_12_method_14_code
def yX10_reads : MethodName := ⟨RX10, "reads", "()V"⟩
abbrev cX10_isIn : ByteArray := prog_12_method_15_code
def yX10_isIn : MethodName := ⟨RX10, "isIn", "(III)Z"⟩
abbrev cX10_place : ByteArray := prog_12_method_16_code
def yX10_place : MethodName := ⟨RX10, "place", "(III)I"⟩
abbrev cX10_isMould : ByteArray := prog_12_method_17_code
def yX10_isMould : MethodName := ⟨RX10, "isMould", "(III)Z"⟩
abbrev cX10_form : ByteArray := prog_12_method_18_code
def yX10_form : MethodName := ⟨RX10, "form", "(III)I"⟩
abbrev cX10_stepX : ByteArray := prog_12_method_19_code
def yX10_stepX : MethodName := ⟨RX10, "stepX", "(I)I"⟩
abbrev cX10_stepY : ByteArray := prog_12_method_20_code
def yX10_stepY : MethodName := ⟨RX10, "stepY", "(I)I"⟩
abbrev cX10_stepZ : ByteArray := prog_12_method_21_code
def yX10_stepZ : MethodName := ⟨RX10, "stepZ", "(I)I"⟩
abbrev cX10_waysOf : ByteArray := prog_12_method_22_code
def yX10_waysOf : MethodName := ⟨RX10, "waysOf", "(III)I"⟩
abbrev cX10_fault : ByteArray := prog_12_method_23_code
def yX10_fault : MethodName := ⟨RX10, "fault", "(I)I"⟩
abbrev cX10_solid : ByteArray := prog_12_method_24_code
def yX10_solid : MethodName := ⟨RX10, "solid", "(III)I"⟩
abbrev cX10_free : ByteArray := prog_12_method_25_code
def yX10_free : MethodName := ⟨RX10, "free", "(III)I"⟩
abbrev cX10_shut : ByteArray := prog_12_method_26_code
def yX10_shut : MethodName := ⟨RX10, "shut", "()I"⟩
abbrev cX10_belongs : ByteArray := prog_12_method_27_code
def yX10_belongs : MethodName := ⟨RX10, "belongs", "(I[II)I"⟩
abbrev cX10_covers : ByteArray := prog_12_method_28_code
def yX10_covers : MethodName := ⟨RX10, "covers", "(I)Z"⟩
abbrev cX10_touches : ByteArray := prog_12_method_29_code
def yX10_touches : MethodName := ⟨RX10, "touches", "(III)Z"⟩
abbrev cX10_parts : ByteArray := prog_12_method_30_code
def yX10_parts : MethodName := ⟨RX10, "parts", "([II)I"⟩
abbrev cX10_hangs : ByteArray := prog_12_method_31_code
def yX10_hangs : MethodName := ⟨RX10, "hangs", "(I[III)V"⟩
abbrev cX10_ones : ByteArray := prog_12_method_32_code
def yX10_ones : MethodName := ⟨RX10, "ones", "(I)I"⟩
abbrev cX10_fewest : ByteArray := prog_12_method_33_code
def yX10_fewest : MethodName := ⟨RX10, "fewest", "()I"⟩
abbrev cX10_draw : ByteArray := prog_12_method_34_code
def yX10_draw : MethodName := ⟨RX10, "draw", "()I"⟩
abbrev cX10_way : ByteArray := prog_12_method_35_code
def yX10_way : MethodName := ⟨RX10, "way", "(I)I"⟩
abbrev cX10_pieceAt : ByteArray := prog_12_method_36_code
def yX10_pieceAt : MethodName := ⟨RX10, "pieceAt", "(III)I"⟩
abbrev cX10_isPiece : ByteArray := prog_12_method_37_code
def yX10_isPiece : MethodName := ⟨RX10, "isPiece", "(I)Z"⟩
abbrev cX10_bears : ByteArray := prog_12_method_38_code
def yX10_bears : MethodName := ⟨RX10, "bears", "(I)I"⟩
abbrev cX10_piece : ByteArray := prog_12_method_39_code
def yX10_piece : MethodName := ⟨RX10, "piece", "(II)I"⟩
abbrev cX10_wear : ByteArray := prog_12_method_40_code
def yX10_wear : MethodName := ⟨RX10, "wear", "(II)Z"⟩
abbrev cX10_isBorne : ByteArray := prog_12_method_41_code
def yX10_isBorne : MethodName := ⟨RX10, "isBorne", "()Z"⟩
abbrev cX10_pours : ByteArray := prog_12_method_42_code
def yX10_pours : MethodName := ⟨RX10, "pours", "()V"⟩
abbrev cX10_pour : ByteArray := prog_12_method_43_code
def yX10_pour : MethodName := ⟨RX10, "pour", "(I)I"⟩
abbrev cX10_mend : ByteArray := prog_12_method_44_code
def yX10_mend : MethodName := ⟨RX10, "mend", "(I)I"⟩
abbrev cX10_run : ByteArray := prog_12_method_45_code
def yX10_run : MethodName := ⟨RX10, "run", "(I)I"⟩
abbrev cX10_dry : ByteArray := prog_12_method_46_code
def yX10_dry : MethodName := ⟨RX10, "dry", "(I)I"⟩
abbrev cX10_order : ByteArray := prog_12_method_47_code
def yX10_order : MethodName := ⟨RX10, "order", "(III)I"⟩
abbrev cX10_cancel : ByteArray := prog_12_method_48_code
def yX10_cancel : MethodName := ⟨RX10, "cancel", "(I)Z"⟩
abbrev cX10_poursOf : ByteArray := prog_12_method_49_code
def yX10_poursOf : MethodName := ⟨RX10, "poursOf", "(I)I"⟩
abbrev cX10_lateOf : ByteArray := prog_12_method_50_code
def yX10_lateOf : MethodName := ⟨RX10, "lateOf", "(II)I"⟩
abbrev cX10_row : ByteArray := prog_12_method_51_code
def yX10_row : MethodName := ⟨RX10, "row", "()I"⟩
abbrev cX10_next_ : ByteArray := prog_12_method_52_code
def yX10_next_ : MethodName := ⟨RX10, "next", "(I)I"⟩
abbrev cX10_late : ByteArray := prog_12_method_53_code
def yX10_late : MethodName := ⟨RX10, "late", "(I)I"⟩
abbrev cX10_isCast : ByteArray := prog_12_method_54_code
def yX10_isCast : MethodName := ⟨RX10, "isCast", "(I)Z"⟩
abbrev cX10_cast : ByteArray := prog_12_method_55_code
def yX10_cast : MethodName := ⟨RX10, "cast", "(III)Z"⟩
abbrev cX10_copies : ByteArray := prog_12_method_56_code
def yX10_copies : MethodName := ⟨RX10, "copies", "(III)Z"⟩
abbrev cX10_far : ByteArray := prog_12_method_57_code
def yX10_far : MethodName := ⟨RX10, "far", "(II)I"⟩
abbrev cX10_quarrel : ByteArray := prog_12_method_58_code
def yX10_quarrel : MethodName := ⟨RX10, "quarrel", "(II)I"⟩
abbrev cX10_mother : ByteArray := prog_12_method_59_code
def yX10_mother : MethodName := ⟨RX10, "mother", "(I)I"⟩
abbrev cX10_steps : ByteArray := prog_12_method_60_code
def yX10_steps : MethodName := ⟨RX10, "steps", "(I)I"⟩
abbrev cX10_told : ByteArray := prog_12_method_61_code
def yX10_told : MethodName := ⟨RX10, "told", "(I)I"⟩
def RJ6 : String := "java/lang/Integer"
def TJ6 : u_T := fun k => match k with
  | _ => ("", "", "", false)
def tyJ6 : Nat → FieldType := fun k => match k with
  | _ => .int
abbrev wsJ60 : List Cond := u_ws RJ6 TJ6 0
theorem nmJ6 : ∀ a, a < 0 → ∀ b, b < 0 → a ≠ b → (TJ6 a).2.1 ≠ (TJ6 b).2.1 := by decide +kernel
theorem tyJ6_ok : ∀ k, k < 0 → parseFieldDescriptor (TJ6 k).2.2.1 = some (tyJ6 k) := by decide +kernel
abbrev cJ6_bitCount_0f7a4 : ByteArray := prog_13_method_49_code
def yJ6_bitCount_0f7a4 : MethodName := ⟨RJ6, "bitCount", "(I)I"⟩
def RJ9 : String := "java/lang/Math"
def TJ9 : u_T := fun k => match k with
  | _ => ("", "", "", false)
def tyJ9 : Nat → FieldType := fun k => match k with
  | _ => .int
abbrev wsJ90 : List Cond := u_ws RJ9 TJ9 0
theorem nmJ9 : ∀ a, a < 0 → ∀ b, b < 0 → a ≠ b → (TJ9 a).2.1 ≠ (TJ9 b).2.1 := by decide +kernel
theorem tyJ9_ok : ∀ k, k < 0 → parseFieldDescriptor (TJ9 k).2.2.1 = some (tyJ9 k) := by decide +kernel
abbrev cJ9_abs_0f7a4 : ByteArray := prog_14_method_59_code
def yJ9_abs_0f7a4 : MethodName := ⟨RJ9, "abs", "(I)I"⟩
abbrev cJ9_max_7cf53 : ByteArray := prog_14_method_65_code
def yJ9_max_7cf53 : MethodName := ⟨RJ9, "max", "(II)I"⟩
abbrev cJ9_min_7cf53 : ByteArray := prog_14_method_69_code
def yJ9_min_7cf53 : MethodName := ⟨RJ9, "min", "(II)I"⟩
def RJ0 : String := "java/lang/String"
def TJ0 : u_T := fun k => match k with
  | _ => ("", "", "", false)
def tyJ0 : Nat → FieldType := fun k => match k with
  | _ => .int
abbrev wsJ00 : List Cond := u_ws RJ0 TJ0 0
theorem nmJ0 : ∀ a, a < 0 → ∀ b, b < 0 → a ≠ b → (TJ0 a).2.1 ≠ (TJ0 b).2.1 := by decide +kernel
theorem tyJ0_ok : ∀ k, k < 0 → parseFieldDescriptor (TJ0 k).2.2.1 = some (tyJ0 k) := by decide +kernel
abbrev cJ0_length_8abf5 : ByteArray := prog_15_method_54_code
def yJ0_length_8abf5 : MethodName := ⟨RJ0, "length", "()I"⟩
abbrev cJ0_charAt_5068e : ByteArray := prog_15_method_56_code
def yJ0_charAt_5068e : MethodName := ⟨RJ0, "charAt", "(I)C"⟩
abbrev cJ0_coder_7d493 : ByteArray := prog_15_method_152_code
def yJ0_coder_7d493 : MethodName := ⟨RJ0, "coder", "()B"⟩
abbrev cJ0_isLatin1_aae02 : ByteArray := prog_15_method_154_code
def yJ0_isLatin1_aae02 : MethodName := ⟨RJ0, "isLatin1", "()Z"⟩
abbrev cJ0_checkIndex_df160 : ByteArray := prog_15_method_155_code
def yJ0_checkIndex_df160 : MethodName := ⟨RJ0, "checkIndex", "(II)V"⟩
def RJ1 : String := "java/lang/StringLatin1"
def TJ1 : u_T := fun k => match k with
  | _ => ("", "", "", false)
def tyJ1 : Nat → FieldType := fun k => match k with
  | _ => .int
abbrev wsJ10 : List Cond := u_ws RJ1 TJ1 0
theorem nmJ1 : ∀ a, a < 0 → ∀ b, b < 0 → a ≠ b → (TJ1 a).2.1 ≠ (TJ1 b).2.1 := by decide +kernel
theorem tyJ1_ok : ∀ k, k < 0 → parseFieldDescriptor (TJ1 k).2.2.1 = some (tyJ1 k) := by decide +kernel
abbrev cJ1_charAt_3b067 : ByteArray := prog_16_method_2_code
def yJ1_charAt_3b067 : MethodName := ⟨RJ1, "charAt", "([BI)C"⟩
def RJ2 : String := "java/lang/StringUTF16"
def TJ2 : u_T := fun k => match k with
  | _ => ("", "", "", false)
def tyJ2 : Nat → FieldType := fun k => match k with
  | _ => .int
abbrev wsJ20 : List Cond := u_ws RJ2 TJ2 0
theorem nmJ2 : ∀ a, a < 0 → ∀ b, b < 0 → a ≠ b → (TJ2 a).2.1 ≠ (TJ2 b).2.1 := by decide +kernel
theorem tyJ2_ok : ∀ k, k < 0 → parseFieldDescriptor (TJ2 k).2.2.1 = some (tyJ2 k) := by decide +kernel
abbrev cJ2_getChar_3b067 : ByteArray := prog_17_method_5_code
def yJ2_getChar_3b067 : MethodName := ⟨RJ2, "getChar", "([BI)C"⟩
abbrev cJ2_length_9d52b : ByteArray := prog_17_method_6_code
def yJ2_length_9d52b : MethodName := ⟨RJ2, "length", "([B)I"⟩
abbrev cJ2_charAt_3b067 : ByteArray := prog_17_method_83_code
def yJ2_charAt_3b067 : MethodName := ⟨RJ2, "charAt", "([BI)C"⟩
abbrev cJ2_checkIndex_2214a : ByteArray := prog_17_method_91_code
def yJ2_checkIndex_2214a : MethodName := ⟨RJ2, "checkIndex", "(I[B)V"⟩
def RJ10 : String := "java/lang/System"
def TJ10 : u_T := fun k => match k with
  | _ => ("", "", "", false)
def tyJ10 : Nat → FieldType := fun k => match k with
  | _ => .int
abbrev wsJ100 : List Cond := u_ws RJ10 TJ10 0
theorem nmJ10 : ∀ a, a < 0 → ∀ b, b < 0 → a ≠ b → (TJ10 a).2.1 ≠ (TJ10 b).2.1 := by decide +kernel
theorem tyJ10_ok : ∀ k, k < 0 → parseFieldDescriptor (TJ10 k).2.2.1 = some (tyJ10 k) := by decide +kernel
def RJ7 : String := "java/util/Arrays"
def TJ7 : u_T := fun k => match k with
  | _ => ("", "", "", false)
def tyJ7 : Nat → FieldType := fun k => match k with
  | _ => .int
abbrev wsJ70 : List Cond := u_ws RJ7 TJ7 0
theorem nmJ7 : ∀ a, a < 0 → ∀ b, b < 0 → a ≠ b → (TJ7 a).2.1 ≠ (TJ7 b).2.1 := by decide +kernel
theorem tyJ7_ok : ∀ k, k < 0 → parseFieldDescriptor (TJ7 k).2.2.1 = some (tyJ7 k) := by decide +kernel
abbrev cJ7_fill_53178 : ByteArray := prog_19_method_103_code
def yJ7_fill_53178 : MethodName := ⟨RJ7, "fill", "([II)V"⟩
def RJ3 : String := "jdk/internal/util/Preconditions"
def TJ3 : u_T := fun k => match k with
  | _ => ("", "", "", false)
def tyJ3 : Nat → FieldType := fun k => match k with
  | _ => .int
abbrev wsJ30 : List Cond := u_ws RJ3 TJ3 0
theorem nmJ3 : ∀ a, a < 0 → ∀ b, b < 0 → a ≠ b → (TJ3 a).2.1 ≠ (TJ3 b).2.1 := by decide +kernel
theorem tyJ3_ok : ∀ k, k < 0 → parseFieldDescriptor (TJ3 k).2.2.1 = some (tyJ3 k) := by decide +kernel
abbrev cJ3_checkIndex_8e157 : ByteArray := prog_20_method_11_code
def yJ3_checkIndex_8e157 : MethodName := ⟨RJ3, "checkIndex", "(IILjava/util/function/BiFunction;)I"⟩
def RL : String := "CastWorksLaw"
abbrev cL_law : ByteArray := code
def yL_law : MethodName := ⟨RL, "law", "([I)Z"⟩
end
section
theorem dX0_init_0 : decode cX0_init 0 = .ok (.aload_n 0, 1) := by decide +kernel
theorem dX0_init_1 : decode cX0_init 1 = .ok (.invokespecial 3, 3) := by decide +kernel
theorem dX0_init_4 : decode cX0_init 4 = .ok (.aload_n 0, 1) := by decide +kernel
theorem dX0_init_5 : decode cX0_init 5 = .ok (.sipush 1000, 3) := by decide +kernel
theorem dX0_init_8 : decode cX0_init 8 = .ok (.newarray .int, 2) := by decide +kernel
theorem dX0_init_10 : decode cX0_init 10 = .ok (.putfield 9, 3) := by decide +kernel
theorem dX0_init_13 : decode cX0_init 13 = .ok (.aload_n 0, 1) := by decide +kernel
theorem dX0_init_14 : decode cX0_init 14 = .ok (.bipush 64, 2) := by decide +kernel
theorem dX0_init_16 : decode cX0_init 16 = .ok (.newarray .int, 2) := by decide +kernel
theorem dX0_init_18 : decode cX0_init 18 = .ok (.putfield 13, 3) := by decide +kernel
theorem dX0_init_21 : decode cX0_init 21 = .ok (.return_, 1) := by decide +kernel
theorem dX0_canBeSide_0 : decode cX0_canBeSide 0 = .ok (.iload_n 0, 1) := by decide +kernel
theorem dX0_canBeSide_1 : decode cX0_canBeSide 1 = .ok (.iconst 1, 1) := by decide +kernel
theorem dX0_canBeSide_2 : decode cX0_canBeSide 2 = .ok (.if_icmp .lt 13, 3) := by decide +kernel
theorem dX0_canBeSide_5 : decode cX0_canBeSide 5 = .ok (.iload_n 0, 1) := by decide +kernel
theorem dX0_canBeSide_6 : decode cX0_canBeSide 6 = .ok (.bipush 8, 2) := by decide +kernel
theorem dX0_canBeSide_8 : decode cX0_canBeSide 8 = .ok (.if_icmp .gt 7, 3) := by decide +kernel
theorem dX0_canBeSide_11 : decode cX0_canBeSide 11 = .ok (.iconst 1, 1) := by decide +kernel
theorem dX0_canBeSide_12 : decode cX0_canBeSide 12 = .ok (.goto 4, 3) := by decide +kernel
theorem dX0_canBeSide_15 : decode cX0_canBeSide 15 = .ok (.iconst 0, 1) := by decide +kernel
theorem dX0_canBeSide_16 : decode cX0_canBeSide 16 = .ok (.ireturn, 1) := by decide +kernel
theorem dX0_indexOf_0 : decode cX0_indexOf 0 = .ok (.iload_n 2, 1) := by decide +kernel
theorem dX0_indexOf_1 : decode cX0_indexOf 1 = .ok (.iconst 1, 1) := by decide +kernel
theorem dX0_indexOf_2 : decode cX0_indexOf 2 = .ok (.iadd, 1) := by decide +kernel
theorem dX0_indexOf_3 : decode cX0_indexOf 3 = .ok (.bipush 100, 2) := by decide +kernel
theorem dX0_indexOf_5 : decode cX0_indexOf 5 = .ok (.imul, 1) := by decide +kernel
theorem dX0_indexOf_6 : decode cX0_indexOf 6 = .ok (.iload_n 1, 1) := by decide +kernel
theorem dX0_indexOf_7 : decode cX0_indexOf 7 = .ok (.iconst 1, 1) := by decide +kernel
theorem dX0_indexOf_8 : decode cX0_indexOf 8 = .ok (.iadd, 1) := by decide +kernel
theorem dX0_indexOf_9 : decode cX0_indexOf 9 = .ok (.bipush 10, 2) := by decide +kernel
theorem dX0_indexOf_11 : decode cX0_indexOf 11 = .ok (.imul, 1) := by decide +kernel
theorem dX0_indexOf_12 : decode cX0_indexOf 12 = .ok (.iadd, 1) := by decide +kernel
theorem dX0_indexOf_13 : decode cX0_indexOf 13 = .ok (.iload_n 0, 1) := by decide +kernel
theorem dX0_indexOf_14 : decode cX0_indexOf 14 = .ok (.iadd, 1) := by decide +kernel
theorem dX0_indexOf_15 : decode cX0_indexOf 15 = .ok (.iconst 1, 1) := by decide +kernel
theorem dX0_indexOf_16 : decode cX0_indexOf 16 = .ok (.iadd, 1) := by decide +kernel
theorem dX0_indexOf_17 : decode cX0_indexOf 17 = .ok (.ireturn, 1) := by decide +kernel
theorem dX0_begin_0 : decode cX0_begin 0 = .ok (.aload_n 0, 1) := by decide +kernel
theorem dX0_begin_1 : decode cX0_begin 1 = .ok (.iload_n 1, 1) := by decide +kernel
theorem dX0_begin_2 : decode cX0_begin 2 = .ok (.putfield 16, 3) := by decide +kernel
theorem dX0_begin_5 : decode cX0_begin 5 = .ok (.aload_n 0, 1) := by decide +kernel
theorem dX0_begin_6 : decode cX0_begin 6 = .ok (.iload_n 2, 1) := by decide +kernel
theorem dX0_begin_7 : decode cX0_begin 7 = .ok (.putfield 20, 3) := by decide +kernel
theorem dX0_begin_10 : decode cX0_begin 10 = .ok (.aload_n 0, 1) := by decide +kernel
theorem dX0_begin_11 : decode cX0_begin 11 = .ok (.iload_n 3, 1) := by decide +kernel
theorem dX0_begin_12 : decode cX0_begin 12 = .ok (.putfield 23, 3) := by decide +kernel
theorem dX0_begin_15 : decode cX0_begin 15 = .ok (.aload_n 0, 1) := by decide +kernel
theorem dX0_begin_16 : decode cX0_begin 16 = .ok (.getfield 9, 3) := by decide +kernel
theorem dX0_begin_19 : decode cX0_begin 19 = .ok (.iconst 0, 1) := by decide +kernel
theorem dX0_begin_20 : decode cX0_begin 20 = .ok (.invokestatic 26, 3) := by decide +kernel
theorem dX0_begin_23 : decode cX0_begin 23 = .ok (.return_, 1) := by decide +kernel
theorem dX0_copyFrom_0 : decode cX0_copyFrom 0 = .ok (.aload_n 0, 1) := by decide +kernel
theorem dX0_copyFrom_1 : decode cX0_copyFrom 1 = .ok (.aload_n 1, 1) := by decide +kernel
theorem dX0_copyFrom_2 : decode cX0_copyFrom 2 = .ok (.getfield 16, 3) := by decide +kernel
theorem dX0_copyFrom_5 : decode cX0_copyFrom 5 = .ok (.putfield 16, 3) := by decide +kernel
theorem dX0_copyFrom_8 : decode cX0_copyFrom 8 = .ok (.aload_n 0, 1) := by decide +kernel
theorem dX0_copyFrom_9 : decode cX0_copyFrom 9 = .ok (.aload_n 1, 1) := by decide +kernel
theorem dX0_copyFrom_10 : decode cX0_copyFrom 10 = .ok (.getfield 20, 3) := by decide +kernel
theorem dX0_copyFrom_13 : decode cX0_copyFrom 13 = .ok (.putfield 20, 3) := by decide +kernel
theorem dX0_copyFrom_16 : decode cX0_copyFrom 16 = .ok (.aload_n 0, 1) := by decide +kernel
theorem dX0_copyFrom_17 : decode cX0_copyFrom 17 = .ok (.aload_n 1, 1) := by decide +kernel
theorem dX0_copyFrom_18 : decode cX0_copyFrom 18 = .ok (.getfield 23, 3) := by decide +kernel
theorem dX0_copyFrom_21 : decode cX0_copyFrom 21 = .ok (.putfield 23, 3) := by decide +kernel
theorem dX0_copyFrom_24 : decode cX0_copyFrom 24 = .ok (.aload_n 1, 1) := by decide +kernel
theorem dX0_copyFrom_25 : decode cX0_copyFrom 25 = .ok (.getfield 9, 3) := by decide +kernel
theorem dX0_copyFrom_28 : decode cX0_copyFrom 28 = .ok (.iconst 0, 1) := by decide +kernel
theorem dX0_copyFrom_29 : decode cX0_copyFrom 29 = .ok (.aload_n 0, 1) := by decide +kernel
theorem dX0_copyFrom_30 : decode cX0_copyFrom 30 = .ok (.getfield 9, 3) := by decide +kernel
theorem dX0_copyFrom_33 : decode cX0_copyFrom 33 = .ok (.iconst 0, 1) := by decide +kernel
theorem dX0_copyFrom_34 : decode cX0_copyFrom 34 = .ok (.sipush 1000, 3) := by decide +kernel
theorem dX0_copyFrom_37 : decode cX0_copyFrom 37 = .ok (.invokestatic 32, 3) := by decide +kernel
theorem dX0_copyFrom_40 : decode cX0_copyFrom 40 = .ok (.return_, 1) := by decide +kernel
theorem dX0_isThere_0 : decode cX0_isThere 0 = .ok (.aload_n 0, 1) := by decide +kernel
theorem dX0_isThere_1 : decode cX0_isThere 1 = .ok (.getfield 16, 3) := by decide +kernel
theorem dX0_isThere_4 : decode cX0_isThere 4 = .ok (.ifCond .le 7, 3) := by decide +kernel
theorem dX0_isThere_7 : decode cX0_isThere 7 = .ok (.iconst 1, 1) := by decide +kernel
theorem dX0_isThere_8 : decode cX0_isThere 8 = .ok (.goto 4, 3) := by decide +kernel
theorem dX0_isThere_11 : decode cX0_isThere 11 = .ok (.iconst 0, 1) := by decide +kernel
theorem dX0_isThere_12 : decode cX0_isThere 12 = .ok (.ireturn, 1) := by decide +kernel
theorem dX0_areWithin_0 : decode cX0_areWithin 0 = .ok (.aload_n 0, 1) := by decide +kernel
theorem dX0_areWithin_1 : decode cX0_areWithin 1 = .ok (.getfield 16, 3) := by decide +kernel
theorem dX0_areWithin_4 : decode cX0_areWithin 4 = .ok (.ifCond .le 61, 3) := by decide +kernel
theorem dX0_areWithin_7 : decode cX0_areWithin 7 = .ok (.iload_n 1, 1) := by decide +kernel
theorem dX0_areWithin_8 : decode cX0_areWithin 8 = .ok (.iload 4, 2) := by decide +kernel
theorem dX0_areWithin_10 : decode cX0_areWithin 10 = .ok (.ineg, 1) := by decide +kernel
theorem dX0_areWithin_11 : decode cX0_areWithin 11 = .ok (.if_icmp .lt 54, 3) := by decide +kernel
theorem dX0_areWithin_14 : decode cX0_areWithin 14 = .ok (.iload_n 1, 1) := by decide +kernel
theorem dX0_areWithin_15 : decode cX0_areWithin 15 = .ok (.aload_n 0, 1) := by decide +kernel
theorem dX0_areWithin_16 : decode cX0_areWithin 16 = .ok (.getfield 16, 3) := by decide +kernel
theorem dX0_areWithin_19 : decode cX0_areWithin 19 = .ok (.iload 4, 2) := by decide +kernel
theorem dX0_areWithin_21 : decode cX0_areWithin 21 = .ok (.iadd, 1) := by decide +kernel
theorem dX0_areWithin_22 : decode cX0_areWithin 22 = .ok (.if_icmp .ge 43, 3) := by decide +kernel
theorem dX0_areWithin_25 : decode cX0_areWithin 25 = .ok (.iload_n 2, 1) := by decide +kernel
theorem dX0_areWithin_26 : decode cX0_areWithin 26 = .ok (.iload 4, 2) := by decide +kernel
theorem dX0_areWithin_28 : decode cX0_areWithin 28 = .ok (.ineg, 1) := by decide +kernel
theorem dX0_areWithin_29 : decode cX0_areWithin 29 = .ok (.if_icmp .lt 36, 3) := by decide +kernel
theorem dX0_areWithin_32 : decode cX0_areWithin 32 = .ok (.iload_n 2, 1) := by decide +kernel
theorem dX0_areWithin_33 : decode cX0_areWithin 33 = .ok (.aload_n 0, 1) := by decide +kernel
theorem dX0_areWithin_34 : decode cX0_areWithin 34 = .ok (.getfield 20, 3) := by decide +kernel
theorem dX0_areWithin_37 : decode cX0_areWithin 37 = .ok (.iload 4, 2) := by decide +kernel
theorem dX0_areWithin_39 : decode cX0_areWithin 39 = .ok (.iadd, 1) := by decide +kernel
theorem dX0_areWithin_40 : decode cX0_areWithin 40 = .ok (.if_icmp .ge 25, 3) := by decide +kernel
theorem dX0_areWithin_43 : decode cX0_areWithin 43 = .ok (.iload_n 3, 1) := by decide +kernel
theorem dX0_areWithin_44 : decode cX0_areWithin 44 = .ok (.iload 4, 2) := by decide +kernel
theorem dX0_areWithin_46 : decode cX0_areWithin 46 = .ok (.ineg, 1) := by decide +kernel
theorem dX0_areWithin_47 : decode cX0_areWithin 47 = .ok (.if_icmp .lt 18, 3) := by decide +kernel
theorem dX0_areWithin_50 : decode cX0_areWithin 50 = .ok (.iload_n 3, 1) := by decide +kernel
theorem dX0_areWithin_51 : decode cX0_areWithin 51 = .ok (.aload_n 0, 1) := by decide +kernel
theorem dX0_areWithin_52 : decode cX0_areWithin 52 = .ok (.getfield 23, 3) := by decide +kernel
theorem dX0_areWithin_55 : decode cX0_areWithin 55 = .ok (.iload 4, 2) := by decide +kernel
theorem dX0_areWithin_57 : decode cX0_areWithin 57 = .ok (.iadd, 1) := by decide +kernel
theorem dX0_areWithin_58 : decode cX0_areWithin 58 = .ok (.if_icmp .ge 7, 3) := by decide +kernel
theorem dX0_areWithin_61 : decode cX0_areWithin 61 = .ok (.iconst 1, 1) := by decide +kernel
theorem dX0_areWithin_62 : decode cX0_areWithin 62 = .ok (.goto 4, 3) := by decide +kernel
theorem dX0_areWithin_65 : decode cX0_areWithin 65 = .ok (.iconst 0, 1) := by decide +kernel
theorem dX0_areWithin_66 : decode cX0_areWithin 66 = .ok (.ireturn, 1) := by decide +kernel
theorem dX0_isSolid_0 : decode cX0_isSolid 0 = .ok (.iload_n 1, 1) := by decide +kernel
theorem dX0_isSolid_1 : decode cX0_isSolid 1 = .ok (.ifCond .lt 24, 3) := by decide +kernel
theorem dX0_isSolid_4 : decode cX0_isSolid 4 = .ok (.iload_n 1, 1) := by decide +kernel
theorem dX0_isSolid_5 : decode cX0_isSolid 5 = .ok (.sipush 1000, 3) := by decide +kernel
theorem dX0_isSolid_8 : decode cX0_isSolid 8 = .ok (.if_icmp .ge 17, 3) := by decide +kernel
theorem dX0_isSolid_11 : decode cX0_isSolid 11 = .ok (.aload_n 0, 1) := by decide +kernel
theorem dX0_isSolid_12 : decode cX0_isSolid 12 = .ok (.getfield 9, 3) := by decide +kernel
theorem dX0_isSolid_15 : decode cX0_isSolid 15 = .ok (.iload_n 1, 1) := by decide +kernel
theorem dX0_isSolid_16 : decode cX0_isSolid 16 = .ok (.iaload, 1) := by decide +kernel
theorem dX0_isSolid_17 : decode cX0_isSolid 17 = .ok (.iconst 1, 1) := by decide +kernel
theorem dX0_isSolid_18 : decode cX0_isSolid 18 = .ok (.if_icmp .ne 7, 3) := by decide +kernel
theorem dX0_isSolid_21 : decode cX0_isSolid 21 = .ok (.iconst 1, 1) := by decide +kernel
theorem dX0_isSolid_22 : decode cX0_isSolid 22 = .ok (.goto 4, 3) := by decide +kernel
theorem dX0_isSolid_25 : decode cX0_isSolid 25 = .ok (.iconst 0, 1) := by decide +kernel
theorem dX0_isSolid_26 : decode cX0_isSolid 26 = .ok (.ireturn, 1) := by decide +kernel
theorem dX0_countSolid_0 : decode cX0_countSolid 0 = .ok (.iconst 0, 1) := by decide +kernel
theorem dX0_countSolid_1 : decode cX0_countSolid 1 = .ok (.istore_n 1, 1) := by decide +kernel
theorem dX0_countSolid_2 : decode cX0_countSolid 2 = .ok (.iconst 0, 1) := by decide +kernel
theorem dX0_countSolid_3 : decode cX0_countSolid 3 = .ok (.istore_n 2, 1) := by decide +kernel
theorem dX0_countSolid_4 : decode cX0_countSolid 4 = .ok (.iload_n 2, 1) := by decide +kernel
theorem dX0_countSolid_5 : decode cX0_countSolid 5 = .ok (.sipush 1000, 3) := by decide +kernel
theorem dX0_countSolid_8 : decode cX0_countSolid 8 = .ok (.if_icmp .ge 18, 3) := by decide +kernel
theorem dX0_countSolid_11 : decode cX0_countSolid 11 = .ok (.iload_n 1, 1) := by decide +kernel
theorem dX0_countSolid_12 : decode cX0_countSolid 12 = .ok (.aload_n 0, 1) := by decide +kernel
theorem dX0_countSolid_13 : decode cX0_countSolid 13 = .ok (.getfield 9, 3) := by decide +kernel
theorem dX0_countSolid_16 : decode cX0_countSolid 16 = .ok (.iload_n 2, 1) := by decide +kernel
theorem dX0_countSolid_17 : decode cX0_countSolid 17 = .ok (.iaload, 1) := by decide +kernel
theorem dX0_countSolid_18 : decode cX0_countSolid 18 = .ok (.iadd, 1) := by decide +kernel
theorem dX0_countSolid_19 : decode cX0_countSolid 19 = .ok (.istore_n 1, 1) := by decide +kernel
theorem dX0_countSolid_20 : decode cX0_countSolid 20 = .ok (.iinc 2 1, 3) := by decide +kernel
theorem dX0_countSolid_23 : decode cX0_countSolid 23 = .ok (.goto (-19), 3) := by decide +kernel
theorem dX0_countSolid_26 : decode cX0_countSolid 26 = .ok (.iload_n 1, 1) := by decide +kernel
theorem dX0_countSolid_27 : decode cX0_countSolid 27 = .ok (.ireturn, 1) := by decide +kernel
theorem dX0_fillBlock_0 : decode cX0_fillBlock 0 = .ok (.aload_n 1, 1) := by decide +kernel
theorem dX0_fillBlock_1 : decode cX0_fillBlock 1 = .ok (.arraylength, 1) := by decide +kernel
theorem dX0_fillBlock_2 : decode cX0_fillBlock 2 = .ok (.bipush 6, 2) := by decide +kernel
theorem dX0_fillBlock_4 : decode cX0_fillBlock 4 = .ok (.if_icmp .ge 4, 3) := by decide +kernel
theorem dX0_fillBlock_7 : decode cX0_fillBlock 7 = .ok (.return_, 1) := by decide +kernel
theorem dX0_fillBlock_8 : decode cX0_fillBlock 8 = .ok (.aload_n 0, 1) := by decide +kernel
theorem dX0_fillBlock_9 : decode cX0_fillBlock 9 = .ok (.getfield 16, 3) := by decide +kernel
theorem dX0_fillBlock_12 : decode cX0_fillBlock 12 = .ok (.aload_n 1, 1) := by decide +kernel
theorem dX0_fillBlock_13 : decode cX0_fillBlock 13 = .ok (.iconst 0, 1) := by decide +kernel
theorem dX0_fillBlock_14 : decode cX0_fillBlock 14 = .ok (.iaload, 1) := by decide +kernel
theorem dX0_fillBlock_15 : decode cX0_fillBlock 15 = .ok (.aload_n 1, 1) := by decide +kernel
theorem dX0_fillBlock_16 : decode cX0_fillBlock 16 = .ok (.iconst 3, 1) := by decide +kernel
theorem dX0_fillBlock_17 : decode cX0_fillBlock 17 = .ok (.iaload, 1) := by decide +kernel
theorem dX0_fillBlock_18 : decode cX0_fillBlock 18 = .ok (.iadd, 1) := by decide +kernel
theorem dX0_fillBlock_19 : decode cX0_fillBlock 19 = .ok (.invokestatic 38, 3) := by decide +kernel
theorem dX0_fillBlock_22 : decode cX0_fillBlock 22 = .ok (.istore_n 3, 1) := by decide +kernel
theorem dX0_fillBlock_23 : decode cX0_fillBlock 23 = .ok (.aload_n 0, 1) := by decide +kernel
theorem dX0_fillBlock_24 : decode cX0_fillBlock 24 = .ok (.getfield 20, 3) := by decide +kernel
theorem dX0_fillBlock_27 : decode cX0_fillBlock 27 = .ok (.aload_n 1, 1) := by decide +kernel
theorem dX0_fillBlock_28 : decode cX0_fillBlock 28 = .ok (.iconst 1, 1) := by decide +kernel
theorem dX0_fillBlock_29 : decode cX0_fillBlock 29 = .ok (.iaload, 1) := by decide +kernel
theorem dX0_fillBlock_30 : decode cX0_fillBlock 30 = .ok (.aload_n 1, 1) := by decide +kernel
theorem dX0_fillBlock_31 : decode cX0_fillBlock 31 = .ok (.iconst 4, 1) := by decide +kernel
theorem dX0_fillBlock_32 : decode cX0_fillBlock 32 = .ok (.iaload, 1) := by decide +kernel
theorem dX0_fillBlock_33 : decode cX0_fillBlock 33 = .ok (.iadd, 1) := by decide +kernel
theorem dX0_fillBlock_34 : decode cX0_fillBlock 34 = .ok (.invokestatic 38, 3) := by decide +kernel
theorem dX0_fillBlock_37 : decode cX0_fillBlock 37 = .ok (.istore 4, 2) := by decide +kernel
theorem dX0_fillBlock_39 : decode cX0_fillBlock 39 = .ok (.aload_n 0, 1) := by decide +kernel
theorem dX0_fillBlock_40 : decode cX0_fillBlock 40 = .ok (.getfield 23, 3) := by decide +kernel
theorem dX0_fillBlock_43 : decode cX0_fillBlock 43 = .ok (.aload_n 1, 1) := by decide +kernel
theorem dX0_fillBlock_44 : decode cX0_fillBlock 44 = .ok (.iconst 2, 1) := by decide +kernel
theorem dX0_fillBlock_45 : decode cX0_fillBlock 45 = .ok (.iaload, 1) := by decide +kernel
theorem dX0_fillBlock_46 : decode cX0_fillBlock 46 = .ok (.aload_n 1, 1) := by decide +kernel
theorem dX0_fillBlock_47 : decode cX0_fillBlock 47 = .ok (.iconst 5, 1) := by decide +kernel
theorem dX0_fillBlock_48 : decode cX0_fillBlock 48 = .ok (.iaload, 1) := by decide +kernel
theorem dX0_fillBlock_49 : decode cX0_fillBlock 49 = .ok (.iadd, 1) := by decide +kernel
theorem dX0_fillBlock_50 : decode cX0_fillBlock 50 = .ok (.invokestatic 38, 3) := by decide +kernel
theorem dX0_fillBlock_53 : decode cX0_fillBlock 53 = .ok (.istore 5, 2) := by decide +kernel
theorem dX0_fillBlock_55 : decode cX0_fillBlock 55 = .ok (.aload_n 1, 1) := by decide +kernel
theorem dX0_fillBlock_56 : decode cX0_fillBlock 56 = .ok (.iconst 2, 1) := by decide +kernel
theorem dX0_fillBlock_57 : decode cX0_fillBlock 57 = .ok (.iaload, 1) := by decide +kernel
theorem dX0_fillBlock_58 : decode cX0_fillBlock 58 = .ok (.istore 6, 2) := by decide +kernel
theorem dX0_fillBlock_60 : decode cX0_fillBlock 60 = .ok (.iload 6, 2) := by decide +kernel
theorem dX0_fillBlock_62 : decode cX0_fillBlock 62 = .ok (.iload 5, 2) := by decide +kernel
theorem dX0_fillBlock_64 : decode cX0_fillBlock 64 = .ok (.if_icmp .ge 55, 3) := by decide +kernel
theorem dX0_fillBlock_67 : decode cX0_fillBlock 67 = .ok (.aload_n 1, 1) := by decide +kernel
theorem dX0_fillBlock_68 : decode cX0_fillBlock 68 = .ok (.iconst 1, 1) := by decide +kernel
theorem dX0_fillBlock_69 : decode cX0_fillBlock 69 = .ok (.iaload, 1) := by decide +kernel
theorem dX0_fillBlock_70 : decode cX0_fillBlock 70 = .ok (.istore 7, 2) := by decide +kernel
theorem dX0_fillBlock_72 : decode cX0_fillBlock 72 = .ok (.iload 7, 2) := by decide +kernel
theorem dX0_fillBlock_74 : decode cX0_fillBlock 74 = .ok (.iload 4, 2) := by decide +kernel
theorem dX0_fillBlock_76 : decode cX0_fillBlock 76 = .ok (.if_icmp .ge 37, 3) := by decide +kernel
theorem dX0_fillBlock_79 : decode cX0_fillBlock 79 = .ok (.aload_n 1, 1) := by decide +kernel
theorem dX0_fillBlock_80 : decode cX0_fillBlock 80 = .ok (.iconst 0, 1) := by decide +kernel
theorem dX0_fillBlock_81 : decode cX0_fillBlock 81 = .ok (.iaload, 1) := by decide +kernel
theorem dX0_fillBlock_82 : decode cX0_fillBlock 82 = .ok (.istore 8, 2) := by decide +kernel
theorem dX0_fillBlock_84 : decode cX0_fillBlock 84 = .ok (.iload 8, 2) := by decide +kernel
theorem dX0_fillBlock_86 : decode cX0_fillBlock 86 = .ok (.iload_n 3, 1) := by decide +kernel
theorem dX0_fillBlock_87 : decode cX0_fillBlock 87 = .ok (.if_icmp .ge 20, 3) := by decide +kernel
theorem dX0_fillBlock_90 : decode cX0_fillBlock 90 = .ok (.aload_n 0, 1) := by decide +kernel
theorem dX0_fillBlock_91 : decode cX0_fillBlock 91 = .ok (.iload 8, 2) := by decide +kernel
theorem dX0_fillBlock_93 : decode cX0_fillBlock 93 = .ok (.iload 7, 2) := by decide +kernel
theorem dX0_fillBlock_95 : decode cX0_fillBlock 95 = .ok (.iload 6, 2) := by decide +kernel
theorem dX0_fillBlock_97 : decode cX0_fillBlock 97 = .ok (.iload_n 2, 1) := by decide +kernel
theorem dX0_fillBlock_98 : decode cX0_fillBlock 98 = .ok (.invokevirtual 44, 3) := by decide +kernel
theorem dX0_fillBlock_101 : decode cX0_fillBlock 101 = .ok (.iinc 8 1, 3) := by decide +kernel
theorem dX0_fillBlock_104 : decode cX0_fillBlock 104 = .ok (.goto (-20), 3) := by decide +kernel
theorem dX0_fillBlock_107 : decode cX0_fillBlock 107 = .ok (.iinc 7 1, 3) := by decide +kernel
theorem dX0_fillBlock_110 : decode cX0_fillBlock 110 = .ok (.goto (-38), 3) := by decide +kernel
theorem dX0_fillBlock_113 : decode cX0_fillBlock 113 = .ok (.iinc 6 1, 3) := by decide +kernel
theorem dX0_fillBlock_116 : decode cX0_fillBlock 116 = .ok (.goto (-56), 3) := by decide +kernel
theorem dX0_fillBlock_119 : decode cX0_fillBlock 119 = .ok (.return_, 1) := by decide +kernel
theorem dX0_mirrorAcross_0 : decode cX0_mirrorAcross 0 = .ok (.iconst 0, 1) := by decide +kernel
theorem dX0_mirrorAcross_1 : decode cX0_mirrorAcross 1 = .ok (.istore_n 2, 1) := by decide +kernel
theorem dX0_mirrorAcross_2 : decode cX0_mirrorAcross 2 = .ok (.iload_n 2, 1) := by decide +kernel
theorem dX0_mirrorAcross_3 : decode cX0_mirrorAcross 3 = .ok (.aload_n 0, 1) := by decide +kernel
theorem dX0_mirrorAcross_4 : decode cX0_mirrorAcross 4 = .ok (.getfield 23, 3) := by decide +kernel
theorem dX0_mirrorAcross_7 : decode cX0_mirrorAcross 7 = .ok (.if_icmp .ge 114, 3) := by decide +kernel
theorem dX0_mirrorAcross_10 : decode cX0_mirrorAcross 10 = .ok (.iconst 0, 1) := by decide +kernel
theorem dX0_mirrorAcross_11 : decode cX0_mirrorAcross 11 = .ok (.istore_n 3, 1) := by decide +kernel
theorem dX0_mirrorAcross_12 : decode cX0_mirrorAcross 12 = .ok (.iload_n 3, 1) := by decide +kernel
theorem dX0_mirrorAcross_13 : decode cX0_mirrorAcross 13 = .ok (.aload_n 0, 1) := by decide +kernel
theorem dX0_mirrorAcross_14 : decode cX0_mirrorAcross 14 = .ok (.getfield 20, 3) := by decide +kernel
theorem dX0_mirrorAcross_17 : decode cX0_mirrorAcross 17 = .ok (.if_icmp .ge 98, 3) := by decide +kernel
theorem dX0_mirrorAcross_20 : decode cX0_mirrorAcross 20 = .ok (.iconst 0, 1) := by decide +kernel
theorem dX0_mirrorAcross_21 : decode cX0_mirrorAcross 21 = .ok (.istore 4, 2) := by decide +kernel
theorem dX0_mirrorAcross_23 : decode cX0_mirrorAcross 23 = .ok (.iload 4, 2) := by decide +kernel
theorem dX0_mirrorAcross_25 : decode cX0_mirrorAcross 25 = .ok (.aload_n 0, 1) := by decide +kernel
theorem dX0_mirrorAcross_26 : decode cX0_mirrorAcross 26 = .ok (.getfield 16, 3) := by decide +kernel
theorem dX0_mirrorAcross_29 : decode cX0_mirrorAcross 29 = .ok (.if_icmp .ge 80, 3) := by decide +kernel
theorem dX0_mirrorAcross_32 : decode cX0_mirrorAcross 32 = .ok (.aload_n 0, 1) := by decide +kernel
theorem dX0_mirrorAcross_33 : decode cX0_mirrorAcross 33 = .ok (.iload 4, 2) := by decide +kernel
theorem dX0_mirrorAcross_35 : decode cX0_mirrorAcross 35 = .ok (.iload_n 3, 1) := by decide +kernel
theorem dX0_mirrorAcross_36 : decode cX0_mirrorAcross 36 = .ok (.iload_n 2, 1) := by decide +kernel
theorem dX0_mirrorAcross_37 : decode cX0_mirrorAcross 37 = .ok (.invokestatic 48, 3) := by decide +kernel
theorem dX0_mirrorAcross_40 : decode cX0_mirrorAcross 40 = .ok (.invokevirtual 52, 3) := by decide +kernel
theorem dX0_mirrorAcross_43 : decode cX0_mirrorAcross 43 = .ok (.ifCond .eq 60, 3) := by decide +kernel
theorem dX0_mirrorAcross_46 : decode cX0_mirrorAcross 46 = .ok (.aload_n 0, 1) := by decide +kernel
theorem dX0_mirrorAcross_47 : decode cX0_mirrorAcross 47 = .ok (.iload_n 1, 1) := by decide +kernel
theorem dX0_mirrorAcross_48 : decode cX0_mirrorAcross 48 = .ok (.ifCond .ne 15, 3) := by decide +kernel
theorem dX0_mirrorAcross_51 : decode cX0_mirrorAcross 51 = .ok (.aload_n 0, 1) := by decide +kernel
theorem dX0_mirrorAcross_52 : decode cX0_mirrorAcross 52 = .ok (.getfield 16, 3) := by decide +kernel
theorem dX0_mirrorAcross_55 : decode cX0_mirrorAcross 55 = .ok (.iconst 1, 1) := by decide +kernel
theorem dX0_mirrorAcross_56 : decode cX0_mirrorAcross 56 = .ok (.isub, 1) := by decide +kernel
theorem dX0_mirrorAcross_57 : decode cX0_mirrorAcross 57 = .ok (.iload 4, 2) := by decide +kernel
theorem dX0_mirrorAcross_59 : decode cX0_mirrorAcross 59 = .ok (.isub, 1) := by decide +kernel
theorem dX0_mirrorAcross_60 : decode cX0_mirrorAcross 60 = .ok (.goto 5, 3) := by decide +kernel
theorem dX0_mirrorAcross_63 : decode cX0_mirrorAcross 63 = .ok (.iload 4, 2) := by decide +kernel
theorem dX0_mirrorAcross_65 : decode cX0_mirrorAcross 65 = .ok (.iload_n 1, 1) := by decide +kernel
theorem dX0_mirrorAcross_66 : decode cX0_mirrorAcross 66 = .ok (.iconst 1, 1) := by decide +kernel
theorem dX0_mirrorAcross_67 : decode cX0_mirrorAcross 67 = .ok (.if_icmp .ne 14, 3) := by decide +kernel
theorem dX0_mirrorAcross_70 : decode cX0_mirrorAcross 70 = .ok (.aload_n 0, 1) := by decide +kernel
theorem dX0_mirrorAcross_71 : decode cX0_mirrorAcross 71 = .ok (.getfield 20, 3) := by decide +kernel
theorem dX0_mirrorAcross_74 : decode cX0_mirrorAcross 74 = .ok (.iconst 1, 1) := by decide +kernel
theorem dX0_mirrorAcross_75 : decode cX0_mirrorAcross 75 = .ok (.isub, 1) := by decide +kernel
theorem dX0_mirrorAcross_76 : decode cX0_mirrorAcross 76 = .ok (.iload_n 3, 1) := by decide +kernel
theorem dX0_mirrorAcross_77 : decode cX0_mirrorAcross 77 = .ok (.isub, 1) := by decide +kernel
theorem dX0_mirrorAcross_78 : decode cX0_mirrorAcross 78 = .ok (.goto 4, 3) := by decide +kernel
theorem dX0_mirrorAcross_81 : decode cX0_mirrorAcross 81 = .ok (.iload_n 3, 1) := by decide +kernel
theorem dX0_mirrorAcross_82 : decode cX0_mirrorAcross 82 = .ok (.iload_n 1, 1) := by decide +kernel
theorem dX0_mirrorAcross_83 : decode cX0_mirrorAcross 83 = .ok (.iconst 2, 1) := by decide +kernel
theorem dX0_mirrorAcross_84 : decode cX0_mirrorAcross 84 = .ok (.if_icmp .ne 14, 3) := by decide +kernel
theorem dX0_mirrorAcross_87 : decode cX0_mirrorAcross 87 = .ok (.aload_n 0, 1) := by decide +kernel
theorem dX0_mirrorAcross_88 : decode cX0_mirrorAcross 88 = .ok (.getfield 23, 3) := by decide +kernel
theorem dX0_mirrorAcross_91 : decode cX0_mirrorAcross 91 = .ok (.iconst 1, 1) := by decide +kernel
theorem dX0_mirrorAcross_92 : decode cX0_mirrorAcross 92 = .ok (.isub, 1) := by decide +kernel
theorem dX0_mirrorAcross_93 : decode cX0_mirrorAcross 93 = .ok (.iload_n 2, 1) := by decide +kernel
theorem dX0_mirrorAcross_94 : decode cX0_mirrorAcross 94 = .ok (.isub, 1) := by decide +kernel
theorem dX0_mirrorAcross_95 : decode cX0_mirrorAcross 95 = .ok (.goto 4, 3) := by decide +kernel
theorem dX0_mirrorAcross_98 : decode cX0_mirrorAcross 98 = .ok (.iload_n 2, 1) := by decide +kernel
theorem dX0_mirrorAcross_99 : decode cX0_mirrorAcross 99 = .ok (.iconst 1, 1) := by decide +kernel
theorem dX0_mirrorAcross_100 : decode cX0_mirrorAcross 100 = .ok (.invokevirtual 44, 3) := by decide +kernel
theorem dX0_mirrorAcross_103 : decode cX0_mirrorAcross 103 = .ok (.iinc 4 1, 3) := by decide +kernel
theorem dX0_mirrorAcross_106 : decode cX0_mirrorAcross 106 = .ok (.goto (-83), 3) := by decide +kernel
theorem dX0_mirrorAcross_109 : decode cX0_mirrorAcross 109 = .ok (.iinc 3 1, 3) := by decide +kernel
theorem dX0_mirrorAcross_112 : decode cX0_mirrorAcross 112 = .ok (.goto (-100), 3) := by decide +kernel
theorem dX0_mirrorAcross_115 : decode cX0_mirrorAcross 115 = .ok (.iinc 2 1, 3) := by decide +kernel
theorem dX0_mirrorAcross_118 : decode cX0_mirrorAcross 118 = .ok (.goto (-116), 3) := by decide +kernel
theorem dX0_mirrorAcross_121 : decode cX0_mirrorAcross 121 = .ok (.return_, 1) := by decide +kernel
theorem dX0_canTurn_0 : decode cX0_canTurn 0 = .ok (.aload_n 0, 1) := by decide +kernel
theorem dX0_canTurn_1 : decode cX0_canTurn 1 = .ok (.getfield 16, 3) := by decide +kernel
theorem dX0_canTurn_4 : decode cX0_canTurn 4 = .ok (.aload_n 0, 1) := by decide +kernel
theorem dX0_canTurn_5 : decode cX0_canTurn 5 = .ok (.getfield 20, 3) := by decide +kernel
theorem dX0_canTurn_8 : decode cX0_canTurn 8 = .ok (.if_icmp .ne 7, 3) := by decide +kernel
theorem dX0_canTurn_11 : decode cX0_canTurn 11 = .ok (.iconst 1, 1) := by decide +kernel
theorem dX0_canTurn_12 : decode cX0_canTurn 12 = .ok (.goto 4, 3) := by decide +kernel
theorem dX0_canTurn_15 : decode cX0_canTurn 15 = .ok (.iconst 0, 1) := by decide +kernel
theorem dX0_canTurn_16 : decode cX0_canTurn 16 = .ok (.ireturn, 1) := by decide +kernel
theorem dX0_turnOnce_0 : decode cX0_turnOnce 0 = .ok (.iconst 0, 1) := by decide +kernel
theorem dX0_turnOnce_1 : decode cX0_turnOnce 1 = .ok (.istore_n 1, 1) := by decide +kernel
theorem dX0_turnOnce_2 : decode cX0_turnOnce 2 = .ok (.iload_n 1, 1) := by decide +kernel
theorem dX0_turnOnce_3 : decode cX0_turnOnce 3 = .ok (.aload_n 0, 1) := by decide +kernel
theorem dX0_turnOnce_4 : decode cX0_turnOnce 4 = .ok (.getfield 23, 3) := by decide +kernel
theorem dX0_turnOnce_7 : decode cX0_turnOnce 7 = .ok (.if_icmp .ge 90, 3) := by decide +kernel
theorem dX0_turnOnce_10 : decode cX0_turnOnce 10 = .ok (.aload_n 0, 1) := by decide +kernel
theorem dX0_turnOnce_11 : decode cX0_turnOnce 11 = .ok (.invokevirtual 56, 3) := by decide +kernel
theorem dX0_turnOnce_14 : decode cX0_turnOnce 14 = .ok (.ifCond .eq 83, 3) := by decide +kernel
theorem dX0_turnOnce_17 : decode cX0_turnOnce 17 = .ok (.aload_n 0, 1) := by decide +kernel
theorem dX0_turnOnce_18 : decode cX0_turnOnce 18 = .ok (.iload_n 1, 1) := by decide +kernel
theorem dX0_turnOnce_19 : decode cX0_turnOnce 19 = .ok (.invokevirtual 60, 3) := by decide +kernel
theorem dX0_turnOnce_22 : decode cX0_turnOnce 22 = .ok (.iconst 0, 1) := by decide +kernel
theorem dX0_turnOnce_23 : decode cX0_turnOnce 23 = .ok (.istore_n 2, 1) := by decide +kernel
theorem dX0_turnOnce_24 : decode cX0_turnOnce 24 = .ok (.iload_n 2, 1) := by decide +kernel
theorem dX0_turnOnce_25 : decode cX0_turnOnce 25 = .ok (.aload_n 0, 1) := by decide +kernel
theorem dX0_turnOnce_26 : decode cX0_turnOnce 26 = .ok (.getfield 20, 3) := by decide +kernel
theorem dX0_turnOnce_29 : decode cX0_turnOnce 29 = .ok (.if_icmp .ge 62, 3) := by decide +kernel
theorem dX0_turnOnce_32 : decode cX0_turnOnce 32 = .ok (.iload_n 2, 1) := by decide +kernel
theorem dX0_turnOnce_33 : decode cX0_turnOnce 33 = .ok (.bipush 8, 2) := by decide +kernel
theorem dX0_turnOnce_35 : decode cX0_turnOnce 35 = .ok (.if_icmp .ge 56, 3) := by decide +kernel
theorem dX0_turnOnce_38 : decode cX0_turnOnce 38 = .ok (.iconst 0, 1) := by decide +kernel
theorem dX0_turnOnce_39 : decode cX0_turnOnce 39 = .ok (.istore_n 3, 1) := by decide +kernel
theorem dX0_turnOnce_40 : decode cX0_turnOnce 40 = .ok (.iload_n 3, 1) := by decide +kernel
theorem dX0_turnOnce_41 : decode cX0_turnOnce 41 = .ok (.aload_n 0, 1) := by decide +kernel
theorem dX0_turnOnce_42 : decode cX0_turnOnce 42 = .ok (.getfield 16, 3) := by decide +kernel
theorem dX0_turnOnce_45 : decode cX0_turnOnce 45 = .ok (.if_icmp .ge 40, 3) := by decide +kernel
theorem dX0_turnOnce_48 : decode cX0_turnOnce 48 = .ok (.iload_n 3, 1) := by decide +kernel
theorem dX0_turnOnce_49 : decode cX0_turnOnce 49 = .ok (.bipush 8, 2) := by decide +kernel
theorem dX0_turnOnce_51 : decode cX0_turnOnce 51 = .ok (.if_icmp .ge 34, 3) := by decide +kernel
theorem dX0_turnOnce_54 : decode cX0_turnOnce 54 = .ok (.aload_n 0, 1) := by decide +kernel
theorem dX0_turnOnce_55 : decode cX0_turnOnce 55 = .ok (.iload_n 2, 1) := by decide +kernel
theorem dX0_turnOnce_56 : decode cX0_turnOnce 56 = .ok (.aload_n 0, 1) := by decide +kernel
theorem dX0_turnOnce_57 : decode cX0_turnOnce 57 = .ok (.getfield 16, 3) := by decide +kernel
theorem dX0_turnOnce_60 : decode cX0_turnOnce 60 = .ok (.iconst 1, 1) := by decide +kernel
theorem dX0_turnOnce_61 : decode cX0_turnOnce 61 = .ok (.isub, 1) := by decide +kernel
theorem dX0_turnOnce_62 : decode cX0_turnOnce 62 = .ok (.iload_n 3, 1) := by decide +kernel
theorem dX0_turnOnce_63 : decode cX0_turnOnce 63 = .ok (.isub, 1) := by decide +kernel
theorem dX0_turnOnce_64 : decode cX0_turnOnce 64 = .ok (.iload_n 1, 1) := by decide +kernel
theorem dX0_turnOnce_65 : decode cX0_turnOnce 65 = .ok (.aload_n 0, 1) := by decide +kernel
theorem dX0_turnOnce_66 : decode cX0_turnOnce 66 = .ok (.getfield 13, 3) := by decide +kernel
theorem dX0_turnOnce_69 : decode cX0_turnOnce 69 = .ok (.iload_n 2, 1) := by decide +kernel
theorem dX0_turnOnce_70 : decode cX0_turnOnce 70 = .ok (.bipush 8, 2) := by decide +kernel
theorem dX0_turnOnce_72 : decode cX0_turnOnce 72 = .ok (.imul, 1) := by decide +kernel
theorem dX0_turnOnce_73 : decode cX0_turnOnce 73 = .ok (.iload_n 3, 1) := by decide +kernel
theorem dX0_turnOnce_74 : decode cX0_turnOnce 74 = .ok (.iadd, 1) := by decide +kernel
theorem dX0_turnOnce_75 : decode cX0_turnOnce 75 = .ok (.iaload, 1) := by decide +kernel
theorem dX0_turnOnce_76 : decode cX0_turnOnce 76 = .ok (.invokevirtual 44, 3) := by decide +kernel
theorem dX0_turnOnce_79 : decode cX0_turnOnce 79 = .ok (.iinc 3 1, 3) := by decide +kernel
theorem dX0_turnOnce_82 : decode cX0_turnOnce 82 = .ok (.goto (-42), 3) := by decide +kernel
theorem dX0_turnOnce_85 : decode cX0_turnOnce 85 = .ok (.iinc 2 1, 3) := by decide +kernel
theorem dX0_turnOnce_88 : decode cX0_turnOnce 88 = .ok (.goto (-64), 3) := by decide +kernel
theorem dX0_turnOnce_91 : decode cX0_turnOnce 91 = .ok (.iinc 1 1, 3) := by decide +kernel
theorem dX0_turnOnce_94 : decode cX0_turnOnce 94 = .ok (.goto (-92), 3) := by decide +kernel
theorem dX0_turnOnce_97 : decode cX0_turnOnce 97 = .ok (.return_, 1) := by decide +kernel
theorem dX0_keepLayer_0 : decode cX0_keepLayer 0 = .ok (.iconst 0, 1) := by decide +kernel
theorem dX0_keepLayer_1 : decode cX0_keepLayer 1 = .ok (.istore_n 2, 1) := by decide +kernel
theorem dX0_keepLayer_2 : decode cX0_keepLayer 2 = .ok (.iload_n 2, 1) := by decide +kernel
theorem dX0_keepLayer_3 : decode cX0_keepLayer 3 = .ok (.aload_n 0, 1) := by decide +kernel
theorem dX0_keepLayer_4 : decode cX0_keepLayer 4 = .ok (.getfield 20, 3) := by decide +kernel
theorem dX0_keepLayer_7 : decode cX0_keepLayer 7 = .ok (.if_icmp .ge 66, 3) := by decide +kernel
theorem dX0_keepLayer_10 : decode cX0_keepLayer 10 = .ok (.iload_n 2, 1) := by decide +kernel
theorem dX0_keepLayer_11 : decode cX0_keepLayer 11 = .ok (.bipush 8, 2) := by decide +kernel
theorem dX0_keepLayer_13 : decode cX0_keepLayer 13 = .ok (.if_icmp .ge 60, 3) := by decide +kernel
theorem dX0_keepLayer_16 : decode cX0_keepLayer 16 = .ok (.iconst 0, 1) := by decide +kernel
theorem dX0_keepLayer_17 : decode cX0_keepLayer 17 = .ok (.istore_n 3, 1) := by decide +kernel
theorem dX0_keepLayer_18 : decode cX0_keepLayer 18 = .ok (.iload_n 3, 1) := by decide +kernel
theorem dX0_keepLayer_19 : decode cX0_keepLayer 19 = .ok (.aload_n 0, 1) := by decide +kernel
theorem dX0_keepLayer_20 : decode cX0_keepLayer 20 = .ok (.getfield 16, 3) := by decide +kernel
theorem dX0_keepLayer_23 : decode cX0_keepLayer 23 = .ok (.if_icmp .ge 44, 3) := by decide +kernel
theorem dX0_keepLayer_26 : decode cX0_keepLayer 26 = .ok (.iload_n 3, 1) := by decide +kernel
theorem dX0_keepLayer_27 : decode cX0_keepLayer 27 = .ok (.bipush 8, 2) := by decide +kernel
theorem dX0_keepLayer_29 : decode cX0_keepLayer 29 = .ok (.if_icmp .ge 38, 3) := by decide +kernel
theorem dX0_keepLayer_32 : decode cX0_keepLayer 32 = .ok (.aload_n 0, 1) := by decide +kernel
theorem dX0_keepLayer_33 : decode cX0_keepLayer 33 = .ok (.getfield 13, 3) := by decide +kernel
theorem dX0_keepLayer_36 : decode cX0_keepLayer 36 = .ok (.iload_n 2, 1) := by decide +kernel
theorem dX0_keepLayer_37 : decode cX0_keepLayer 37 = .ok (.bipush 8, 2) := by decide +kernel
theorem dX0_keepLayer_39 : decode cX0_keepLayer 39 = .ok (.imul, 1) := by decide +kernel
theorem dX0_keepLayer_40 : decode cX0_keepLayer 40 = .ok (.iload_n 3, 1) := by decide +kernel
theorem dX0_keepLayer_41 : decode cX0_keepLayer 41 = .ok (.iadd, 1) := by decide +kernel
theorem dX0_keepLayer_42 : decode cX0_keepLayer 42 = .ok (.aload_n 0, 1) := by decide +kernel
theorem dX0_keepLayer_43 : decode cX0_keepLayer 43 = .ok (.iload_n 3, 1) := by decide +kernel
theorem dX0_keepLayer_44 : decode cX0_keepLayer 44 = .ok (.iload_n 2, 1) := by decide +kernel
theorem dX0_keepLayer_45 : decode cX0_keepLayer 45 = .ok (.iload_n 1, 1) := by decide +kernel
theorem dX0_keepLayer_46 : decode cX0_keepLayer 46 = .ok (.invokestatic 48, 3) := by decide +kernel
theorem dX0_keepLayer_49 : decode cX0_keepLayer 49 = .ok (.invokevirtual 52, 3) := by decide +kernel
theorem dX0_keepLayer_52 : decode cX0_keepLayer 52 = .ok (.ifCond .eq 7, 3) := by decide +kernel
theorem dX0_keepLayer_55 : decode cX0_keepLayer 55 = .ok (.iconst 1, 1) := by decide +kernel
theorem dX0_keepLayer_56 : decode cX0_keepLayer 56 = .ok (.goto 4, 3) := by decide +kernel
theorem dX0_keepLayer_59 : decode cX0_keepLayer 59 = .ok (.iconst 0, 1) := by decide +kernel
theorem dX0_keepLayer_60 : decode cX0_keepLayer 60 = .ok (.iastore, 1) := by decide +kernel
theorem dX0_keepLayer_61 : decode cX0_keepLayer 61 = .ok (.iinc 3 1, 3) := by decide +kernel
theorem dX0_keepLayer_64 : decode cX0_keepLayer 64 = .ok (.goto (-46), 3) := by decide +kernel
theorem dX0_keepLayer_67 : decode cX0_keepLayer 67 = .ok (.iinc 2 1, 3) := by decide +kernel
theorem dX0_keepLayer_70 : decode cX0_keepLayer 70 = .ok (.goto (-68), 3) := by decide +kernel
theorem dX0_keepLayer_73 : decode cX0_keepLayer 73 = .ok (.return_, 1) := by decide +kernel
theorem dX0_put_0 : decode cX0_put 0 = .ok (.aload_n 0, 1) := by decide +kernel
theorem dX0_put_1 : decode cX0_put 1 = .ok (.iload_n 1, 1) := by decide +kernel
theorem dX0_put_2 : decode cX0_put 2 = .ok (.iload_n 2, 1) := by decide +kernel
theorem dX0_put_3 : decode cX0_put 3 = .ok (.iload_n 3, 1) := by decide +kernel
theorem dX0_put_4 : decode cX0_put 4 = .ok (.iconst 0, 1) := by decide +kernel
theorem dX0_put_5 : decode cX0_put 5 = .ok (.invokevirtual 64, 3) := by decide +kernel
theorem dX0_put_8 : decode cX0_put 8 = .ok (.ifCond .eq 16, 3) := by decide +kernel
theorem dX0_put_11 : decode cX0_put 11 = .ok (.aload_n 0, 1) := by decide +kernel
theorem dX0_put_12 : decode cX0_put 12 = .ok (.getfield 9, 3) := by decide +kernel
theorem dX0_put_15 : decode cX0_put 15 = .ok (.iload_n 1, 1) := by decide +kernel
theorem dX0_put_16 : decode cX0_put 16 = .ok (.iload_n 2, 1) := by decide +kernel
theorem dX0_put_17 : decode cX0_put 17 = .ok (.iload_n 3, 1) := by decide +kernel
theorem dX0_put_18 : decode cX0_put 18 = .ok (.invokestatic 48, 3) := by decide +kernel
theorem dX0_put_21 : decode cX0_put 21 = .ok (.iload 4, 2) := by decide +kernel
theorem dX0_put_23 : decode cX0_put 23 = .ok (.iastore, 1) := by decide +kernel
theorem dX0_put_24 : decode cX0_put 24 = .ok (.return_, 1) := by decide +kernel
theorem dX1_init_0 : decode cX1_init 0 = .ok (.aload_n 0, 1) := by decide +kernel
theorem dX1_init_1 : decode cX1_init 1 = .ok (.invokespecial 5, 3) := by decide +kernel
theorem dX1_init_4 : decode cX1_init 4 = .ok (.aload_n 0, 1) := by decide +kernel
theorem dX1_init_5 : decode cX1_init 5 = .ok (.bipush 6, 2) := by decide +kernel
theorem dX1_init_7 : decode cX1_init 7 = .ok (.newarray .int, 2) := by decide +kernel
theorem dX1_init_9 : decode cX1_init 9 = .ok (.putfield 11, 3) := by decide +kernel
theorem dX1_init_12 : decode cX1_init 12 = .ok (.aload_n 0, 1) := by decide +kernel
theorem dX1_init_13 : decode cX1_init 13 = .ok (.bipush 64, 2) := by decide +kernel
theorem dX1_init_15 : decode cX1_init 15 = .ok (.newarray .int, 2) := by decide +kernel
theorem dX1_init_17 : decode cX1_init 17 = .ok (.putfield 17, 3) := by decide +kernel
theorem dX1_init_20 : decode cX1_init 20 = .ok (.aload_n 0, 1) := by decide +kernel
theorem dX1_init_21 : decode cX1_init 21 = .ok (.bipush 64, 2) := by decide +kernel
theorem dX1_init_23 : decode cX1_init 23 = .ok (.newarray .int, 2) := by decide +kernel
theorem dX1_init_25 : decode cX1_init 25 = .ok (.putfield 20, 3) := by decide +kernel
theorem dX1_init_28 : decode cX1_init 28 = .ok (.aload_n 0, 1) := by decide +kernel
theorem dX1_init_29 : decode cX1_init 29 = .ok (.bipush 64, 2) := by decide +kernel
theorem dX1_init_31 : decode cX1_init 31 = .ok (.newarray .int, 2) := by decide +kernel
theorem dX1_init_33 : decode cX1_init 33 = .ok (.putfield 23, 3) := by decide +kernel
theorem dX1_init_36 : decode cX1_init 36 = .ok (.aload_n 0, 1) := by decide +kernel
theorem dX1_init_37 : decode cX1_init 37 = .ok (.aload_n 1, 1) := by decide +kernel
theorem dX1_init_38 : decode cX1_init 38 = .ok (.putfield 26, 3) := by decide +kernel
theorem dX1_init_41 : decode cX1_init 41 = .ok (.aload_n 0, 1) := by decide +kernel
theorem dX1_init_42 : decode cX1_init 42 = .ok (.aload_n 2, 1) := by decide +kernel
theorem dX1_init_43 : decode cX1_init 43 = .ok (.putfield 30, 3) := by decide +kernel
theorem dX1_init_46 : decode cX1_init 46 = .ok (.aload_n 0, 1) := by decide +kernel
theorem dX1_init_47 : decode cX1_init 47 = .ok (.new 34, 3) := by decide +kernel
theorem dX1_init_50 : decode cX1_init 50 = .ok (.dup, 1) := by decide +kernel
theorem dX1_init_51 : decode cX1_init 51 = .ok (.aload_n 1, 1) := by decide +kernel
theorem dX1_init_52 : decode cX1_init 52 = .ok (.invokespecial 36, 3) := by decide +kernel
theorem dX1_init_55 : decode cX1_init 55 = .ok (.putfield 39, 3) := by decide +kernel
theorem dX1_init_58 : decode cX1_init 58 = .ok (.return_, 1) := by decide +kernel
theorem dX1_forget_0 : decode cX1_forget 0 = .ok (.aload_n 0, 1) := by decide +kernel
theorem dX1_forget_1 : decode cX1_forget 1 = .ok (.iconst 0, 1) := by decide +kernel
theorem dX1_forget_2 : decode cX1_forget 2 = .ok (.putfield 43, 3) := by decide +kernel
theorem dX1_forget_5 : decode cX1_forget 5 = .ok (.aload_n 0, 1) := by decide +kernel
theorem dX1_forget_6 : decode cX1_forget 6 = .ok (.getfield 30, 3) := by decide +kernel
theorem dX1_forget_9 : decode cX1_forget 9 = .ok (.invokevirtual 47, 3) := by decide +kernel
theorem dX1_forget_12 : decode cX1_forget 12 = .ok (.return_, 1) := by decide +kernel
theorem dX1_find_0 : decode cX1_find 0 = .ok (.aload_n 0, 1) := by decide +kernel
theorem dX1_find_1 : decode cX1_find 1 = .ok (.getfield 43, 3) := by decide +kernel
theorem dX1_find_4 : decode cX1_find 4 = .ok (.ifCond .le 12, 3) := by decide +kernel
theorem dX1_find_7 : decode cX1_find 7 = .ok (.aload_n 0, 1) := by decide +kernel
theorem dX1_find_8 : decode cX1_find 8 = .ok (.getfield 30, 3) := by decide +kernel
theorem dX1_find_11 : decode cX1_find 11 = .ok (.invokevirtual 52, 3) := by decide +kernel
theorem dX1_find_14 : decode cX1_find 14 = .ok (.iconst 1, 1) := by decide +kernel
theorem dX1_find_15 : decode cX1_find 15 = .ok (.ireturn, 1) := by decide +kernel
theorem dX1_find_16 : decode cX1_find 16 = .ok (.aload_n 0, 1) := by decide +kernel
theorem dX1_find_17 : decode cX1_find 17 = .ok (.invokevirtual 55, 3) := by decide +kernel
theorem dX1_find_20 : decode cX1_find 20 = .ok (.aload_n 0, 1) := by decide +kernel
theorem dX1_find_21 : decode cX1_find 21 = .ok (.invokevirtual 58, 3) := by decide +kernel
theorem dX1_find_24 : decode cX1_find 24 = .ok (.istore_n 1, 1) := by decide +kernel
theorem dX1_find_25 : decode cX1_find 25 = .ok (.iload_n 1, 1) := by decide +kernel
theorem dX1_find_26 : decode cX1_find 26 = .ok (.iconst (-1), 1) := by decide +kernel
theorem dX1_find_27 : decode cX1_find 27 = .ok (.if_icmp .ne 5, 3) := by decide +kernel
theorem dX1_find_30 : decode cX1_find 30 = .ok (.iconst 0, 1) := by decide +kernel
theorem dX1_find_31 : decode cX1_find 31 = .ok (.ireturn, 1) := by decide +kernel
theorem dX1_find_32 : decode cX1_find 32 = .ok (.aload_n 0, 1) := by decide +kernel
theorem dX1_find_33 : decode cX1_find 33 = .ok (.iload_n 1, 1) := by decide +kernel
theorem dX1_find_34 : decode cX1_find 34 = .ok (.invokevirtual 62, 3) := by decide +kernel
theorem dX1_find_37 : decode cX1_find 37 = .ok (.aload_n 0, 1) := by decide +kernel
theorem dX1_find_38 : decode cX1_find 38 = .ok (.iload_n 1, 1) := by decide +kernel
theorem dX1_find_39 : decode cX1_find 39 = .ok (.invokevirtual 66, 3) := by decide +kernel
theorem dX1_find_42 : decode cX1_find 42 = .ok (.aload_n 0, 1) := by decide +kernel
theorem dX1_find_43 : decode cX1_find 43 = .ok (.getfield 30, 3) := by decide +kernel
theorem dX1_find_46 : decode cX1_find 46 = .ok (.aload_n 0, 1) := by decide +kernel
theorem dX1_find_47 : decode cX1_find 47 = .ok (.getfield 26, 3) := by decide +kernel
theorem dX1_find_50 : decode cX1_find 50 = .ok (.aload_n 0, 1) := by decide +kernel
theorem dX1_find_51 : decode cX1_find 51 = .ok (.getfield 39, 3) := by decide +kernel
theorem dX1_find_54 : decode cX1_find 54 = .ok (.invokevirtual 69, 3) := by decide +kernel
theorem dX1_find_57 : decode cX1_find 57 = .ok (.iconst 1, 1) := by decide +kernel
theorem dX1_find_58 : decode cX1_find 58 = .ok (.ireturn, 1) := by decide +kernel
theorem dX1_wayNumber_0 : decode cX1_wayNumber 0 = .ok (.iload_n 1, 1) := by decide +kernel
theorem dX1_wayNumber_1 : decode cX1_wayNumber 1 = .ok (.ifCond .lt 20, 3) := by decide +kernel
theorem dX1_wayNumber_4 : decode cX1_wayNumber 4 = .ok (.iload_n 1, 1) := by decide +kernel
theorem dX1_wayNumber_5 : decode cX1_wayNumber 5 = .ok (.aload_n 0, 1) := by decide +kernel
theorem dX1_wayNumber_6 : decode cX1_wayNumber 6 = .ok (.getfield 43, 3) := by decide +kernel
theorem dX1_wayNumber_9 : decode cX1_wayNumber 9 = .ok (.if_icmp .ge 12, 3) := by decide +kernel
theorem dX1_wayNumber_12 : decode cX1_wayNumber 12 = .ok (.aload_n 0, 1) := by decide +kernel
theorem dX1_wayNumber_13 : decode cX1_wayNumber 13 = .ok (.getfield 11, 3) := by decide +kernel
theorem dX1_wayNumber_16 : decode cX1_wayNumber 16 = .ok (.iload_n 1, 1) := by decide +kernel
theorem dX1_wayNumber_17 : decode cX1_wayNumber 17 = .ok (.iaload, 1) := by decide +kernel
theorem dX1_wayNumber_18 : decode cX1_wayNumber 18 = .ok (.goto 4, 3) := by decide +kernel
theorem dX1_wayNumber_21 : decode cX1_wayNumber 21 = .ok (.iconst (-1), 1) := by decide +kernel
theorem dX1_wayNumber_22 : decode cX1_wayNumber 22 = .ok (.ireturn, 1) := by decide +kernel
theorem dX1_pieceOfCell_0 : decode cX1_pieceOfCell 0 = .ok (.aload_n 0, 1) := by decide +kernel
theorem dX1_pieceOfCell_1 : decode cX1_pieceOfCell 1 = .ok (.getfield 43, 3) := by decide +kernel
theorem dX1_pieceOfCell_4 : decode cX1_pieceOfCell 4 = .ok (.ifCond .le 14, 3) := by decide +kernel
theorem dX1_pieceOfCell_7 : decode cX1_pieceOfCell 7 = .ok (.aload_n 0, 1) := by decide +kernel
theorem dX1_pieceOfCell_8 : decode cX1_pieceOfCell 8 = .ok (.getfield 39, 3) := by decide +kernel
theorem dX1_pieceOfCell_11 : decode cX1_pieceOfCell 11 = .ok (.iload_n 1, 1) := by decide +kernel
theorem dX1_pieceOfCell_12 : decode cX1_pieceOfCell 12 = .ok (.invokevirtual 73, 3) := by decide +kernel
theorem dX1_pieceOfCell_15 : decode cX1_pieceOfCell 15 = .ok (.goto 4, 3) := by decide +kernel
theorem dX1_pieceOfCell_18 : decode cX1_pieceOfCell 18 = .ok (.iconst (-1), 1) := by decide +kernel
theorem dX1_pieceOfCell_19 : decode cX1_pieceOfCell 19 = .ok (.ireturn, 1) := by decide +kernel
theorem dX1_noteFreedoms_0 : decode cX1_noteFreedoms 0 = .ok (.aload_n 0, 1) := by decide +kernel
theorem dX1_noteFreedoms_1 : decode cX1_noteFreedoms 1 = .ok (.getfield 23, 3) := by decide +kernel
theorem dX1_noteFreedoms_4 : decode cX1_noteFreedoms 4 = .ok (.iconst 0, 1) := by decide +kernel
theorem dX1_noteFreedoms_5 : decode cX1_noteFreedoms 5 = .ok (.invokestatic 77, 3) := by decide +kernel
theorem dX1_noteFreedoms_8 : decode cX1_noteFreedoms 8 = .ok (.iconst 0, 1) := by decide +kernel
theorem dX1_noteFreedoms_9 : decode cX1_noteFreedoms 9 = .ok (.istore_n 1, 1) := by decide +kernel
theorem dX1_noteFreedoms_10 : decode cX1_noteFreedoms 10 = .ok (.iload_n 1, 1) := by decide +kernel
theorem dX1_noteFreedoms_11 : decode cX1_noteFreedoms 11 = .ok (.aload_n 0, 1) := by decide +kernel
theorem dX1_noteFreedoms_12 : decode cX1_noteFreedoms 12 = .ok (.getfield 26, 3) := by decide +kernel
theorem dX1_noteFreedoms_15 : decode cX1_noteFreedoms 15 = .ok (.invokevirtual 83, 3) := by decide +kernel
theorem dX1_noteFreedoms_18 : decode cX1_noteFreedoms 18 = .ok (.if_icmp .ge 36, 3) := by decide +kernel
theorem dX1_noteFreedoms_21 : decode cX1_noteFreedoms 21 = .ok (.aload_n 0, 1) := by decide +kernel
theorem dX1_noteFreedoms_22 : decode cX1_noteFreedoms 22 = .ok (.getfield 23, 3) := by decide +kernel
theorem dX1_noteFreedoms_25 : decode cX1_noteFreedoms 25 = .ok (.aload_n 0, 1) := by decide +kernel
theorem dX1_noteFreedoms_26 : decode cX1_noteFreedoms 26 = .ok (.getfield 26, 3) := by decide +kernel
theorem dX1_noteFreedoms_29 : decode cX1_noteFreedoms 29 = .ok (.aload_n 0, 1) := by decide +kernel
theorem dX1_noteFreedoms_30 : decode cX1_noteFreedoms 30 = .ok (.getfield 26, 3) := by decide +kernel
theorem dX1_noteFreedoms_33 : decode cX1_noteFreedoms 33 = .ok (.iload_n 1, 1) := by decide +kernel
theorem dX1_noteFreedoms_34 : decode cX1_noteFreedoms 34 = .ok (.invokevirtual 86, 3) := by decide +kernel
theorem dX1_noteFreedoms_37 : decode cX1_noteFreedoms 37 = .ok (.invokevirtual 89, 3) := by decide +kernel
theorem dX1_noteFreedoms_40 : decode cX1_noteFreedoms 40 = .ok (.bipush 63, 2) := by decide +kernel
theorem dX1_noteFreedoms_42 : decode cX1_noteFreedoms 42 = .ok (.iand, 1) := by decide +kernel
theorem dX1_noteFreedoms_43 : decode cX1_noteFreedoms 43 = .ok (.dup2, 1) := by decide +kernel
theorem dX1_noteFreedoms_44 : decode cX1_noteFreedoms 44 = .ok (.iaload, 1) := by decide +kernel
theorem dX1_noteFreedoms_45 : decode cX1_noteFreedoms 45 = .ok (.iconst 1, 1) := by decide +kernel
theorem dX1_noteFreedoms_46 : decode cX1_noteFreedoms 46 = .ok (.iadd, 1) := by decide +kernel
theorem dX1_noteFreedoms_47 : decode cX1_noteFreedoms 47 = .ok (.iastore, 1) := by decide +kernel
theorem dX1_noteFreedoms_48 : decode cX1_noteFreedoms 48 = .ok (.iinc 1 1, 3) := by decide +kernel
theorem dX1_noteFreedoms_51 : decode cX1_noteFreedoms 51 = .ok (.goto (-41), 3) := by decide +kernel
theorem dX1_noteFreedoms_54 : decode cX1_noteFreedoms 54 = .ok (.return_, 1) := by decide +kernel
theorem dX1_frees_0 : decode cX1_frees 0 = .ok (.iconst 0, 1) := by decide +kernel
theorem dX1_frees_1 : decode cX1_frees 1 = .ok (.istore_n 2, 1) := by decide +kernel
theorem dX1_frees_2 : decode cX1_frees 2 = .ok (.iload_n 2, 1) := by decide +kernel
theorem dX1_frees_3 : decode cX1_frees 3 = .ok (.bipush 64, 2) := by decide +kernel
theorem dX1_frees_5 : decode cX1_frees 5 = .ok (.if_icmp .ge 26, 3) := by decide +kernel
theorem dX1_frees_8 : decode cX1_frees 8 = .ok (.aload_n 0, 1) := by decide +kernel
theorem dX1_frees_9 : decode cX1_frees 9 = .ok (.getfield 23, 3) := by decide +kernel
theorem dX1_frees_12 : decode cX1_frees 12 = .ok (.iload_n 2, 1) := by decide +kernel
theorem dX1_frees_13 : decode cX1_frees 13 = .ok (.iaload, 1) := by decide +kernel
theorem dX1_frees_14 : decode cX1_frees 14 = .ok (.ifCond .le 11, 3) := by decide +kernel
theorem dX1_frees_17 : decode cX1_frees 17 = .ok (.iload_n 2, 1) := by decide +kernel
theorem dX1_frees_18 : decode cX1_frees 18 = .ok (.iload_n 1, 1) := by decide +kernel
theorem dX1_frees_19 : decode cX1_frees 19 = .ok (.iand, 1) := by decide +kernel
theorem dX1_frees_20 : decode cX1_frees 20 = .ok (.ifCond .ne 5, 3) := by decide +kernel
theorem dX1_frees_23 : decode cX1_frees 23 = .ok (.iconst 0, 1) := by decide +kernel
theorem dX1_frees_24 : decode cX1_frees 24 = .ok (.ireturn, 1) := by decide +kernel
theorem dX1_frees_25 : decode cX1_frees 25 = .ok (.iinc 2 1, 3) := by decide +kernel
theorem dX1_frees_28 : decode cX1_frees 28 = .ok (.goto (-26), 3) := by decide +kernel
theorem dX1_frees_31 : decode cX1_frees 31 = .ok (.iconst 1, 1) := by decide +kernel
theorem dX1_frees_32 : decode cX1_frees 32 = .ok (.ireturn, 1) := by decide +kernel
theorem dX1_fewestWays_0 : decode cX1_fewestWays 0 = .ok (.iconst (-1), 1) := by decide +kernel
theorem dX1_fewestWays_1 : decode cX1_fewestWays 1 = .ok (.istore_n 1, 1) := by decide +kernel
theorem dX1_fewestWays_2 : decode cX1_fewestWays 2 = .ok (.iconst 1, 1) := by decide +kernel
theorem dX1_fewestWays_3 : decode cX1_fewestWays 3 = .ok (.istore_n 2, 1) := by decide +kernel
theorem dX1_fewestWays_4 : decode cX1_fewestWays 4 = .ok (.iload_n 2, 1) := by decide +kernel
theorem dX1_fewestWays_5 : decode cX1_fewestWays 5 = .ok (.bipush 64, 2) := by decide +kernel
theorem dX1_fewestWays_7 : decode cX1_fewestWays 7 = .ok (.if_icmp .ge 34, 3) := by decide +kernel
theorem dX1_fewestWays_10 : decode cX1_fewestWays 10 = .ok (.iload_n 2, 1) := by decide +kernel
theorem dX1_fewestWays_11 : decode cX1_fewestWays 11 = .ok (.invokestatic 92, 3) := by decide +kernel
theorem dX1_fewestWays_14 : decode cX1_fewestWays 14 = .ok (.istore_n 3, 1) := by decide +kernel
theorem dX1_fewestWays_15 : decode cX1_fewestWays 15 = .ok (.iload_n 1, 1) := by decide +kernel
theorem dX1_fewestWays_16 : decode cX1_fewestWays 16 = .ok (.iconst (-1), 1) := by decide +kernel
theorem dX1_fewestWays_17 : decode cX1_fewestWays 17 = .ok (.if_icmp .eq 8, 3) := by decide +kernel
theorem dX1_fewestWays_20 : decode cX1_fewestWays 20 = .ok (.iload_n 3, 1) := by decide +kernel
theorem dX1_fewestWays_21 : decode cX1_fewestWays 21 = .ok (.iload_n 1, 1) := by decide +kernel
theorem dX1_fewestWays_22 : decode cX1_fewestWays 22 = .ok (.if_icmp .ge 13, 3) := by decide +kernel
theorem dX1_fewestWays_25 : decode cX1_fewestWays 25 = .ok (.aload_n 0, 1) := by decide +kernel
theorem dX1_fewestWays_26 : decode cX1_fewestWays 26 = .ok (.iload_n 2, 1) := by decide +kernel
theorem dX1_fewestWays_27 : decode cX1_fewestWays 27 = .ok (.invokevirtual 97, 3) := by decide +kernel
theorem dX1_fewestWays_30 : decode cX1_fewestWays 30 = .ok (.ifCond .eq 5, 3) := by decide +kernel
theorem dX1_fewestWays_33 : decode cX1_fewestWays 33 = .ok (.iload_n 3, 1) := by decide +kernel
theorem dX1_fewestWays_34 : decode cX1_fewestWays 34 = .ok (.istore_n 1, 1) := by decide +kernel
theorem dX1_fewestWays_35 : decode cX1_fewestWays 35 = .ok (.iinc 2 1, 3) := by decide +kernel
theorem dX1_fewestWays_38 : decode cX1_fewestWays 38 = .ok (.goto (-34), 3) := by decide +kernel
theorem dX1_fewestWays_41 : decode cX1_fewestWays 41 = .ok (.iload_n 1, 1) := by decide +kernel
theorem dX1_fewestWays_42 : decode cX1_fewestWays 42 = .ok (.ireturn, 1) := by decide +kernel
theorem dX1_weighSets_0 : decode cX1_weighSets 0 = .ok (.bipush 63, 2) := by decide +kernel
theorem dX1_weighSets_2 : decode cX1_weighSets 2 = .ok (.istore_n 2, 1) := by decide +kernel
theorem dX1_weighSets_3 : decode cX1_weighSets 3 = .ok (.iload_n 2, 1) := by decide +kernel
theorem dX1_weighSets_4 : decode cX1_weighSets 4 = .ok (.ifCond .lt 56, 3) := by decide +kernel
theorem dX1_weighSets_7 : decode cX1_weighSets 7 = .ok (.iload_n 2, 1) := by decide +kernel
theorem dX1_weighSets_8 : decode cX1_weighSets 8 = .ok (.invokestatic 92, 3) := by decide +kernel
theorem dX1_weighSets_11 : decode cX1_weighSets 11 = .ok (.istore_n 3, 1) := by decide +kernel
theorem dX1_weighSets_12 : decode cX1_weighSets 12 = .ok (.aload_n 0, 1) := by decide +kernel
theorem dX1_weighSets_13 : decode cX1_weighSets 13 = .ok (.getfield 17, 3) := by decide +kernel
theorem dX1_weighSets_16 : decode cX1_weighSets 16 = .ok (.iload_n 2, 1) := by decide +kernel
theorem dX1_weighSets_17 : decode cX1_weighSets 17 = .ok (.iload_n 3, 1) := by decide +kernel
theorem dX1_weighSets_18 : decode cX1_weighSets 18 = .ok (.iload_n 1, 1) := by decide +kernel
theorem dX1_weighSets_19 : decode cX1_weighSets 19 = .ok (.if_icmp .ne 15, 3) := by decide +kernel
theorem dX1_weighSets_22 : decode cX1_weighSets 22 = .ok (.aload_n 0, 1) := by decide +kernel
theorem dX1_weighSets_23 : decode cX1_weighSets 23 = .ok (.iload_n 2, 1) := by decide +kernel
theorem dX1_weighSets_24 : decode cX1_weighSets 24 = .ok (.invokevirtual 97, 3) := by decide +kernel
theorem dX1_weighSets_27 : decode cX1_weighSets 27 = .ok (.ifCond .eq 7, 3) := by decide +kernel
theorem dX1_weighSets_30 : decode cX1_weighSets 30 = .ok (.iconst 0, 1) := by decide +kernel
theorem dX1_weighSets_31 : decode cX1_weighSets 31 = .ok (.goto 5, 3) := by decide +kernel
theorem dX1_weighSets_34 : decode cX1_weighSets 34 = .ok (.ldc 101, 2) := by decide +kernel
theorem dX1_weighSets_36 : decode cX1_weighSets 36 = .ok (.iastore, 1) := by decide +kernel
theorem dX1_weighSets_37 : decode cX1_weighSets 37 = .ok (.aload_n 0, 1) := by decide +kernel
theorem dX1_weighSets_38 : decode cX1_weighSets 38 = .ok (.getfield 20, 3) := by decide +kernel
theorem dX1_weighSets_41 : decode cX1_weighSets 41 = .ok (.iload_n 2, 1) := by decide +kernel
theorem dX1_weighSets_42 : decode cX1_weighSets 42 = .ok (.iconst (-1), 1) := by decide +kernel
theorem dX1_weighSets_43 : decode cX1_weighSets 43 = .ok (.iastore, 1) := by decide +kernel
theorem dX1_weighSets_44 : decode cX1_weighSets 44 = .ok (.iload_n 3, 1) := by decide +kernel
theorem dX1_weighSets_45 : decode cX1_weighSets 45 = .ok (.iload_n 1, 1) := by decide +kernel
theorem dX1_weighSets_46 : decode cX1_weighSets 46 = .ok (.if_icmp .ge 8, 3) := by decide +kernel
theorem dX1_weighSets_49 : decode cX1_weighSets 49 = .ok (.aload_n 0, 1) := by decide +kernel
theorem dX1_weighSets_50 : decode cX1_weighSets 50 = .ok (.iload_n 2, 1) := by decide +kernel
theorem dX1_weighSets_51 : decode cX1_weighSets 51 = .ok (.invokevirtual 102, 3) := by decide +kernel
theorem dX1_weighSets_54 : decode cX1_weighSets 54 = .ok (.iinc 2 (-1), 3) := by decide +kernel
theorem dX1_weighSets_57 : decode cX1_weighSets 57 = .ok (.goto (-54), 3) := by decide +kernel
theorem dX1_weighSets_60 : decode cX1_weighSets 60 = .ok (.return_, 1) := by decide +kernel
theorem dX1_weighWays_0 : decode cX1_weighWays 0 = .ok (.iconst 0, 1) := by decide +kernel
theorem dX1_weighWays_1 : decode cX1_weighWays 1 = .ok (.istore_n 2, 1) := by decide +kernel
theorem dX1_weighWays_2 : decode cX1_weighWays 2 = .ok (.iload_n 2, 1) := by decide +kernel
theorem dX1_weighWays_3 : decode cX1_weighWays 3 = .ok (.bipush 6, 2) := by decide +kernel
theorem dX1_weighWays_5 : decode cX1_weighWays 5 = .ok (.if_icmp .ge 82, 3) := by decide +kernel
theorem dX1_weighWays_8 : decode cX1_weighWays 8 = .ok (.iload_n 1, 1) := by decide +kernel
theorem dX1_weighWays_9 : decode cX1_weighWays 9 = .ok (.iconst 1, 1) := by decide +kernel
theorem dX1_weighWays_10 : decode cX1_weighWays 10 = .ok (.iload_n 2, 1) := by decide +kernel
theorem dX1_weighWays_11 : decode cX1_weighWays 11 = .ok (.ishl, 1) := by decide +kernel
theorem dX1_weighWays_12 : decode cX1_weighWays 12 = .ok (.ior, 1) := by decide +kernel
theorem dX1_weighWays_13 : decode cX1_weighWays 13 = .ok (.istore_n 3, 1) := by decide +kernel
theorem dX1_weighWays_14 : decode cX1_weighWays 14 = .ok (.iload_n 3, 1) := by decide +kernel
theorem dX1_weighWays_15 : decode cX1_weighWays 15 = .ok (.iload_n 1, 1) := by decide +kernel
theorem dX1_weighWays_16 : decode cX1_weighWays 16 = .ok (.if_icmp .eq 65, 3) := by decide +kernel
theorem dX1_weighWays_19 : decode cX1_weighWays 19 = .ok (.aload_n 0, 1) := by decide +kernel
theorem dX1_weighWays_20 : decode cX1_weighWays 20 = .ok (.getfield 17, 3) := by decide +kernel
theorem dX1_weighWays_23 : decode cX1_weighWays 23 = .ok (.iload_n 3, 1) := by decide +kernel
theorem dX1_weighWays_24 : decode cX1_weighWays 24 = .ok (.iaload, 1) := by decide +kernel
theorem dX1_weighWays_25 : decode cX1_weighWays 25 = .ok (.iconst 1, 1) := by decide +kernel
theorem dX1_weighWays_26 : decode cX1_weighWays 26 = .ok (.iadd, 1) := by decide +kernel
theorem dX1_weighWays_27 : decode cX1_weighWays 27 = .ok (.aload_n 0, 1) := by decide +kernel
theorem dX1_weighWays_28 : decode cX1_weighWays 28 = .ok (.getfield 17, 3) := by decide +kernel
theorem dX1_weighWays_31 : decode cX1_weighWays 31 = .ok (.iload_n 1, 1) := by decide +kernel
theorem dX1_weighWays_32 : decode cX1_weighWays 32 = .ok (.iaload, 1) := by decide +kernel
theorem dX1_weighWays_33 : decode cX1_weighWays 33 = .ok (.if_icmp .ge 48, 3) := by decide +kernel
theorem dX1_weighWays_36 : decode cX1_weighWays 36 = .ok (.aload_n 0, 1) := by decide +kernel
theorem dX1_weighWays_37 : decode cX1_weighWays 37 = .ok (.getfield 39, 3) := by decide +kernel
theorem dX1_weighWays_40 : decode cX1_weighWays 40 = .ok (.iload_n 2, 1) := by decide +kernel
theorem dX1_weighWays_41 : decode cX1_weighWays 41 = .ok (.iload_n 1, 1) := by decide +kernel
theorem dX1_weighWays_42 : decode cX1_weighWays 42 = .ok (.iconst 0, 1) := by decide +kernel
theorem dX1_weighWays_43 : decode cX1_weighWays 43 = .ok (.invokevirtual 105, 3) := by decide +kernel
theorem dX1_weighWays_46 : decode cX1_weighWays 46 = .ok (.aload_n 0, 1) := by decide +kernel
theorem dX1_weighWays_47 : decode cX1_weighWays 47 = .ok (.getfield 17, 3) := by decide +kernel
theorem dX1_weighWays_50 : decode cX1_weighWays 50 = .ok (.iload_n 3, 1) := by decide +kernel
theorem dX1_weighWays_51 : decode cX1_weighWays 51 = .ok (.iaload, 1) := by decide +kernel
theorem dX1_weighWays_52 : decode cX1_weighWays 52 = .ok (.iadd, 1) := by decide +kernel
theorem dX1_weighWays_53 : decode cX1_weighWays 53 = .ok (.istore 4, 2) := by decide +kernel
theorem dX1_weighWays_55 : decode cX1_weighWays 55 = .ok (.iload 4, 2) := by decide +kernel
theorem dX1_weighWays_57 : decode cX1_weighWays 57 = .ok (.aload_n 0, 1) := by decide +kernel
theorem dX1_weighWays_58 : decode cX1_weighWays 58 = .ok (.getfield 17, 3) := by decide +kernel
theorem dX1_weighWays_61 : decode cX1_weighWays 61 = .ok (.iload_n 1, 1) := by decide +kernel
theorem dX1_weighWays_62 : decode cX1_weighWays 62 = .ok (.iaload, 1) := by decide +kernel
theorem dX1_weighWays_63 : decode cX1_weighWays 63 = .ok (.if_icmp .ge 18, 3) := by decide +kernel
theorem dX1_weighWays_66 : decode cX1_weighWays 66 = .ok (.aload_n 0, 1) := by decide +kernel
theorem dX1_weighWays_67 : decode cX1_weighWays 67 = .ok (.getfield 17, 3) := by decide +kernel
theorem dX1_weighWays_70 : decode cX1_weighWays 70 = .ok (.iload_n 1, 1) := by decide +kernel
theorem dX1_weighWays_71 : decode cX1_weighWays 71 = .ok (.iload 4, 2) := by decide +kernel
theorem dX1_weighWays_73 : decode cX1_weighWays 73 = .ok (.iastore, 1) := by decide +kernel
theorem dX1_weighWays_74 : decode cX1_weighWays 74 = .ok (.aload_n 0, 1) := by decide +kernel
theorem dX1_weighWays_75 : decode cX1_weighWays 75 = .ok (.getfield 20, 3) := by decide +kernel
theorem dX1_weighWays_78 : decode cX1_weighWays 78 = .ok (.iload_n 1, 1) := by decide +kernel
theorem dX1_weighWays_79 : decode cX1_weighWays 79 = .ok (.iload_n 2, 1) := by decide +kernel
theorem dX1_weighWays_80 : decode cX1_weighWays 80 = .ok (.iastore, 1) := by decide +kernel
theorem dX1_weighWays_81 : decode cX1_weighWays 81 = .ok (.iinc 2 1, 3) := by decide +kernel
theorem dX1_weighWays_84 : decode cX1_weighWays 84 = .ok (.goto (-82), 3) := by decide +kernel
theorem dX1_weighWays_87 : decode cX1_weighWays 87 = .ok (.return_, 1) := by decide +kernel
theorem dX1_keepBest_0 : decode cX1_keepBest 0 = .ok (.iconst 0, 1) := by decide +kernel
theorem dX1_keepBest_1 : decode cX1_keepBest 1 = .ok (.istore_n 2, 1) := by decide +kernel
theorem dX1_keepBest_2 : decode cX1_keepBest 2 = .ok (.iconst 0, 1) := by decide +kernel
theorem dX1_keepBest_3 : decode cX1_keepBest 3 = .ok (.istore_n 3, 1) := by decide +kernel
theorem dX1_keepBest_4 : decode cX1_keepBest 4 = .ok (.iload_n 3, 1) := by decide +kernel
theorem dX1_keepBest_5 : decode cX1_keepBest 5 = .ok (.iload_n 1, 1) := by decide +kernel
theorem dX1_keepBest_6 : decode cX1_keepBest 6 = .ok (.if_icmp .ge 81, 3) := by decide +kernel
theorem dX1_keepBest_9 : decode cX1_keepBest 9 = .ok (.iload_n 3, 1) := by decide +kernel
theorem dX1_keepBest_10 : decode cX1_keepBest 10 = .ok (.bipush 6, 2) := by decide +kernel
theorem dX1_keepBest_12 : decode cX1_keepBest 12 = .ok (.if_icmp .ge 75, 3) := by decide +kernel
theorem dX1_keepBest_15 : decode cX1_keepBest 15 = .ok (.aload_n 0, 1) := by decide +kernel
theorem dX1_keepBest_16 : decode cX1_keepBest 16 = .ok (.getfield 20, 3) := by decide +kernel
theorem dX1_keepBest_19 : decode cX1_keepBest 19 = .ok (.iload_n 2, 1) := by decide +kernel
theorem dX1_keepBest_20 : decode cX1_keepBest 20 = .ok (.iaload, 1) := by decide +kernel
theorem dX1_keepBest_21 : decode cX1_keepBest 21 = .ok (.iconst (-1), 1) := by decide +kernel
theorem dX1_keepBest_22 : decode cX1_keepBest 22 = .ok (.if_icmp .eq 65, 3) := by decide +kernel
theorem dX1_keepBest_25 : decode cX1_keepBest 25 = .ok (.aload_n 0, 1) := by decide +kernel
theorem dX1_keepBest_26 : decode cX1_keepBest 26 = .ok (.getfield 20, 3) := by decide +kernel
theorem dX1_keepBest_29 : decode cX1_keepBest 29 = .ok (.iload_n 2, 1) := by decide +kernel
theorem dX1_keepBest_30 : decode cX1_keepBest 30 = .ok (.iaload, 1) := by decide +kernel
theorem dX1_keepBest_31 : decode cX1_keepBest 31 = .ok (.istore 4, 2) := by decide +kernel
theorem dX1_keepBest_33 : decode cX1_keepBest 33 = .ok (.aload_n 0, 1) := by decide +kernel
theorem dX1_keepBest_34 : decode cX1_keepBest 34 = .ok (.getfield 11, 3) := by decide +kernel
theorem dX1_keepBest_37 : decode cX1_keepBest 37 = .ok (.iload_n 3, 1) := by decide +kernel
theorem dX1_keepBest_38 : decode cX1_keepBest 38 = .ok (.iload 4, 2) := by decide +kernel
theorem dX1_keepBest_40 : decode cX1_keepBest 40 = .ok (.iastore, 1) := by decide +kernel
theorem dX1_keepBest_41 : decode cX1_keepBest 41 = .ok (.aload_n 0, 1) := by decide +kernel
theorem dX1_keepBest_42 : decode cX1_keepBest 42 = .ok (.iload_n 3, 1) := by decide +kernel
theorem dX1_keepBest_43 : decode cX1_keepBest 43 = .ok (.iconst 1, 1) := by decide +kernel
theorem dX1_keepBest_44 : decode cX1_keepBest 44 = .ok (.iadd, 1) := by decide +kernel
theorem dX1_keepBest_45 : decode cX1_keepBest 45 = .ok (.putfield 43, 3) := by decide +kernel
theorem dX1_keepBest_48 : decode cX1_keepBest 48 = .ok (.aload_n 0, 1) := by decide +kernel
theorem dX1_keepBest_49 : decode cX1_keepBest 49 = .ok (.getfield 30, 3) := by decide +kernel
theorem dX1_keepBest_52 : decode cX1_keepBest 52 = .ok (.iload 4, 2) := by decide +kernel
theorem dX1_keepBest_54 : decode cX1_keepBest 54 = .ok (.aload_n 0, 1) := by decide +kernel
theorem dX1_keepBest_55 : decode cX1_keepBest 55 = .ok (.getfield 39, 3) := by decide +kernel
theorem dX1_keepBest_58 : decode cX1_keepBest 58 = .ok (.iload 4, 2) := by decide +kernel
theorem dX1_keepBest_60 : decode cX1_keepBest 60 = .ok (.iload_n 2, 1) := by decide +kernel
theorem dX1_keepBest_61 : decode cX1_keepBest 61 = .ok (.aload_n 0, 1) := by decide +kernel
theorem dX1_keepBest_62 : decode cX1_keepBest 62 = .ok (.getfield 30, 3) := by decide +kernel
theorem dX1_keepBest_65 : decode cX1_keepBest 65 = .ok (.invokevirtual 109, 3) := by decide +kernel
theorem dX1_keepBest_68 : decode cX1_keepBest 68 = .ok (.invokevirtual 105, 3) := by decide +kernel
theorem dX1_keepBest_71 : decode cX1_keepBest 71 = .ok (.invokevirtual 112, 3) := by decide +kernel
theorem dX1_keepBest_74 : decode cX1_keepBest 74 = .ok (.iload_n 2, 1) := by decide +kernel
theorem dX1_keepBest_75 : decode cX1_keepBest 75 = .ok (.iconst 1, 1) := by decide +kernel
theorem dX1_keepBest_76 : decode cX1_keepBest 76 = .ok (.iload 4, 2) := by decide +kernel
theorem dX1_keepBest_78 : decode cX1_keepBest 78 = .ok (.ishl, 1) := by decide +kernel
theorem dX1_keepBest_79 : decode cX1_keepBest 79 = .ok (.ior, 1) := by decide +kernel
theorem dX1_keepBest_80 : decode cX1_keepBest 80 = .ok (.istore_n 2, 1) := by decide +kernel
theorem dX1_keepBest_81 : decode cX1_keepBest 81 = .ok (.iinc 3 1, 3) := by decide +kernel
theorem dX1_keepBest_84 : decode cX1_keepBest 84 = .ok (.goto (-80), 3) := by decide +kernel
theorem dX1_keepBest_87 : decode cX1_keepBest 87 = .ok (.return_, 1) := by decide +kernel
theorem dX2_init_0 : decode cX2_init 0 = .ok (.aload_n 0, 1) := by decide +kernel
theorem dX2_init_1 : decode cX2_init 1 = .ok (.invokespecial 3, 3) := by decide +kernel
theorem dX2_init_4 : decode cX2_init 4 = .ok (.aload_n 0, 1) := by decide +kernel
theorem dX2_init_5 : decode cX2_init 5 = .ok (.bipush 12, 2) := by decide +kernel
theorem dX2_init_7 : decode cX2_init 7 = .ok (.newarray .int, 2) := by decide +kernel
theorem dX2_init_9 : decode cX2_init 9 = .ok (.putfield 11, 3) := by decide +kernel
theorem dX2_init_12 : decode cX2_init 12 = .ok (.aload_n 0, 1) := by decide +kernel
theorem dX2_init_13 : decode cX2_init 13 = .ok (.bipush 12, 2) := by decide +kernel
theorem dX2_init_15 : decode cX2_init 15 = .ok (.newarray .int, 2) := by decide +kernel
theorem dX2_init_17 : decode cX2_init 17 = .ok (.putfield 15, 3) := by decide +kernel
theorem dX2_init_20 : decode cX2_init 20 = .ok (.aload_n 0, 1) := by decide +kernel
theorem dX2_init_21 : decode cX2_init 21 = .ok (.sipush 990, 3) := by decide +kernel
theorem dX2_init_24 : decode cX2_init 24 = .ok (.putfield 18, 3) := by decide +kernel
theorem dX2_init_27 : decode cX2_init 27 = .ok (.aload_n 0, 1) := by decide +kernel
theorem dX2_init_28 : decode cX2_init 28 = .ok (.sipush 950, 3) := by decide +kernel
theorem dX2_init_31 : decode cX2_init 31 = .ok (.putfield 22, 3) := by decide +kernel
theorem dX2_init_34 : decode cX2_init 34 = .ok (.aload_n 0, 1) := by decide +kernel
theorem dX2_init_35 : decode cX2_init 35 = .ok (.bipush 50, 2) := by decide +kernel
theorem dX2_init_37 : decode cX2_init 37 = .ok (.putfield 25, 3) := by decide +kernel
theorem dX2_init_40 : decode cX2_init 40 = .ok (.return_, 1) := by decide +kernel
theorem dX2_has_0 : decode cX2_has 0 = .ok (.iload_n 1, 1) := by decide +kernel
theorem dX2_has_1 : decode cX2_has 1 = .ok (.ifCond .lt 22, 3) := by decide +kernel
theorem dX2_has_4 : decode cX2_has 4 = .ok (.iload_n 1, 1) := by decide +kernel
theorem dX2_has_5 : decode cX2_has 5 = .ok (.bipush 12, 2) := by decide +kernel
theorem dX2_has_7 : decode cX2_has 7 = .ok (.if_icmp .ge 16, 3) := by decide +kernel
theorem dX2_has_10 : decode cX2_has 10 = .ok (.aload_n 0, 1) := by decide +kernel
theorem dX2_has_11 : decode cX2_has 11 = .ok (.getfield 11, 3) := by decide +kernel
theorem dX2_has_14 : decode cX2_has 14 = .ok (.iload_n 1, 1) := by decide +kernel
theorem dX2_has_15 : decode cX2_has 15 = .ok (.iaload, 1) := by decide +kernel
theorem dX2_has_16 : decode cX2_has 16 = .ok (.ifCond .le 7, 3) := by decide +kernel
theorem dX2_has_19 : decode cX2_has 19 = .ok (.iconst 1, 1) := by decide +kernel
theorem dX2_has_20 : decode cX2_has 20 = .ok (.goto 4, 3) := by decide +kernel
theorem dX2_has_23 : decode cX2_has 23 = .ok (.iconst 0, 1) := by decide +kernel
theorem dX2_has_24 : decode cX2_has 24 = .ok (.ireturn, 1) := by decide +kernel
theorem dX2_set_0 : decode cX2_set 0 = .ok (.iload_n 1, 1) := by decide +kernel
theorem dX2_set_1 : decode cX2_set 1 = .ok (.ifCond .lt 19, 3) := by decide +kernel
theorem dX2_set_4 : decode cX2_set 4 = .ok (.iload_n 1, 1) := by decide +kernel
theorem dX2_set_5 : decode cX2_set 5 = .ok (.bipush 12, 2) := by decide +kernel
theorem dX2_set_7 : decode cX2_set 7 = .ok (.if_icmp .ge 13, 3) := by decide +kernel
theorem dX2_set_10 : decode cX2_set 10 = .ok (.iload_n 2, 1) := by decide +kernel
theorem dX2_set_11 : decode cX2_set 11 = .ok (.ifCond .lt 9, 3) := by decide +kernel
theorem dX2_set_14 : decode cX2_set 14 = .ok (.iload_n 2, 1) := by decide +kernel
theorem dX2_set_15 : decode cX2_set 15 = .ok (.ldc 28, 2) := by decide +kernel
theorem dX2_set_17 : decode cX2_set 17 = .ok (.if_icmp .le 5, 3) := by decide +kernel
theorem dX2_set_20 : decode cX2_set 20 = .ok (.iconst 0, 1) := by decide +kernel
theorem dX2_set_21 : decode cX2_set 21 = .ok (.ireturn, 1) := by decide +kernel
theorem dX2_set_22 : decode cX2_set 22 = .ok (.iload_n 2, 1) := by decide +kernel
theorem dX2_set_23 : decode cX2_set 23 = .ok (.ifCond .le 16, 3) := by decide +kernel
theorem dX2_set_26 : decode cX2_set 26 = .ok (.iload_n 3, 1) := by decide +kernel
theorem dX2_set_27 : decode cX2_set 27 = .ok (.ifCond .lt 10, 3) := by decide +kernel
theorem dX2_set_30 : decode cX2_set 30 = .ok (.iload_n 3, 1) := by decide +kernel
theorem dX2_set_31 : decode cX2_set 31 = .ok (.sipush 1000, 3) := by decide +kernel
theorem dX2_set_34 : decode cX2_set 34 = .ok (.if_icmp .le 5, 3) := by decide +kernel
theorem dX2_set_37 : decode cX2_set 37 = .ok (.iconst 0, 1) := by decide +kernel
theorem dX2_set_38 : decode cX2_set 38 = .ok (.ireturn, 1) := by decide +kernel
theorem dX2_set_39 : decode cX2_set 39 = .ok (.aload_n 0, 1) := by decide +kernel
theorem dX2_set_40 : decode cX2_set 40 = .ok (.getfield 11, 3) := by decide +kernel
theorem dX2_set_43 : decode cX2_set 43 = .ok (.iload_n 1, 1) := by decide +kernel
theorem dX2_set_44 : decode cX2_set 44 = .ok (.iload_n 2, 1) := by decide +kernel
theorem dX2_set_45 : decode cX2_set 45 = .ok (.iastore, 1) := by decide +kernel
theorem dX2_set_46 : decode cX2_set 46 = .ok (.aload_n 0, 1) := by decide +kernel
theorem dX2_set_47 : decode cX2_set 47 = .ok (.getfield 15, 3) := by decide +kernel
theorem dX2_set_50 : decode cX2_set 50 = .ok (.iload_n 1, 1) := by decide +kernel
theorem dX2_set_51 : decode cX2_set 51 = .ok (.iload_n 2, 1) := by decide +kernel
theorem dX2_set_52 : decode cX2_set 52 = .ok (.ifCond .le 7, 3) := by decide +kernel
theorem dX2_set_55 : decode cX2_set 55 = .ok (.iload_n 3, 1) := by decide +kernel
theorem dX2_set_56 : decode cX2_set 56 = .ok (.goto 4, 3) := by decide +kernel
theorem dX2_set_59 : decode cX2_set 59 = .ok (.iconst 0, 1) := by decide +kernel
theorem dX2_set_60 : decode cX2_set 60 = .ok (.iastore, 1) := by decide +kernel
theorem dX2_set_61 : decode cX2_set 61 = .ok (.iconst 1, 1) := by decide +kernel
theorem dX2_set_62 : decode cX2_set 62 = .ok (.ireturn, 1) := by decide +kernel
theorem dX2_setCopying_0 : decode cX2_setCopying 0 = .ok (.iload_n 1, 1) := by decide +kernel
theorem dX2_setCopying_1 : decode cX2_setCopying 1 = .ok (.sipush 900, 3) := by decide +kernel
theorem dX2_setCopying_4 : decode cX2_setCopying 4 = .ok (.if_icmp .lt 31, 3) := by decide +kernel
theorem dX2_setCopying_7 : decode cX2_setCopying 7 = .ok (.iload_n 1, 1) := by decide +kernel
theorem dX2_setCopying_8 : decode cX2_setCopying 8 = .ok (.sipush 1000, 3) := by decide +kernel
theorem dX2_setCopying_11 : decode cX2_setCopying 11 = .ok (.if_icmp .gt 24, 3) := by decide +kernel
theorem dX2_setCopying_14 : decode cX2_setCopying 14 = .ok (.iload_n 2, 1) := by decide +kernel
theorem dX2_setCopying_15 : decode cX2_setCopying 15 = .ok (.ifCond .lt 20, 3) := by decide +kernel
theorem dX2_setCopying_18 : decode cX2_setCopying 18 = .ok (.iload_n 2, 1) := by decide +kernel
theorem dX2_setCopying_19 : decode cX2_setCopying 19 = .ok (.sipush 1000, 3) := by decide +kernel
theorem dX2_setCopying_22 : decode cX2_setCopying 22 = .ok (.if_icmp .gt 13, 3) := by decide +kernel
theorem dX2_setCopying_25 : decode cX2_setCopying 25 = .ok (.iload_n 3, 1) := by decide +kernel
theorem dX2_setCopying_26 : decode cX2_setCopying 26 = .ok (.ifCond .lt 9, 3) := by decide +kernel
theorem dX2_setCopying_29 : decode cX2_setCopying 29 = .ok (.iload_n 3, 1) := by decide +kernel
theorem dX2_setCopying_30 : decode cX2_setCopying 30 = .ok (.ldc 28, 2) := by decide +kernel
theorem dX2_setCopying_32 : decode cX2_setCopying 32 = .ok (.if_icmp .le 5, 3) := by decide +kernel
theorem dX2_setCopying_35 : decode cX2_setCopying 35 = .ok (.iconst 0, 1) := by decide +kernel
theorem dX2_setCopying_36 : decode cX2_setCopying 36 = .ok (.ireturn, 1) := by decide +kernel
theorem dX2_setCopying_37 : decode cX2_setCopying 37 = .ok (.aload_n 0, 1) := by decide +kernel
theorem dX2_setCopying_38 : decode cX2_setCopying 38 = .ok (.iload_n 1, 1) := by decide +kernel
theorem dX2_setCopying_39 : decode cX2_setCopying 39 = .ok (.putfield 18, 3) := by decide +kernel
theorem dX2_setCopying_42 : decode cX2_setCopying 42 = .ok (.aload_n 0, 1) := by decide +kernel
theorem dX2_setCopying_43 : decode cX2_setCopying 43 = .ok (.iload_n 2, 1) := by decide +kernel
theorem dX2_setCopying_44 : decode cX2_setCopying 44 = .ok (.putfield 22, 3) := by decide +kernel
theorem dX2_setCopying_47 : decode cX2_setCopying 47 = .ok (.aload_n 0, 1) := by decide +kernel
theorem dX2_setCopying_48 : decode cX2_setCopying 48 = .ok (.iload_n 3, 1) := by decide +kernel
theorem dX2_setCopying_49 : decode cX2_setCopying 49 = .ok (.putfield 25, 3) := by decide +kernel
theorem dX2_setCopying_52 : decode cX2_setCopying 52 = .ok (.iconst 1, 1) := by decide +kernel
theorem dX2_setCopying_53 : decode cX2_setCopying 53 = .ok (.ireturn, 1) := by decide +kernel
theorem dX2_motherOf_0 : decode cX2_motherOf 0 = .ok (.iconst (-1), 1) := by decide +kernel
theorem dX2_motherOf_1 : decode cX2_motherOf 1 = .ok (.istore_n 2, 1) := by decide +kernel
theorem dX2_motherOf_2 : decode cX2_motherOf 2 = .ok (.aload_n 0, 1) := by decide +kernel
theorem dX2_motherOf_3 : decode cX2_motherOf 3 = .ok (.getfield 25, 3) := by decide +kernel
theorem dX2_motherOf_6 : decode cX2_motherOf 6 = .ok (.iconst 1, 1) := by decide +kernel
theorem dX2_motherOf_7 : decode cX2_motherOf 7 = .ok (.iadd, 1) := by decide +kernel
theorem dX2_motherOf_8 : decode cX2_motherOf 8 = .ok (.istore_n 3, 1) := by decide +kernel
theorem dX2_motherOf_9 : decode cX2_motherOf 9 = .ok (.iconst 0, 1) := by decide +kernel
theorem dX2_motherOf_10 : decode cX2_motherOf 10 = .ok (.istore 4, 2) := by decide +kernel
theorem dX2_motherOf_12 : decode cX2_motherOf 12 = .ok (.iload 4, 2) := by decide +kernel
theorem dX2_motherOf_14 : decode cX2_motherOf 14 = .ok (.bipush 12, 2) := by decide +kernel
theorem dX2_motherOf_16 : decode cX2_motherOf 16 = .ok (.if_icmp .ge 40, 3) := by decide +kernel
theorem dX2_motherOf_19 : decode cX2_motherOf 19 = .ok (.aload_n 0, 1) := by decide +kernel
theorem dX2_motherOf_20 : decode cX2_motherOf 20 = .ok (.iload 4, 2) := by decide +kernel
theorem dX2_motherOf_22 : decode cX2_motherOf 22 = .ok (.iload_n 1, 1) := by decide +kernel
theorem dX2_motherOf_23 : decode cX2_motherOf 23 = .ok (.invokevirtual 29, 3) := by decide +kernel
theorem dX2_motherOf_26 : decode cX2_motherOf 26 = .ok (.ifCond .eq 24, 3) := by decide +kernel
theorem dX2_motherOf_29 : decode cX2_motherOf 29 = .ok (.aload_n 0, 1) := by decide +kernel
theorem dX2_motherOf_30 : decode cX2_motherOf 30 = .ok (.iload_n 1, 1) := by decide +kernel
theorem dX2_motherOf_31 : decode cX2_motherOf 31 = .ok (.iload 4, 2) := by decide +kernel
theorem dX2_motherOf_33 : decode cX2_motherOf 33 = .ok (.invokevirtual 33, 3) := by decide +kernel
theorem dX2_motherOf_36 : decode cX2_motherOf 36 = .ok (.istore 5, 2) := by decide +kernel
theorem dX2_motherOf_38 : decode cX2_motherOf 38 = .ok (.iload 5, 2) := by decide +kernel
theorem dX2_motherOf_40 : decode cX2_motherOf 40 = .ok (.iload_n 3, 1) := by decide +kernel
theorem dX2_motherOf_41 : decode cX2_motherOf 41 = .ok (.if_icmp .ge 9, 3) := by decide +kernel
theorem dX2_motherOf_44 : decode cX2_motherOf 44 = .ok (.iload 5, 2) := by decide +kernel
theorem dX2_motherOf_46 : decode cX2_motherOf 46 = .ok (.istore_n 3, 1) := by decide +kernel
theorem dX2_motherOf_47 : decode cX2_motherOf 47 = .ok (.iload 4, 2) := by decide +kernel
theorem dX2_motherOf_49 : decode cX2_motherOf 49 = .ok (.istore_n 2, 1) := by decide +kernel
theorem dX2_motherOf_50 : decode cX2_motherOf 50 = .ok (.iinc 4 1, 3) := by decide +kernel
theorem dX2_motherOf_53 : decode cX2_motherOf 53 = .ok (.goto (-41), 3) := by decide +kernel
theorem dX2_motherOf_56 : decode cX2_motherOf 56 = .ok (.iload_n 2, 1) := by decide +kernel
theorem dX2_motherOf_57 : decode cX2_motherOf 57 = .ok (.ireturn, 1) := by decide +kernel
theorem dX2_stepsFrom_0 : decode cX2_stepsFrom 0 = .ok (.iconst 0, 1) := by decide +kernel
theorem dX2_stepsFrom_1 : decode cX2_stepsFrom 1 = .ok (.istore_n 2, 1) := by decide +kernel
theorem dX2_stepsFrom_2 : decode cX2_stepsFrom 2 = .ok (.aload_n 0, 1) := by decide +kernel
theorem dX2_stepsFrom_3 : decode cX2_stepsFrom 3 = .ok (.iload_n 1, 1) := by decide +kernel
theorem dX2_stepsFrom_4 : decode cX2_stepsFrom 4 = .ok (.invokevirtual 37, 3) := by decide +kernel
theorem dX2_stepsFrom_7 : decode cX2_stepsFrom 7 = .ok (.istore_n 3, 1) := by decide +kernel
theorem dX2_stepsFrom_8 : decode cX2_stepsFrom 8 = .ok (.iconst 0, 1) := by decide +kernel
theorem dX2_stepsFrom_9 : decode cX2_stepsFrom 9 = .ok (.istore 4, 2) := by decide +kernel
theorem dX2_stepsFrom_11 : decode cX2_stepsFrom 11 = .ok (.iload 4, 2) := by decide +kernel
theorem dX2_stepsFrom_13 : decode cX2_stepsFrom 13 = .ok (.bipush 12, 2) := by decide +kernel
theorem dX2_stepsFrom_15 : decode cX2_stepsFrom 15 = .ok (.if_icmp .ge 23, 3) := by decide +kernel
theorem dX2_stepsFrom_18 : decode cX2_stepsFrom 18 = .ok (.iload_n 3, 1) := by decide +kernel
theorem dX2_stepsFrom_19 : decode cX2_stepsFrom 19 = .ok (.iconst (-1), 1) := by decide +kernel
theorem dX2_stepsFrom_20 : decode cX2_stepsFrom 20 = .ok (.if_icmp .eq 18, 3) := by decide +kernel
theorem dX2_stepsFrom_23 : decode cX2_stepsFrom 23 = .ok (.iinc 2 1, 3) := by decide +kernel
theorem dX2_stepsFrom_26 : decode cX2_stepsFrom 26 = .ok (.aload_n 0, 1) := by decide +kernel
theorem dX2_stepsFrom_27 : decode cX2_stepsFrom 27 = .ok (.iload_n 3, 1) := by decide +kernel
theorem dX2_stepsFrom_28 : decode cX2_stepsFrom 28 = .ok (.invokevirtual 37, 3) := by decide +kernel
theorem dX2_stepsFrom_31 : decode cX2_stepsFrom 31 = .ok (.istore_n 3, 1) := by decide +kernel
theorem dX2_stepsFrom_32 : decode cX2_stepsFrom 32 = .ok (.iinc 4 1, 3) := by decide +kernel
theorem dX2_stepsFrom_35 : decode cX2_stepsFrom 35 = .ok (.goto (-24), 3) := by decide +kernel
theorem dX2_stepsFrom_38 : decode cX2_stepsFrom 38 = .ok (.iload_n 2, 1) := by decide +kernel
theorem dX2_stepsFrom_39 : decode cX2_stepsFrom 39 = .ok (.ireturn, 1) := by decide +kernel
theorem dX2_countMotherless_0 : decode cX2_countMotherless 0 = .ok (.iconst 0, 1) := by decide +kernel
theorem dX2_countMotherless_1 : decode cX2_countMotherless 1 = .ok (.istore_n 1, 1) := by decide +kernel
theorem dX2_countMotherless_2 : decode cX2_countMotherless 2 = .ok (.iconst 0, 1) := by decide +kernel
theorem dX2_countMotherless_3 : decode cX2_countMotherless 3 = .ok (.istore_n 2, 1) := by decide +kernel
theorem dX2_countMotherless_4 : decode cX2_countMotherless 4 = .ok (.iload_n 2, 1) := by decide +kernel
theorem dX2_countMotherless_5 : decode cX2_countMotherless 5 = .ok (.bipush 12, 2) := by decide +kernel
theorem dX2_countMotherless_7 : decode cX2_countMotherless 7 = .ok (.if_icmp .ge 34, 3) := by decide +kernel
theorem dX2_countMotherless_10 : decode cX2_countMotherless 10 = .ok (.iload_n 1, 1) := by decide +kernel
theorem dX2_countMotherless_11 : decode cX2_countMotherless 11 = .ok (.aload_n 0, 1) := by decide +kernel
theorem dX2_countMotherless_12 : decode cX2_countMotherless 12 = .ok (.iload_n 2, 1) := by decide +kernel
theorem dX2_countMotherless_13 : decode cX2_countMotherless 13 = .ok (.invokevirtual 41, 3) := by decide +kernel
theorem dX2_countMotherless_16 : decode cX2_countMotherless 16 = .ok (.ifCond .eq 16, 3) := by decide +kernel
theorem dX2_countMotherless_19 : decode cX2_countMotherless 19 = .ok (.aload_n 0, 1) := by decide +kernel
theorem dX2_countMotherless_20 : decode cX2_countMotherless 20 = .ok (.iload_n 2, 1) := by decide +kernel
theorem dX2_countMotherless_21 : decode cX2_countMotherless 21 = .ok (.invokevirtual 37, 3) := by decide +kernel
theorem dX2_countMotherless_24 : decode cX2_countMotherless 24 = .ok (.iconst (-1), 1) := by decide +kernel
theorem dX2_countMotherless_25 : decode cX2_countMotherless 25 = .ok (.if_icmp .ne 7, 3) := by decide +kernel
theorem dX2_countMotherless_28 : decode cX2_countMotherless 28 = .ok (.iconst 1, 1) := by decide +kernel
theorem dX2_countMotherless_29 : decode cX2_countMotherless 29 = .ok (.goto 4, 3) := by decide +kernel
theorem dX2_countMotherless_32 : decode cX2_countMotherless 32 = .ok (.iconst 0, 1) := by decide +kernel
theorem dX2_countMotherless_33 : decode cX2_countMotherless 33 = .ok (.iadd, 1) := by decide +kernel
theorem dX2_countMotherless_34 : decode cX2_countMotherless 34 = .ok (.istore_n 1, 1) := by decide +kernel
theorem dX2_countMotherless_35 : decode cX2_countMotherless 35 = .ok (.iinc 2 1, 3) := by decide +kernel
theorem dX2_countMotherless_38 : decode cX2_countMotherless 38 = .ok (.goto (-34), 3) := by decide +kernel
theorem dX2_countMotherless_41 : decode cX2_countMotherless 41 = .ok (.iload_n 1, 1) := by decide +kernel
theorem dX2_countMotherless_42 : decode cX2_countMotherless 42 = .ok (.ireturn, 1) := by decide +kernel
theorem dX2_sumQuarrels_0 : decode cX2_sumQuarrels 0 = .ok (.iconst 0, 1) := by decide +kernel
theorem dX2_sumQuarrels_1 : decode cX2_sumQuarrels 1 = .ok (.istore_n 1, 1) := by decide +kernel
theorem dX2_sumQuarrels_2 : decode cX2_sumQuarrels 2 = .ok (.iconst 0, 1) := by decide +kernel
theorem dX2_sumQuarrels_3 : decode cX2_sumQuarrels 3 = .ok (.istore_n 2, 1) := by decide +kernel
theorem dX2_sumQuarrels_4 : decode cX2_sumQuarrels 4 = .ok (.iload_n 2, 1) := by decide +kernel
theorem dX2_sumQuarrels_5 : decode cX2_sumQuarrels 5 = .ok (.bipush 12, 2) := by decide +kernel
theorem dX2_sumQuarrels_7 : decode cX2_sumQuarrels 7 = .ok (.if_icmp .ge 33, 3) := by decide +kernel
theorem dX2_sumQuarrels_10 : decode cX2_sumQuarrels 10 = .ok (.aload_n 0, 1) := by decide +kernel
theorem dX2_sumQuarrels_11 : decode cX2_sumQuarrels 11 = .ok (.iload_n 2, 1) := by decide +kernel
theorem dX2_sumQuarrels_12 : decode cX2_sumQuarrels 12 = .ok (.invokevirtual 37, 3) := by decide +kernel
theorem dX2_sumQuarrels_15 : decode cX2_sumQuarrels 15 = .ok (.istore_n 3, 1) := by decide +kernel
theorem dX2_sumQuarrels_16 : decode cX2_sumQuarrels 16 = .ok (.iload_n 1, 1) := by decide +kernel
theorem dX2_sumQuarrels_17 : decode cX2_sumQuarrels 17 = .ok (.iload_n 3, 1) := by decide +kernel
theorem dX2_sumQuarrels_18 : decode cX2_sumQuarrels 18 = .ok (.iconst (-1), 1) := by decide +kernel
theorem dX2_sumQuarrels_19 : decode cX2_sumQuarrels 19 = .ok (.if_icmp .ne 7, 3) := by decide +kernel
theorem dX2_sumQuarrels_22 : decode cX2_sumQuarrels 22 = .ok (.iconst 0, 1) := by decide +kernel
theorem dX2_sumQuarrels_23 : decode cX2_sumQuarrels 23 = .ok (.goto 9, 3) := by decide +kernel
theorem dX2_sumQuarrels_26 : decode cX2_sumQuarrels 26 = .ok (.aload_n 0, 1) := by decide +kernel
theorem dX2_sumQuarrels_27 : decode cX2_sumQuarrels 27 = .ok (.iload_n 2, 1) := by decide +kernel
theorem dX2_sumQuarrels_28 : decode cX2_sumQuarrels 28 = .ok (.iload_n 3, 1) := by decide +kernel
theorem dX2_sumQuarrels_29 : decode cX2_sumQuarrels 29 = .ok (.invokevirtual 33, 3) := by decide +kernel
theorem dX2_sumQuarrels_32 : decode cX2_sumQuarrels 32 = .ok (.iadd, 1) := by decide +kernel
theorem dX2_sumQuarrels_33 : decode cX2_sumQuarrels 33 = .ok (.istore_n 1, 1) := by decide +kernel
theorem dX2_sumQuarrels_34 : decode cX2_sumQuarrels 34 = .ok (.iinc 2 1, 3) := by decide +kernel
theorem dX2_sumQuarrels_37 : decode cX2_sumQuarrels 37 = .ok (.goto (-33), 3) := by decide +kernel
theorem dX2_sumQuarrels_40 : decode cX2_sumQuarrels 40 = .ok (.iload_n 1, 1) := by decide +kernel
theorem dX2_sumQuarrels_41 : decode cX2_sumQuarrels 41 = .ok (.ireturn, 1) := by decide +kernel
theorem dX2_canBeMother_0 : decode cX2_canBeMother 0 = .ok (.aload_n 0, 1) := by decide +kernel
theorem dX2_canBeMother_1 : decode cX2_canBeMother 1 = .ok (.iload_n 1, 1) := by decide +kernel
theorem dX2_canBeMother_2 : decode cX2_canBeMother 2 = .ok (.invokevirtual 41, 3) := by decide +kernel
theorem dX2_canBeMother_5 : decode cX2_canBeMother 5 = .ok (.ifCond .eq 60, 3) := by decide +kernel
theorem dX2_canBeMother_8 : decode cX2_canBeMother 8 = .ok (.aload_n 0, 1) := by decide +kernel
theorem dX2_canBeMother_9 : decode cX2_canBeMother 9 = .ok (.iload_n 2, 1) := by decide +kernel
theorem dX2_canBeMother_10 : decode cX2_canBeMother 10 = .ok (.invokevirtual 41, 3) := by decide +kernel
theorem dX2_canBeMother_13 : decode cX2_canBeMother 13 = .ok (.ifCond .eq 52, 3) := by decide +kernel
theorem dX2_canBeMother_16 : decode cX2_canBeMother 16 = .ok (.aload_n 0, 1) := by decide +kernel
theorem dX2_canBeMother_17 : decode cX2_canBeMother 17 = .ok (.getfield 11, 3) := by decide +kernel
theorem dX2_canBeMother_20 : decode cX2_canBeMother 20 = .ok (.iload_n 1, 1) := by decide +kernel
theorem dX2_canBeMother_21 : decode cX2_canBeMother 21 = .ok (.iaload, 1) := by decide +kernel
theorem dX2_canBeMother_22 : decode cX2_canBeMother 22 = .ok (.aload_n 0, 1) := by decide +kernel
theorem dX2_canBeMother_23 : decode cX2_canBeMother 23 = .ok (.getfield 11, 3) := by decide +kernel
theorem dX2_canBeMother_26 : decode cX2_canBeMother 26 = .ok (.iload_n 2, 1) := by decide +kernel
theorem dX2_canBeMother_27 : decode cX2_canBeMother 27 = .ok (.iaload, 1) := by decide +kernel
theorem dX2_canBeMother_28 : decode cX2_canBeMother 28 = .ok (.if_icmp .gt 33, 3) := by decide +kernel
theorem dX2_canBeMother_31 : decode cX2_canBeMother 31 = .ok (.aload_n 0, 1) := by decide +kernel
theorem dX2_canBeMother_32 : decode cX2_canBeMother 32 = .ok (.getfield 11, 3) := by decide +kernel
theorem dX2_canBeMother_35 : decode cX2_canBeMother 35 = .ok (.iload_n 1, 1) := by decide +kernel
theorem dX2_canBeMother_36 : decode cX2_canBeMother 36 = .ok (.iaload, 1) := by decide +kernel
theorem dX2_canBeMother_37 : decode cX2_canBeMother 37 = .ok (.aload_n 0, 1) := by decide +kernel
theorem dX2_canBeMother_38 : decode cX2_canBeMother 38 = .ok (.getfield 11, 3) := by decide +kernel
theorem dX2_canBeMother_41 : decode cX2_canBeMother 41 = .ok (.iload_n 2, 1) := by decide +kernel
theorem dX2_canBeMother_42 : decode cX2_canBeMother 42 = .ok (.iaload, 1) := by decide +kernel
theorem dX2_canBeMother_43 : decode cX2_canBeMother 43 = .ok (.if_icmp .ne 22, 3) := by decide +kernel
theorem dX2_canBeMother_46 : decode cX2_canBeMother 46 = .ok (.aload_n 0, 1) := by decide +kernel
theorem dX2_canBeMother_47 : decode cX2_canBeMother 47 = .ok (.getfield 15, 3) := by decide +kernel
theorem dX2_canBeMother_50 : decode cX2_canBeMother 50 = .ok (.iload_n 1, 1) := by decide +kernel
theorem dX2_canBeMother_51 : decode cX2_canBeMother 51 = .ok (.iaload, 1) := by decide +kernel
theorem dX2_canBeMother_52 : decode cX2_canBeMother 52 = .ok (.aload_n 0, 1) := by decide +kernel
theorem dX2_canBeMother_53 : decode cX2_canBeMother 53 = .ok (.getfield 15, 3) := by decide +kernel
theorem dX2_canBeMother_56 : decode cX2_canBeMother 56 = .ok (.iload_n 2, 1) := by decide +kernel
theorem dX2_canBeMother_57 : decode cX2_canBeMother 57 = .ok (.iaload, 1) := by decide +kernel
theorem dX2_canBeMother_58 : decode cX2_canBeMother 58 = .ok (.if_icmp .le 7, 3) := by decide +kernel
theorem dX2_canBeMother_61 : decode cX2_canBeMother 61 = .ok (.iconst 1, 1) := by decide +kernel
theorem dX2_canBeMother_62 : decode cX2_canBeMother 62 = .ok (.goto 4, 3) := by decide +kernel
theorem dX2_canBeMother_65 : decode cX2_canBeMother 65 = .ok (.iconst 0, 1) := by decide +kernel
theorem dX2_canBeMother_66 : decode cX2_canBeMother 66 = .ok (.ireturn, 1) := by decide +kernel
theorem dX2_quarrelOf_0 : decode cX2_quarrelOf 0 = .ok (.aload_n 0, 1) := by decide +kernel
theorem dX2_quarrelOf_1 : decode cX2_quarrelOf 1 = .ok (.iload_n 1, 1) := by decide +kernel
theorem dX2_quarrelOf_2 : decode cX2_quarrelOf 2 = .ok (.invokevirtual 41, 3) := by decide +kernel
theorem dX2_quarrelOf_5 : decode cX2_quarrelOf 5 = .ok (.ifCond .eq 11, 3) := by decide +kernel
theorem dX2_quarrelOf_8 : decode cX2_quarrelOf 8 = .ok (.aload_n 0, 1) := by decide +kernel
theorem dX2_quarrelOf_9 : decode cX2_quarrelOf 9 = .ok (.iload_n 2, 1) := by decide +kernel
theorem dX2_quarrelOf_10 : decode cX2_quarrelOf 10 = .ok (.invokevirtual 41, 3) := by decide +kernel
theorem dX2_quarrelOf_13 : decode cX2_quarrelOf 13 = .ok (.ifCond .ne 5, 3) := by decide +kernel
theorem dX2_quarrelOf_16 : decode cX2_quarrelOf 16 = .ok (.iconst 0, 1) := by decide +kernel
theorem dX2_quarrelOf_17 : decode cX2_quarrelOf 17 = .ok (.ireturn, 1) := by decide +kernel
theorem dX2_quarrelOf_18 : decode cX2_quarrelOf 18 = .ok (.aload_n 0, 1) := by decide +kernel
theorem dX2_quarrelOf_19 : decode cX2_quarrelOf 19 = .ok (.getfield 11, 3) := by decide +kernel
theorem dX2_quarrelOf_22 : decode cX2_quarrelOf 22 = .ok (.iload_n 1, 1) := by decide +kernel
theorem dX2_quarrelOf_23 : decode cX2_quarrelOf 23 = .ok (.iaload, 1) := by decide +kernel
theorem dX2_quarrelOf_24 : decode cX2_quarrelOf 24 = .ok (.aload_n 0, 1) := by decide +kernel
theorem dX2_quarrelOf_25 : decode cX2_quarrelOf 25 = .ok (.getfield 11, 3) := by decide +kernel
theorem dX2_quarrelOf_28 : decode cX2_quarrelOf 28 = .ok (.iload_n 2, 1) := by decide +kernel
theorem dX2_quarrelOf_29 : decode cX2_quarrelOf 29 = .ok (.iaload, 1) := by decide +kernel
theorem dX2_quarrelOf_30 : decode cX2_quarrelOf 30 = .ok (.aload_n 0, 1) := by decide +kernel
theorem dX2_quarrelOf_31 : decode cX2_quarrelOf 31 = .ok (.getfield 18, 3) := by decide +kernel
theorem dX2_quarrelOf_34 : decode cX2_quarrelOf 34 = .ok (.imul, 1) := by decide +kernel
theorem dX2_quarrelOf_35 : decode cX2_quarrelOf 35 = .ok (.sipush 1000, 3) := by decide +kernel
theorem dX2_quarrelOf_38 : decode cX2_quarrelOf 38 = .ok (.idiv, 1) := by decide +kernel
theorem dX2_quarrelOf_39 : decode cX2_quarrelOf 39 = .ok (.isub, 1) := by decide +kernel
theorem dX2_quarrelOf_40 : decode cX2_quarrelOf 40 = .ok (.invokestatic 45, 3) := by decide +kernel
theorem dX2_quarrelOf_43 : decode cX2_quarrelOf 43 = .ok (.istore_n 3, 1) := by decide +kernel
theorem dX2_quarrelOf_44 : decode cX2_quarrelOf 44 = .ok (.aload_n 0, 1) := by decide +kernel
theorem dX2_quarrelOf_45 : decode cX2_quarrelOf 45 = .ok (.getfield 15, 3) := by decide +kernel
theorem dX2_quarrelOf_48 : decode cX2_quarrelOf 48 = .ok (.iload_n 1, 1) := by decide +kernel
theorem dX2_quarrelOf_49 : decode cX2_quarrelOf 49 = .ok (.iaload, 1) := by decide +kernel
theorem dX2_quarrelOf_50 : decode cX2_quarrelOf 50 = .ok (.aload_n 0, 1) := by decide +kernel
theorem dX2_quarrelOf_51 : decode cX2_quarrelOf 51 = .ok (.getfield 15, 3) := by decide +kernel
theorem dX2_quarrelOf_54 : decode cX2_quarrelOf 54 = .ok (.iload_n 2, 1) := by decide +kernel
theorem dX2_quarrelOf_55 : decode cX2_quarrelOf 55 = .ok (.iaload, 1) := by decide +kernel
theorem dX2_quarrelOf_56 : decode cX2_quarrelOf 56 = .ok (.aload_n 0, 1) := by decide +kernel
theorem dX2_quarrelOf_57 : decode cX2_quarrelOf 57 = .ok (.getfield 22, 3) := by decide +kernel
theorem dX2_quarrelOf_60 : decode cX2_quarrelOf 60 = .ok (.imul, 1) := by decide +kernel
theorem dX2_quarrelOf_61 : decode cX2_quarrelOf 61 = .ok (.sipush 1000, 3) := by decide +kernel
theorem dX2_quarrelOf_64 : decode cX2_quarrelOf 64 = .ok (.idiv, 1) := by decide +kernel
theorem dX2_quarrelOf_65 : decode cX2_quarrelOf 65 = .ok (.isub, 1) := by decide +kernel
theorem dX2_quarrelOf_66 : decode cX2_quarrelOf 66 = .ok (.invokestatic 45, 3) := by decide +kernel
theorem dX2_quarrelOf_69 : decode cX2_quarrelOf 69 = .ok (.istore 4, 2) := by decide +kernel
theorem dX2_quarrelOf_71 : decode cX2_quarrelOf 71 = .ok (.iload_n 3, 1) := by decide +kernel
theorem dX2_quarrelOf_72 : decode cX2_quarrelOf 72 = .ok (.iload 4, 2) := by decide +kernel
theorem dX2_quarrelOf_74 : decode cX2_quarrelOf 74 = .ok (.iadd, 1) := by decide +kernel
theorem dX2_quarrelOf_75 : decode cX2_quarrelOf 75 = .ok (.ireturn, 1) := by decide +kernel
theorem dX3_init_0 : decode cX3_init 0 = .ok (.aload_n 0, 1) := by decide +kernel
theorem dX3_init_1 : decode cX3_init 1 = .ok (.invokespecial 3, 3) := by decide +kernel
theorem dX3_init_4 : decode cX3_init 4 = .ok (.aload_n 0, 1) := by decide +kernel
theorem dX3_init_5 : decode cX3_init 5 = .ok (.sipush 1000, 3) := by decide +kernel
theorem dX3_init_8 : decode cX3_init 8 = .ok (.newarray .int, 2) := by decide +kernel
theorem dX3_init_10 : decode cX3_init 10 = .ok (.putfield 11, 3) := by decide +kernel
theorem dX3_init_13 : decode cX3_init 13 = .ok (.aload_n 0, 1) := by decide +kernel
theorem dX3_init_14 : decode cX3_init 14 = .ok (.sipush 1000, 3) := by decide +kernel
theorem dX3_init_17 : decode cX3_init 17 = .ok (.newarray .int, 2) := by decide +kernel
theorem dX3_init_19 : decode cX3_init 19 = .ok (.putfield 17, 3) := by decide +kernel
theorem dX3_init_22 : decode cX3_init 22 = .ok (.aload_n 0, 1) := by decide +kernel
theorem dX3_init_23 : decode cX3_init 23 = .ok (.aload_n 1, 1) := by decide +kernel
theorem dX3_init_24 : decode cX3_init 24 = .ok (.putfield 20, 3) := by decide +kernel
theorem dX3_init_27 : decode cX3_init 27 = .ok (.return_, 1) := by decide +kernel
theorem dX3_makeAnew_0 : decode cX3_makeAnew 0 = .ok (.aload_n 0, 1) := by decide +kernel
theorem dX3_makeAnew_1 : decode cX3_makeAnew 1 = .ok (.getfield 17, 3) := by decide +kernel
theorem dX3_makeAnew_4 : decode cX3_makeAnew 4 = .ok (.iconst 0, 1) := by decide +kernel
theorem dX3_makeAnew_5 : decode cX3_makeAnew 5 = .ok (.invokestatic 24, 3) := by decide +kernel
theorem dX3_makeAnew_8 : decode cX3_makeAnew 8 = .ok (.aload_n 0, 1) := by decide +kernel
theorem dX3_makeAnew_9 : decode cX3_makeAnew 9 = .ok (.iconst 0, 1) := by decide +kernel
theorem dX3_makeAnew_10 : decode cX3_makeAnew 10 = .ok (.putfield 30, 3) := by decide +kernel
theorem dX3_makeAnew_13 : decode cX3_makeAnew 13 = .ok (.iconst (-1), 1) := by decide +kernel
theorem dX3_makeAnew_14 : decode cX3_makeAnew 14 = .ok (.istore_n 1, 1) := by decide +kernel
theorem dX3_makeAnew_15 : decode cX3_makeAnew 15 = .ok (.iload_n 1, 1) := by decide +kernel
theorem dX3_makeAnew_16 : decode cX3_makeAnew 16 = .ok (.aload_n 0, 1) := by decide +kernel
theorem dX3_makeAnew_17 : decode cX3_makeAnew 17 = .ok (.getfield 20, 3) := by decide +kernel
theorem dX3_makeAnew_20 : decode cX3_makeAnew 20 = .ok (.getfield 34, 3) := by decide +kernel
theorem dX3_makeAnew_23 : decode cX3_makeAnew 23 = .ok (.if_icmp .gt 58, 3) := by decide +kernel
theorem dX3_makeAnew_26 : decode cX3_makeAnew 26 = .ok (.iconst (-1), 1) := by decide +kernel
theorem dX3_makeAnew_27 : decode cX3_makeAnew 27 = .ok (.istore_n 2, 1) := by decide +kernel
theorem dX3_makeAnew_28 : decode cX3_makeAnew 28 = .ok (.iload_n 2, 1) := by decide +kernel
theorem dX3_makeAnew_29 : decode cX3_makeAnew 29 = .ok (.aload_n 0, 1) := by decide +kernel
theorem dX3_makeAnew_30 : decode cX3_makeAnew 30 = .ok (.getfield 20, 3) := by decide +kernel
theorem dX3_makeAnew_33 : decode cX3_makeAnew 33 = .ok (.getfield 37, 3) := by decide +kernel
theorem dX3_makeAnew_36 : decode cX3_makeAnew 36 = .ok (.if_icmp .gt 39, 3) := by decide +kernel
theorem dX3_makeAnew_39 : decode cX3_makeAnew 39 = .ok (.iconst (-1), 1) := by decide +kernel
theorem dX3_makeAnew_40 : decode cX3_makeAnew 40 = .ok (.istore_n 3, 1) := by decide +kernel
theorem dX3_makeAnew_41 : decode cX3_makeAnew 41 = .ok (.iload_n 3, 1) := by decide +kernel
theorem dX3_makeAnew_42 : decode cX3_makeAnew 42 = .ok (.aload_n 0, 1) := by decide +kernel
theorem dX3_makeAnew_43 : decode cX3_makeAnew 43 = .ok (.getfield 20, 3) := by decide +kernel
theorem dX3_makeAnew_46 : decode cX3_makeAnew 46 = .ok (.getfield 40, 3) := by decide +kernel
theorem dX3_makeAnew_49 : decode cX3_makeAnew 49 = .ok (.if_icmp .gt 20, 3) := by decide +kernel
theorem dX3_makeAnew_52 : decode cX3_makeAnew 52 = .ok (.aload_n 0, 1) := by decide +kernel
theorem dX3_makeAnew_53 : decode cX3_makeAnew 53 = .ok (.aload_n 0, 1) := by decide +kernel
theorem dX3_makeAnew_54 : decode cX3_makeAnew 54 = .ok (.iload_n 3, 1) := by decide +kernel
theorem dX3_makeAnew_55 : decode cX3_makeAnew 55 = .ok (.iload_n 2, 1) := by decide +kernel
theorem dX3_makeAnew_56 : decode cX3_makeAnew 56 = .ok (.iload_n 1, 1) := by decide +kernel
theorem dX3_makeAnew_57 : decode cX3_makeAnew 57 = .ok (.invokevirtual 43, 3) := by decide +kernel
theorem dX3_makeAnew_60 : decode cX3_makeAnew 60 = .ok (.invokevirtual 47, 3) := by decide +kernel
theorem dX3_makeAnew_63 : decode cX3_makeAnew 63 = .ok (.iinc 3 1, 3) := by decide +kernel
theorem dX3_makeAnew_66 : decode cX3_makeAnew 66 = .ok (.goto (-25), 3) := by decide +kernel
theorem dX3_makeAnew_69 : decode cX3_makeAnew 69 = .ok (.iinc 2 1, 3) := by decide +kernel
theorem dX3_makeAnew_72 : decode cX3_makeAnew 72 = .ok (.goto (-44), 3) := by decide +kernel
theorem dX3_makeAnew_75 : decode cX3_makeAnew 75 = .ok (.iinc 1 1, 3) := by decide +kernel
theorem dX3_makeAnew_78 : decode cX3_makeAnew 78 = .ok (.goto (-63), 3) := by decide +kernel
theorem dX3_makeAnew_81 : decode cX3_makeAnew 81 = .ok (.iconst 0, 1) := by decide +kernel
theorem dX3_makeAnew_82 : decode cX3_makeAnew 82 = .ok (.istore_n 1, 1) := by decide +kernel
theorem dX3_makeAnew_83 : decode cX3_makeAnew 83 = .ok (.iload_n 1, 1) := by decide +kernel
theorem dX3_makeAnew_84 : decode cX3_makeAnew 84 = .ok (.aload_n 0, 1) := by decide +kernel
theorem dX3_makeAnew_85 : decode cX3_makeAnew 85 = .ok (.getfield 30, 3) := by decide +kernel
theorem dX3_makeAnew_88 : decode cX3_makeAnew 88 = .ok (.if_icmp .ge 19, 3) := by decide +kernel
theorem dX3_makeAnew_91 : decode cX3_makeAnew 91 = .ok (.aload_n 0, 1) := by decide +kernel
theorem dX3_makeAnew_92 : decode cX3_makeAnew 92 = .ok (.aload_n 0, 1) := by decide +kernel
theorem dX3_makeAnew_93 : decode cX3_makeAnew 93 = .ok (.getfield 11, 3) := by decide +kernel
theorem dX3_makeAnew_96 : decode cX3_makeAnew 96 = .ok (.iload_n 1, 1) := by decide +kernel
theorem dX3_makeAnew_97 : decode cX3_makeAnew 97 = .ok (.iaload, 1) := by decide +kernel
theorem dX3_makeAnew_98 : decode cX3_makeAnew 98 = .ok (.invokevirtual 51, 3) := by decide +kernel
theorem dX3_makeAnew_101 : decode cX3_makeAnew 101 = .ok (.iinc 1 1, 3) := by decide +kernel
theorem dX3_makeAnew_104 : decode cX3_makeAnew 104 = .ok (.goto (-21), 3) := by decide +kernel
theorem dX3_makeAnew_107 : decode cX3_makeAnew 107 = .ok (.return_, 1) := by decide +kernel
theorem dX3_size_0 : decode cX3_size 0 = .ok (.aload_n 0, 1) := by decide +kernel
theorem dX3_size_1 : decode cX3_size 1 = .ok (.getfield 30, 3) := by decide +kernel
theorem dX3_size_4 : decode cX3_size 4 = .ok (.ireturn, 1) := by decide +kernel
theorem dX3_member_0 : decode cX3_member 0 = .ok (.iload_n 1, 1) := by decide +kernel
theorem dX3_member_1 : decode cX3_member 1 = .ok (.ifCond .lt 20, 3) := by decide +kernel
theorem dX3_member_4 : decode cX3_member 4 = .ok (.iload_n 1, 1) := by decide +kernel
theorem dX3_member_5 : decode cX3_member 5 = .ok (.aload_n 0, 1) := by decide +kernel
theorem dX3_member_6 : decode cX3_member 6 = .ok (.getfield 30, 3) := by decide +kernel
theorem dX3_member_9 : decode cX3_member 9 = .ok (.if_icmp .ge 12, 3) := by decide +kernel
theorem dX3_member_12 : decode cX3_member 12 = .ok (.aload_n 0, 1) := by decide +kernel
theorem dX3_member_13 : decode cX3_member 13 = .ok (.getfield 11, 3) := by decide +kernel
theorem dX3_member_16 : decode cX3_member 16 = .ok (.iload_n 1, 1) := by decide +kernel
theorem dX3_member_17 : decode cX3_member 17 = .ok (.iaload, 1) := by decide +kernel
theorem dX3_member_18 : decode cX3_member 18 = .ok (.goto 4, 3) := by decide +kernel
theorem dX3_member_21 : decode cX3_member 21 = .ok (.iconst (-1), 1) := by decide +kernel
theorem dX3_member_22 : decode cX3_member 22 = .ok (.ireturn, 1) := by decide +kernel
theorem dX3_cellAt_0 : decode cX3_cellAt 0 = .ok (.aload_n 0, 1) := by decide +kernel
theorem dX3_cellAt_1 : decode cX3_cellAt 1 = .ok (.getfield 20, 3) := by decide +kernel
theorem dX3_cellAt_4 : decode cX3_cellAt 4 = .ok (.iload_n 1, 1) := by decide +kernel
theorem dX3_cellAt_5 : decode cX3_cellAt 5 = .ok (.iload_n 2, 1) := by decide +kernel
theorem dX3_cellAt_6 : decode cX3_cellAt 6 = .ok (.iload_n 3, 1) := by decide +kernel
theorem dX3_cellAt_7 : decode cX3_cellAt 7 = .ok (.iconst 1, 1) := by decide +kernel
theorem dX3_cellAt_8 : decode cX3_cellAt 8 = .ok (.invokevirtual 54, 3) := by decide +kernel
theorem dX3_cellAt_11 : decode cX3_cellAt 11 = .ok (.ifCond .ne 5, 3) := by decide +kernel
theorem dX3_cellAt_14 : decode cX3_cellAt 14 = .ok (.iconst (-1), 1) := by decide +kernel
theorem dX3_cellAt_15 : decode cX3_cellAt 15 = .ok (.ireturn, 1) := by decide +kernel
theorem dX3_cellAt_16 : decode cX3_cellAt 16 = .ok (.iload_n 1, 1) := by decide +kernel
theorem dX3_cellAt_17 : decode cX3_cellAt 17 = .ok (.iload_n 2, 1) := by decide +kernel
theorem dX3_cellAt_18 : decode cX3_cellAt 18 = .ok (.iload_n 3, 1) := by decide +kernel
theorem dX3_cellAt_19 : decode cX3_cellAt 19 = .ok (.invokestatic 58, 3) := by decide +kernel
theorem dX3_cellAt_22 : decode cX3_cellAt 22 = .ok (.istore 4, 2) := by decide +kernel
theorem dX3_cellAt_24 : decode cX3_cellAt 24 = .ok (.aload_n 0, 1) := by decide +kernel
theorem dX3_cellAt_25 : decode cX3_cellAt 25 = .ok (.getfield 20, 3) := by decide +kernel
theorem dX3_cellAt_28 : decode cX3_cellAt 28 = .ok (.iload 4, 2) := by decide +kernel
theorem dX3_cellAt_30 : decode cX3_cellAt 30 = .ok (.invokevirtual 61, 3) := by decide +kernel
theorem dX3_cellAt_33 : decode cX3_cellAt 33 = .ok (.ifCond .eq 7, 3) := by decide +kernel
theorem dX3_cellAt_36 : decode cX3_cellAt 36 = .ok (.iconst (-1), 1) := by decide +kernel
theorem dX3_cellAt_37 : decode cX3_cellAt 37 = .ok (.goto 5, 3) := by decide +kernel
theorem dX3_cellAt_40 : decode cX3_cellAt 40 = .ok (.iload 4, 2) := by decide +kernel
theorem dX3_cellAt_42 : decode cX3_cellAt 42 = .ok (.ireturn, 1) := by decide +kernel
theorem dX3_freeWays_0 : decode cX3_freeWays 0 = .ok (.iload_n 1, 1) := by decide +kernel
theorem dX3_freeWays_1 : decode cX3_freeWays 1 = .ok (.ifCond .lt 19, 3) := by decide +kernel
theorem dX3_freeWays_4 : decode cX3_freeWays 4 = .ok (.iload_n 1, 1) := by decide +kernel
theorem dX3_freeWays_5 : decode cX3_freeWays 5 = .ok (.sipush 1000, 3) := by decide +kernel
theorem dX3_freeWays_8 : decode cX3_freeWays 8 = .ok (.if_icmp .ge 12, 3) := by decide +kernel
theorem dX3_freeWays_11 : decode cX3_freeWays 11 = .ok (.aload_n 0, 1) := by decide +kernel
theorem dX3_freeWays_12 : decode cX3_freeWays 12 = .ok (.getfield 17, 3) := by decide +kernel
theorem dX3_freeWays_15 : decode cX3_freeWays 15 = .ok (.iload_n 1, 1) := by decide +kernel
theorem dX3_freeWays_16 : decode cX3_freeWays 16 = .ok (.iaload, 1) := by decide +kernel
theorem dX3_freeWays_17 : decode cX3_freeWays 17 = .ok (.goto 4, 3) := by decide +kernel
theorem dX3_freeWays_20 : decode cX3_freeWays 20 = .ok (.iconst 0, 1) := by decide +kernel
theorem dX3_freeWays_21 : decode cX3_freeWays 21 = .ok (.ireturn, 1) := by decide +kernel
theorem dX3_countShut_0 : decode cX3_countShut 0 = .ok (.iconst 0, 1) := by decide +kernel
theorem dX3_countShut_1 : decode cX3_countShut 1 = .ok (.istore_n 1, 1) := by decide +kernel
theorem dX3_countShut_2 : decode cX3_countShut 2 = .ok (.iconst 0, 1) := by decide +kernel
theorem dX3_countShut_3 : decode cX3_countShut 3 = .ok (.istore_n 2, 1) := by decide +kernel
theorem dX3_countShut_4 : decode cX3_countShut 4 = .ok (.iload_n 2, 1) := by decide +kernel
theorem dX3_countShut_5 : decode cX3_countShut 5 = .ok (.aload_n 0, 1) := by decide +kernel
theorem dX3_countShut_6 : decode cX3_countShut 6 = .ok (.getfield 30, 3) := by decide +kernel
theorem dX3_countShut_9 : decode cX3_countShut 9 = .ok (.if_icmp .ge 30, 3) := by decide +kernel
theorem dX3_countShut_12 : decode cX3_countShut 12 = .ok (.iload_n 1, 1) := by decide +kernel
theorem dX3_countShut_13 : decode cX3_countShut 13 = .ok (.aload_n 0, 1) := by decide +kernel
theorem dX3_countShut_14 : decode cX3_countShut 14 = .ok (.aload_n 0, 1) := by decide +kernel
theorem dX3_countShut_15 : decode cX3_countShut 15 = .ok (.getfield 11, 3) := by decide +kernel
theorem dX3_countShut_18 : decode cX3_countShut 18 = .ok (.iload_n 2, 1) := by decide +kernel
theorem dX3_countShut_19 : decode cX3_countShut 19 = .ok (.iaload, 1) := by decide +kernel
theorem dX3_countShut_20 : decode cX3_countShut 20 = .ok (.invokevirtual 65, 3) := by decide +kernel
theorem dX3_countShut_23 : decode cX3_countShut 23 = .ok (.ifCond .ne 7, 3) := by decide +kernel
theorem dX3_countShut_26 : decode cX3_countShut 26 = .ok (.iconst 1, 1) := by decide +kernel
theorem dX3_countShut_27 : decode cX3_countShut 27 = .ok (.goto 4, 3) := by decide +kernel
theorem dX3_countShut_30 : decode cX3_countShut 30 = .ok (.iconst 0, 1) := by decide +kernel
theorem dX3_countShut_31 : decode cX3_countShut 31 = .ok (.iadd, 1) := by decide +kernel
theorem dX3_countShut_32 : decode cX3_countShut 32 = .ok (.istore_n 1, 1) := by decide +kernel
theorem dX3_countShut_33 : decode cX3_countShut 33 = .ok (.iinc 2 1, 3) := by decide +kernel
theorem dX3_countShut_36 : decode cX3_countShut 36 = .ok (.goto (-32), 3) := by decide +kernel
theorem dX3_countShut_39 : decode cX3_countShut 39 = .ok (.iload_n 1, 1) := by decide +kernel
theorem dX3_countShut_40 : decode cX3_countShut 40 = .ok (.ireturn, 1) := by decide +kernel
theorem dX3_beside_0 : decode cX3_beside 0 = .ok (.iload_n 1, 1) := by decide +kernel
theorem dX3_beside_1 : decode cX3_beside 1 = .ok (.ifCond .ge 5, 3) := by decide +kernel
theorem dX3_beside_4 : decode cX3_beside 4 = .ok (.iconst (-1), 1) := by decide +kernel
theorem dX3_beside_5 : decode cX3_beside 5 = .ok (.ireturn, 1) := by decide +kernel
theorem dX3_beside_6 : decode cX3_beside 6 = .ok (.iload_n 2, 1) := by decide +kernel
theorem dX3_beside_7 : decode cX3_beside 7 = .ok (.tableswitch 158 0 5 #[37, 59, 74, 100, 119, 142], 37) := by decide +kernel
theorem dX3_beside_44 : decode cX3_beside 44 = .ok (.iload_n 1, 1) := by decide +kernel
theorem dX3_beside_45 : decode cX3_beside 45 = .ok (.bipush 10, 2) := by decide +kernel
theorem dX3_beside_47 : decode cX3_beside 47 = .ok (.irem, 1) := by decide +kernel
theorem dX3_beside_48 : decode cX3_beside 48 = .ok (.aload_n 0, 1) := by decide +kernel
theorem dX3_beside_49 : decode cX3_beside 49 = .ok (.getfield 20, 3) := by decide +kernel
theorem dX3_beside_52 : decode cX3_beside 52 = .ok (.getfield 40, 3) := by decide +kernel
theorem dX3_beside_55 : decode cX3_beside 55 = .ok (.if_icmp .gt 9, 3) := by decide +kernel
theorem dX3_beside_58 : decode cX3_beside 58 = .ok (.iload_n 1, 1) := by decide +kernel
theorem dX3_beside_59 : decode cX3_beside 59 = .ok (.iconst 1, 1) := by decide +kernel
theorem dX3_beside_60 : decode cX3_beside 60 = .ok (.iadd, 1) := by decide +kernel
theorem dX3_beside_61 : decode cX3_beside 61 = .ok (.goto 4, 3) := by decide +kernel
theorem dX3_beside_64 : decode cX3_beside 64 = .ok (.iconst (-1), 1) := by decide +kernel
theorem dX3_beside_65 : decode cX3_beside 65 = .ok (.ireturn, 1) := by decide +kernel
theorem dX3_beside_66 : decode cX3_beside 66 = .ok (.iload_n 1, 1) := by decide +kernel
theorem dX3_beside_67 : decode cX3_beside 67 = .ok (.bipush 10, 2) := by decide +kernel
theorem dX3_beside_69 : decode cX3_beside 69 = .ok (.irem, 1) := by decide +kernel
theorem dX3_beside_70 : decode cX3_beside 70 = .ok (.ifCond .le 9, 3) := by decide +kernel
theorem dX3_beside_73 : decode cX3_beside 73 = .ok (.iload_n 1, 1) := by decide +kernel
theorem dX3_beside_74 : decode cX3_beside 74 = .ok (.iconst 1, 1) := by decide +kernel
theorem dX3_beside_75 : decode cX3_beside 75 = .ok (.isub, 1) := by decide +kernel
theorem dX3_beside_76 : decode cX3_beside 76 = .ok (.goto 4, 3) := by decide +kernel
theorem dX3_beside_79 : decode cX3_beside 79 = .ok (.iconst (-1), 1) := by decide +kernel
theorem dX3_beside_80 : decode cX3_beside 80 = .ok (.ireturn, 1) := by decide +kernel
theorem dX3_beside_81 : decode cX3_beside 81 = .ok (.iload_n 1, 1) := by decide +kernel
theorem dX3_beside_82 : decode cX3_beside 82 = .ok (.bipush 10, 2) := by decide +kernel
theorem dX3_beside_84 : decode cX3_beside 84 = .ok (.idiv, 1) := by decide +kernel
theorem dX3_beside_85 : decode cX3_beside 85 = .ok (.bipush 10, 2) := by decide +kernel
theorem dX3_beside_87 : decode cX3_beside 87 = .ok (.irem, 1) := by decide +kernel
theorem dX3_beside_88 : decode cX3_beside 88 = .ok (.aload_n 0, 1) := by decide +kernel
theorem dX3_beside_89 : decode cX3_beside 89 = .ok (.getfield 20, 3) := by decide +kernel
theorem dX3_beside_92 : decode cX3_beside 92 = .ok (.getfield 37, 3) := by decide +kernel
theorem dX3_beside_95 : decode cX3_beside 95 = .ok (.if_icmp .gt 10, 3) := by decide +kernel
theorem dX3_beside_98 : decode cX3_beside 98 = .ok (.iload_n 1, 1) := by decide +kernel
theorem dX3_beside_99 : decode cX3_beside 99 = .ok (.bipush 10, 2) := by decide +kernel
theorem dX3_beside_101 : decode cX3_beside 101 = .ok (.iadd, 1) := by decide +kernel
theorem dX3_beside_102 : decode cX3_beside 102 = .ok (.goto 4, 3) := by decide +kernel
theorem dX3_beside_105 : decode cX3_beside 105 = .ok (.iconst (-1), 1) := by decide +kernel
theorem dX3_beside_106 : decode cX3_beside 106 = .ok (.ireturn, 1) := by decide +kernel
theorem dX3_beside_107 : decode cX3_beside 107 = .ok (.iload_n 1, 1) := by decide +kernel
theorem dX3_beside_108 : decode cX3_beside 108 = .ok (.bipush 10, 2) := by decide +kernel
theorem dX3_beside_110 : decode cX3_beside 110 = .ok (.idiv, 1) := by decide +kernel
theorem dX3_beside_111 : decode cX3_beside 111 = .ok (.bipush 10, 2) := by decide +kernel
theorem dX3_beside_113 : decode cX3_beside 113 = .ok (.irem, 1) := by decide +kernel
theorem dX3_beside_114 : decode cX3_beside 114 = .ok (.ifCond .le 10, 3) := by decide +kernel
theorem dX3_beside_117 : decode cX3_beside 117 = .ok (.iload_n 1, 1) := by decide +kernel
theorem dX3_beside_118 : decode cX3_beside 118 = .ok (.bipush 10, 2) := by decide +kernel
theorem dX3_beside_120 : decode cX3_beside 120 = .ok (.isub, 1) := by decide +kernel
theorem dX3_beside_121 : decode cX3_beside 121 = .ok (.goto 4, 3) := by decide +kernel
theorem dX3_beside_124 : decode cX3_beside 124 = .ok (.iconst (-1), 1) := by decide +kernel
theorem dX3_beside_125 : decode cX3_beside 125 = .ok (.ireturn, 1) := by decide +kernel
theorem dX3_beside_126 : decode cX3_beside 126 = .ok (.iload_n 1, 1) := by decide +kernel
theorem dX3_beside_127 : decode cX3_beside 127 = .ok (.bipush 100, 2) := by decide +kernel
theorem dX3_beside_129 : decode cX3_beside 129 = .ok (.idiv, 1) := by decide +kernel
theorem dX3_beside_130 : decode cX3_beside 130 = .ok (.aload_n 0, 1) := by decide +kernel
theorem dX3_beside_131 : decode cX3_beside 131 = .ok (.getfield 20, 3) := by decide +kernel
theorem dX3_beside_134 : decode cX3_beside 134 = .ok (.getfield 34, 3) := by decide +kernel
theorem dX3_beside_137 : decode cX3_beside 137 = .ok (.if_icmp .gt 10, 3) := by decide +kernel
theorem dX3_beside_140 : decode cX3_beside 140 = .ok (.iload_n 1, 1) := by decide +kernel
theorem dX3_beside_141 : decode cX3_beside 141 = .ok (.bipush 100, 2) := by decide +kernel
theorem dX3_beside_143 : decode cX3_beside 143 = .ok (.iadd, 1) := by decide +kernel
theorem dX3_beside_144 : decode cX3_beside 144 = .ok (.goto 4, 3) := by decide +kernel
theorem dX3_beside_147 : decode cX3_beside 147 = .ok (.iconst (-1), 1) := by decide +kernel
theorem dX3_beside_148 : decode cX3_beside 148 = .ok (.ireturn, 1) := by decide +kernel
theorem dX3_beside_149 : decode cX3_beside 149 = .ok (.iload_n 1, 1) := by decide +kernel
theorem dX3_beside_150 : decode cX3_beside 150 = .ok (.bipush 100, 2) := by decide +kernel
theorem dX3_beside_152 : decode cX3_beside 152 = .ok (.idiv, 1) := by decide +kernel
theorem dX3_beside_153 : decode cX3_beside 153 = .ok (.ifCond .le 10, 3) := by decide +kernel
theorem dX3_beside_156 : decode cX3_beside 156 = .ok (.iload_n 1, 1) := by decide +kernel
theorem dX3_beside_157 : decode cX3_beside 157 = .ok (.bipush 100, 2) := by decide +kernel
theorem dX3_beside_159 : decode cX3_beside 159 = .ok (.isub, 1) := by decide +kernel
theorem dX3_beside_160 : decode cX3_beside 160 = .ok (.goto 4, 3) := by decide +kernel
theorem dX3_beside_163 : decode cX3_beside 163 = .ok (.iconst (-1), 1) := by decide +kernel
theorem dX3_beside_164 : decode cX3_beside 164 = .ok (.ireturn, 1) := by decide +kernel
theorem dX3_beside_165 : decode cX3_beside 165 = .ok (.iconst (-1), 1) := by decide +kernel
theorem dX3_beside_166 : decode cX3_beside 166 = .ok (.ireturn, 1) := by decide +kernel
theorem dX3_touchesSolid_0 : decode cX3_touchesSolid 0 = .ok (.iconst 0, 1) := by decide +kernel
theorem dX3_touchesSolid_1 : decode cX3_touchesSolid 1 = .ok (.istore_n 2, 1) := by decide +kernel
theorem dX3_touchesSolid_2 : decode cX3_touchesSolid 2 = .ok (.iload_n 2, 1) := by decide +kernel
theorem dX3_touchesSolid_3 : decode cX3_touchesSolid 3 = .ok (.bipush 6, 2) := by decide +kernel
theorem dX3_touchesSolid_5 : decode cX3_touchesSolid 5 = .ok (.if_icmp .ge 27, 3) := by decide +kernel
theorem dX3_touchesSolid_8 : decode cX3_touchesSolid 8 = .ok (.aload_n 0, 1) := by decide +kernel
theorem dX3_touchesSolid_9 : decode cX3_touchesSolid 9 = .ok (.getfield 20, 3) := by decide +kernel
theorem dX3_touchesSolid_12 : decode cX3_touchesSolid 12 = .ok (.aload_n 0, 1) := by decide +kernel
theorem dX3_touchesSolid_13 : decode cX3_touchesSolid 13 = .ok (.iload_n 1, 1) := by decide +kernel
theorem dX3_touchesSolid_14 : decode cX3_touchesSolid 14 = .ok (.iload_n 2, 1) := by decide +kernel
theorem dX3_touchesSolid_15 : decode cX3_touchesSolid 15 = .ok (.invokevirtual 69, 3) := by decide +kernel
theorem dX3_touchesSolid_18 : decode cX3_touchesSolid 18 = .ok (.invokevirtual 61, 3) := by decide +kernel
theorem dX3_touchesSolid_21 : decode cX3_touchesSolid 21 = .ok (.ifCond .eq 5, 3) := by decide +kernel
theorem dX3_touchesSolid_24 : decode cX3_touchesSolid 24 = .ok (.iconst 1, 1) := by decide +kernel
theorem dX3_touchesSolid_25 : decode cX3_touchesSolid 25 = .ok (.ireturn, 1) := by decide +kernel
theorem dX3_touchesSolid_26 : decode cX3_touchesSolid 26 = .ok (.iinc 2 1, 3) := by decide +kernel
theorem dX3_touchesSolid_29 : decode cX3_touchesSolid 29 = .ok (.goto (-27), 3) := by decide +kernel
theorem dX3_touchesSolid_32 : decode cX3_touchesSolid 32 = .ok (.iconst 0, 1) := by decide +kernel
theorem dX3_touchesSolid_33 : decode cX3_touchesSolid 33 = .ok (.ireturn, 1) := by decide +kernel
theorem dX3_addMember_0 : decode cX3_addMember 0 = .ok (.iload_n 1, 1) := by decide +kernel
theorem dX3_addMember_1 : decode cX3_addMember 1 = .ok (.iconst (-1), 1) := by decide +kernel
theorem dX3_addMember_2 : decode cX3_addMember 2 = .ok (.if_icmp .eq 33, 3) := by decide +kernel
theorem dX3_addMember_5 : decode cX3_addMember 5 = .ok (.aload_n 0, 1) := by decide +kernel
theorem dX3_addMember_6 : decode cX3_addMember 6 = .ok (.getfield 30, 3) := by decide +kernel
theorem dX3_addMember_9 : decode cX3_addMember 9 = .ok (.sipush 1000, 3) := by decide +kernel
theorem dX3_addMember_12 : decode cX3_addMember 12 = .ok (.if_icmp .ge 23, 3) := by decide +kernel
theorem dX3_addMember_15 : decode cX3_addMember 15 = .ok (.aload_n 0, 1) := by decide +kernel
theorem dX3_addMember_16 : decode cX3_addMember 16 = .ok (.getfield 11, 3) := by decide +kernel
theorem dX3_addMember_19 : decode cX3_addMember 19 = .ok (.aload_n 0, 1) := by decide +kernel
theorem dX3_addMember_20 : decode cX3_addMember 20 = .ok (.getfield 30, 3) := by decide +kernel
theorem dX3_addMember_23 : decode cX3_addMember 23 = .ok (.iload_n 1, 1) := by decide +kernel
theorem dX3_addMember_24 : decode cX3_addMember 24 = .ok (.iastore, 1) := by decide +kernel
theorem dX3_addMember_25 : decode cX3_addMember 25 = .ok (.aload_n 0, 1) := by decide +kernel
theorem dX3_addMember_26 : decode cX3_addMember 26 = .ok (.dup, 1) := by decide +kernel
theorem dX3_addMember_27 : decode cX3_addMember 27 = .ok (.getfield 30, 3) := by decide +kernel
theorem dX3_addMember_30 : decode cX3_addMember 30 = .ok (.iconst 1, 1) := by decide +kernel
theorem dX3_addMember_31 : decode cX3_addMember 31 = .ok (.iadd, 1) := by decide +kernel
theorem dX3_addMember_32 : decode cX3_addMember 32 = .ok (.putfield 30, 3) := by decide +kernel
theorem dX3_addMember_35 : decode cX3_addMember 35 = .ok (.return_, 1) := by decide +kernel
theorem dX3_freeFromEdge_0 : decode cX3_freeFromEdge 0 = .ok (.iconst 0, 1) := by decide +kernel
theorem dX3_freeFromEdge_1 : decode cX3_freeFromEdge 1 = .ok (.istore_n 2, 1) := by decide +kernel
theorem dX3_freeFromEdge_2 : decode cX3_freeFromEdge 2 = .ok (.iload_n 2, 1) := by decide +kernel
theorem dX3_freeFromEdge_3 : decode cX3_freeFromEdge 3 = .ok (.bipush 6, 2) := by decide +kernel
theorem dX3_freeFromEdge_5 : decode cX3_freeFromEdge 5 = .ok (.if_icmp .ge 25, 3) := by decide +kernel
theorem dX3_freeFromEdge_8 : decode cX3_freeFromEdge 8 = .ok (.aload_n 0, 1) := by decide +kernel
theorem dX3_freeFromEdge_9 : decode cX3_freeFromEdge 9 = .ok (.iload_n 1, 1) := by decide +kernel
theorem dX3_freeFromEdge_10 : decode cX3_freeFromEdge 10 = .ok (.iload_n 2, 1) := by decide +kernel
theorem dX3_freeFromEdge_11 : decode cX3_freeFromEdge 11 = .ok (.invokevirtual 69, 3) := by decide +kernel
theorem dX3_freeFromEdge_14 : decode cX3_freeFromEdge 14 = .ok (.iconst (-1), 1) := by decide +kernel
theorem dX3_freeFromEdge_15 : decode cX3_freeFromEdge 15 = .ok (.if_icmp .ne 9, 3) := by decide +kernel
theorem dX3_freeFromEdge_18 : decode cX3_freeFromEdge 18 = .ok (.aload_n 0, 1) := by decide +kernel
theorem dX3_freeFromEdge_19 : decode cX3_freeFromEdge 19 = .ok (.iload_n 1, 1) := by decide +kernel
theorem dX3_freeFromEdge_20 : decode cX3_freeFromEdge 20 = .ok (.iload_n 2, 1) := by decide +kernel
theorem dX3_freeFromEdge_21 : decode cX3_freeFromEdge 21 = .ok (.invokevirtual 73, 3) := by decide +kernel
theorem dX3_freeFromEdge_24 : decode cX3_freeFromEdge 24 = .ok (.iinc 2 1, 3) := by decide +kernel
theorem dX3_freeFromEdge_27 : decode cX3_freeFromEdge 27 = .ok (.goto (-25), 3) := by decide +kernel
theorem dX3_freeFromEdge_30 : decode cX3_freeFromEdge 30 = .ok (.return_, 1) := by decide +kernel
theorem dX3_freeInwards_0 : decode cX3_freeInwards 0 = .ok (.iload_n 1, 1) := by decide +kernel
theorem dX3_freeInwards_1 : decode cX3_freeInwards 1 = .ok (.istore_n 3, 1) := by decide +kernel
theorem dX3_freeInwards_2 : decode cX3_freeInwards 2 = .ok (.iconst 0, 1) := by decide +kernel
theorem dX3_freeInwards_3 : decode cX3_freeInwards 3 = .ok (.istore 4, 2) := by decide +kernel
theorem dX3_freeInwards_5 : decode cX3_freeInwards 5 = .ok (.iload 4, 2) := by decide +kernel
theorem dX3_freeInwards_7 : decode cX3_freeInwards 7 = .ok (.bipush 10, 2) := by decide +kernel
theorem dX3_freeInwards_9 : decode cX3_freeInwards 9 = .ok (.if_icmp .ge 52, 3) := by decide +kernel
theorem dX3_freeInwards_12 : decode cX3_freeInwards 12 = .ok (.iload_n 3, 1) := by decide +kernel
theorem dX3_freeInwards_13 : decode cX3_freeInwards 13 = .ok (.ifCond .lt 48, 3) := by decide +kernel
theorem dX3_freeInwards_16 : decode cX3_freeInwards 16 = .ok (.iload_n 3, 1) := by decide +kernel
theorem dX3_freeInwards_17 : decode cX3_freeInwards 17 = .ok (.sipush 1000, 3) := by decide +kernel
theorem dX3_freeInwards_20 : decode cX3_freeInwards 20 = .ok (.if_icmp .ge 41, 3) := by decide +kernel
theorem dX3_freeInwards_23 : decode cX3_freeInwards 23 = .ok (.aload_n 0, 1) := by decide +kernel
theorem dX3_freeInwards_24 : decode cX3_freeInwards 24 = .ok (.getfield 20, 3) := by decide +kernel
theorem dX3_freeInwards_27 : decode cX3_freeInwards 27 = .ok (.iload_n 3, 1) := by decide +kernel
theorem dX3_freeInwards_28 : decode cX3_freeInwards 28 = .ok (.invokevirtual 61, 3) := by decide +kernel
theorem dX3_freeInwards_31 : decode cX3_freeInwards 31 = .ok (.ifCond .ne 30, 3) := by decide +kernel
theorem dX3_freeInwards_34 : decode cX3_freeInwards 34 = .ok (.aload_n 0, 1) := by decide +kernel
theorem dX3_freeInwards_35 : decode cX3_freeInwards 35 = .ok (.getfield 17, 3) := by decide +kernel
theorem dX3_freeInwards_38 : decode cX3_freeInwards 38 = .ok (.iload_n 3, 1) := by decide +kernel
theorem dX3_freeInwards_39 : decode cX3_freeInwards 39 = .ok (.dup2, 1) := by decide +kernel
theorem dX3_freeInwards_40 : decode cX3_freeInwards 40 = .ok (.iaload, 1) := by decide +kernel
theorem dX3_freeInwards_41 : decode cX3_freeInwards 41 = .ok (.iconst 1, 1) := by decide +kernel
theorem dX3_freeInwards_42 : decode cX3_freeInwards 42 = .ok (.iload_n 2, 1) := by decide +kernel
theorem dX3_freeInwards_43 : decode cX3_freeInwards 43 = .ok (.ishl, 1) := by decide +kernel
theorem dX3_freeInwards_44 : decode cX3_freeInwards 44 = .ok (.ior, 1) := by decide +kernel
theorem dX3_freeInwards_45 : decode cX3_freeInwards 45 = .ok (.iastore, 1) := by decide +kernel
theorem dX3_freeInwards_46 : decode cX3_freeInwards 46 = .ok (.aload_n 0, 1) := by decide +kernel
theorem dX3_freeInwards_47 : decode cX3_freeInwards 47 = .ok (.iload_n 3, 1) := by decide +kernel
theorem dX3_freeInwards_48 : decode cX3_freeInwards 48 = .ok (.iload_n 2, 1) := by decide +kernel
theorem dX3_freeInwards_49 : decode cX3_freeInwards 49 = .ok (.iconst 1, 1) := by decide +kernel
theorem dX3_freeInwards_50 : decode cX3_freeInwards 50 = .ok (.ixor, 1) := by decide +kernel
theorem dX3_freeInwards_51 : decode cX3_freeInwards 51 = .ok (.invokevirtual 69, 3) := by decide +kernel
theorem dX3_freeInwards_54 : decode cX3_freeInwards 54 = .ok (.istore_n 3, 1) := by decide +kernel
theorem dX3_freeInwards_55 : decode cX3_freeInwards 55 = .ok (.iinc 4 1, 3) := by decide +kernel
theorem dX3_freeInwards_58 : decode cX3_freeInwards 58 = .ok (.goto (-53), 3) := by decide +kernel
theorem dX3_freeInwards_61 : decode cX3_freeInwards 61 = .ok (.return_, 1) := by decide +kernel
theorem dX4_init_0 : decode cX4_init 0 = .ok (.aload_n 0, 1) := by decide +kernel
theorem dX4_init_1 : decode cX4_init 1 = .ok (.invokespecial 5, 3) := by decide +kernel
theorem dX4_init_4 : decode cX4_init 4 = .ok (.aload_n 0, 1) := by decide +kernel
theorem dX4_init_5 : decode cX4_init 5 = .ok (.bipush 10, 2) := by decide +kernel
theorem dX4_init_7 : decode cX4_init 7 = .ok (.newarray .int, 2) := by decide +kernel
theorem dX4_init_9 : decode cX4_init 9 = .ok (.putfield 11, 3) := by decide +kernel
theorem dX4_init_12 : decode cX4_init 12 = .ok (.aload_n 0, 1) := by decide +kernel
theorem dX4_init_13 : decode cX4_init 13 = .ok (.bipush 10, 2) := by decide +kernel
theorem dX4_init_15 : decode cX4_init 15 = .ok (.newarray .int, 2) := by decide +kernel
theorem dX4_init_17 : decode cX4_init 17 = .ok (.putfield 15, 3) := by decide +kernel
theorem dX4_init_20 : decode cX4_init 20 = .ok (.aload_n 0, 1) := by decide +kernel
theorem dX4_init_21 : decode cX4_init 21 = .ok (.bipush 10, 2) := by decide +kernel
theorem dX4_init_23 : decode cX4_init 23 = .ok (.newarray .int, 2) := by decide +kernel
theorem dX4_init_25 : decode cX4_init 25 = .ok (.putfield 18, 3) := by decide +kernel
theorem dX4_init_28 : decode cX4_init 28 = .ok (.aload_n 0, 1) := by decide +kernel
theorem dX4_init_29 : decode cX4_init 29 = .ok (.iconst 2, 1) := by decide +kernel
theorem dX4_init_30 : decode cX4_init 30 = .ok (.putfield 21, 3) := by decide +kernel
theorem dX4_init_33 : decode cX4_init 33 = .ok (.aload_n 0, 1) := by decide +kernel
theorem dX4_init_34 : decode cX4_init 34 = .ok (.sipush 1024, 3) := by decide +kernel
theorem dX4_init_37 : decode cX4_init 37 = .ok (.newarray .int, 2) := by decide +kernel
theorem dX4_init_39 : decode cX4_init 39 = .ok (.putfield 25, 3) := by decide +kernel
theorem dX4_init_42 : decode cX4_init 42 = .ok (.aload_n 0, 1) := by decide +kernel
theorem dX4_init_43 : decode cX4_init 43 = .ok (.sipush 1024, 3) := by decide +kernel
theorem dX4_init_46 : decode cX4_init 46 = .ok (.newarray .int, 2) := by decide +kernel
theorem dX4_init_48 : decode cX4_init 48 = .ok (.putfield 28, 3) := by decide +kernel
theorem dX4_init_51 : decode cX4_init 51 = .ok (.aload_n 0, 1) := by decide +kernel
theorem dX4_init_52 : decode cX4_init 52 = .ok (.bipush 10, 2) := by decide +kernel
theorem dX4_init_54 : decode cX4_init 54 = .ok (.newarray .int, 2) := by decide +kernel
theorem dX4_init_56 : decode cX4_init 56 = .ok (.putfield 31, 3) := by decide +kernel
theorem dX4_init_59 : decode cX4_init 59 = .ok (.aload_n 0, 1) := by decide +kernel
theorem dX4_init_60 : decode cX4_init 60 = .ok (.bipush 10, 2) := by decide +kernel
theorem dX4_init_62 : decode cX4_init 62 = .ok (.newarray .int, 2) := by decide +kernel
theorem dX4_init_64 : decode cX4_init 64 = .ok (.putfield 34, 3) := by decide +kernel
theorem dX4_init_67 : decode cX4_init 67 = .ok (.return_, 1) := by decide +kernel
theorem dX4_setDry_0 : decode cX4_setDry 0 = .ok (.iload_n 1, 1) := by decide +kernel
theorem dX4_setDry_1 : decode cX4_setDry 1 = .ok (.ifCond .lt 9, 3) := by decide +kernel
theorem dX4_setDry_4 : decode cX4_setDry 4 = .ok (.iload_n 1, 1) := by decide +kernel
theorem dX4_setDry_5 : decode cX4_setDry 5 = .ok (.bipush 100, 2) := by decide +kernel
theorem dX4_setDry_7 : decode cX4_setDry 7 = .ok (.if_icmp .le 5, 3) := by decide +kernel
theorem dX4_setDry_10 : decode cX4_setDry 10 = .ok (.iconst (-1), 1) := by decide +kernel
theorem dX4_setDry_11 : decode cX4_setDry 11 = .ok (.ireturn, 1) := by decide +kernel
theorem dX4_setDry_12 : decode cX4_setDry 12 = .ok (.aload_n 0, 1) := by decide +kernel
theorem dX4_setDry_13 : decode cX4_setDry 13 = .ok (.getfield 21, 3) := by decide +kernel
theorem dX4_setDry_16 : decode cX4_setDry 16 = .ok (.istore_n 2, 1) := by decide +kernel
theorem dX4_setDry_17 : decode cX4_setDry 17 = .ok (.aload_n 0, 1) := by decide +kernel
theorem dX4_setDry_18 : decode cX4_setDry 18 = .ok (.iload_n 1, 1) := by decide +kernel
theorem dX4_setDry_19 : decode cX4_setDry 19 = .ok (.putfield 21, 3) := by decide +kernel
theorem dX4_setDry_22 : decode cX4_setDry 22 = .ok (.iload_n 2, 1) := by decide +kernel
theorem dX4_setDry_23 : decode cX4_setDry 23 = .ok (.ireturn, 1) := by decide +kernel
theorem dX4_add_0 : decode cX4_add 0 = .ok (.iload_n 1, 1) := by decide +kernel
theorem dX4_add_1 : decode cX4_add 1 = .ok (.iconst 1, 1) := by decide +kernel
theorem dX4_add_2 : decode cX4_add 2 = .ok (.if_icmp .lt 35, 3) := by decide +kernel
theorem dX4_add_5 : decode cX4_add 5 = .ok (.iload_n 1, 1) := by decide +kernel
theorem dX4_add_6 : decode cX4_add 6 = .ok (.bipush 50, 2) := by decide +kernel
theorem dX4_add_8 : decode cX4_add 8 = .ok (.if_icmp .gt 29, 3) := by decide +kernel
theorem dX4_add_11 : decode cX4_add 11 = .ok (.iload_n 2, 1) := by decide +kernel
theorem dX4_add_12 : decode cX4_add 12 = .ok (.ifCond .lt 25, 3) := by decide +kernel
theorem dX4_add_15 : decode cX4_add 15 = .ok (.iload_n 2, 1) := by decide +kernel
theorem dX4_add_16 : decode cX4_add 16 = .ok (.sipush 1000, 3) := by decide +kernel
theorem dX4_add_19 : decode cX4_add 19 = .ok (.if_icmp .gt 18, 3) := by decide +kernel
theorem dX4_add_22 : decode cX4_add 22 = .ok (.iload_n 3, 1) := by decide +kernel
theorem dX4_add_23 : decode cX4_add 23 = .ok (.iconst 1, 1) := by decide +kernel
theorem dX4_add_24 : decode cX4_add 24 = .ok (.if_icmp .lt 13, 3) := by decide +kernel
theorem dX4_add_27 : decode cX4_add 27 = .ok (.iload_n 3, 1) := by decide +kernel
theorem dX4_add_28 : decode cX4_add 28 = .ok (.bipush 100, 2) := by decide +kernel
theorem dX4_add_30 : decode cX4_add 30 = .ok (.if_icmp .gt 7, 3) := by decide +kernel
theorem dX4_add_33 : decode cX4_add 33 = .ok (.iconst 1, 1) := by decide +kernel
theorem dX4_add_34 : decode cX4_add 34 = .ok (.goto 4, 3) := by decide +kernel
theorem dX4_add_37 : decode cX4_add 37 = .ok (.iconst 0, 1) := by decide +kernel
theorem dX4_add_38 : decode cX4_add 38 = .ok (.istore 4, 2) := by decide +kernel
theorem dX4_add_40 : decode cX4_add 40 = .ok (.iconst 0, 1) := by decide +kernel
theorem dX4_add_41 : decode cX4_add 41 = .ok (.istore 5, 2) := by decide +kernel
theorem dX4_add_43 : decode cX4_add 43 = .ok (.iload 5, 2) := by decide +kernel
theorem dX4_add_45 : decode cX4_add 45 = .ok (.bipush 10, 2) := by decide +kernel
theorem dX4_add_47 : decode cX4_add 47 = .ok (.if_icmp .ge 51, 3) := by decide +kernel
theorem dX4_add_50 : decode cX4_add 50 = .ok (.iload 4, 2) := by decide +kernel
theorem dX4_add_52 : decode cX4_add 52 = .ok (.ifCond .eq 46, 3) := by decide +kernel
theorem dX4_add_55 : decode cX4_add 55 = .ok (.aload_n 0, 1) := by decide +kernel
theorem dX4_add_56 : decode cX4_add 56 = .ok (.getfield 11, 3) := by decide +kernel
theorem dX4_add_59 : decode cX4_add 59 = .ok (.iload 5, 2) := by decide +kernel
theorem dX4_add_61 : decode cX4_add 61 = .ok (.iaload, 1) := by decide +kernel
theorem dX4_add_62 : decode cX4_add 62 = .ok (.ifCond .ne 30, 3) := by decide +kernel
theorem dX4_add_65 : decode cX4_add 65 = .ok (.aload_n 0, 1) := by decide +kernel
theorem dX4_add_66 : decode cX4_add 66 = .ok (.getfield 11, 3) := by decide +kernel
theorem dX4_add_69 : decode cX4_add 69 = .ok (.iload 5, 2) := by decide +kernel
theorem dX4_add_71 : decode cX4_add 71 = .ok (.iload_n 1, 1) := by decide +kernel
theorem dX4_add_72 : decode cX4_add 72 = .ok (.iastore, 1) := by decide +kernel
theorem dX4_add_73 : decode cX4_add 73 = .ok (.aload_n 0, 1) := by decide +kernel
theorem dX4_add_74 : decode cX4_add 74 = .ok (.getfield 15, 3) := by decide +kernel
theorem dX4_add_77 : decode cX4_add 77 = .ok (.iload 5, 2) := by decide +kernel
theorem dX4_add_79 : decode cX4_add 79 = .ok (.iload_n 2, 1) := by decide +kernel
theorem dX4_add_80 : decode cX4_add 80 = .ok (.iastore, 1) := by decide +kernel
theorem dX4_add_81 : decode cX4_add 81 = .ok (.aload_n 0, 1) := by decide +kernel
theorem dX4_add_82 : decode cX4_add 82 = .ok (.getfield 18, 3) := by decide +kernel
theorem dX4_add_85 : decode cX4_add 85 = .ok (.iload 5, 2) := by decide +kernel
theorem dX4_add_87 : decode cX4_add 87 = .ok (.iload_n 3, 1) := by decide +kernel
theorem dX4_add_88 : decode cX4_add 88 = .ok (.iastore, 1) := by decide +kernel
theorem dX4_add_89 : decode cX4_add 89 = .ok (.iload 5, 2) := by decide +kernel
theorem dX4_add_91 : decode cX4_add 91 = .ok (.ireturn, 1) := by decide +kernel
theorem dX4_add_92 : decode cX4_add 92 = .ok (.iinc 5 1, 3) := by decide +kernel
theorem dX4_add_95 : decode cX4_add 95 = .ok (.goto (-52), 3) := by decide +kernel
theorem dX4_add_98 : decode cX4_add 98 = .ok (.iconst (-1), 1) := by decide +kernel
theorem dX4_add_99 : decode cX4_add 99 = .ok (.ireturn, 1) := by decide +kernel
theorem dX4_remove_0 : decode cX4_remove 0 = .ok (.iload_n 1, 1) := by decide +kernel
theorem dX4_remove_1 : decode cX4_remove 1 = .ok (.ifCond .lt 18, 3) := by decide +kernel
theorem dX4_remove_4 : decode cX4_remove 4 = .ok (.iload_n 1, 1) := by decide +kernel
theorem dX4_remove_5 : decode cX4_remove 5 = .ok (.bipush 10, 2) := by decide +kernel
theorem dX4_remove_7 : decode cX4_remove 7 = .ok (.if_icmp .ge 12, 3) := by decide +kernel
theorem dX4_remove_10 : decode cX4_remove 10 = .ok (.aload_n 0, 1) := by decide +kernel
theorem dX4_remove_11 : decode cX4_remove 11 = .ok (.getfield 11, 3) := by decide +kernel
theorem dX4_remove_14 : decode cX4_remove 14 = .ok (.iload_n 1, 1) := by decide +kernel
theorem dX4_remove_15 : decode cX4_remove 15 = .ok (.iaload, 1) := by decide +kernel
theorem dX4_remove_16 : decode cX4_remove 16 = .ok (.ifCond .ne 5, 3) := by decide +kernel
theorem dX4_remove_19 : decode cX4_remove 19 = .ok (.iconst 0, 1) := by decide +kernel
theorem dX4_remove_20 : decode cX4_remove 20 = .ok (.ireturn, 1) := by decide +kernel
theorem dX4_remove_21 : decode cX4_remove 21 = .ok (.aload_n 0, 1) := by decide +kernel
theorem dX4_remove_22 : decode cX4_remove 22 = .ok (.getfield 11, 3) := by decide +kernel
theorem dX4_remove_25 : decode cX4_remove 25 = .ok (.iload_n 1, 1) := by decide +kernel
theorem dX4_remove_26 : decode cX4_remove 26 = .ok (.iconst 0, 1) := by decide +kernel
theorem dX4_remove_27 : decode cX4_remove 27 = .ok (.iastore, 1) := by decide +kernel
theorem dX4_remove_28 : decode cX4_remove 28 = .ok (.iconst 1, 1) := by decide +kernel
theorem dX4_remove_29 : decode cX4_remove 29 = .ok (.ireturn, 1) := by decide +kernel
theorem dX4_rowNumber_0 : decode cX4_rowNumber 0 = .ok (.iload_n 1, 1) := by decide +kernel
theorem dX4_rowNumber_1 : decode cX4_rowNumber 1 = .ok (.ifCond .lt 20, 3) := by decide +kernel
theorem dX4_rowNumber_4 : decode cX4_rowNumber 4 = .ok (.iload_n 1, 1) := by decide +kernel
theorem dX4_rowNumber_5 : decode cX4_rowNumber 5 = .ok (.aload_n 0, 1) := by decide +kernel
theorem dX4_rowNumber_6 : decode cX4_rowNumber 6 = .ok (.getfield 37, 3) := by decide +kernel
theorem dX4_rowNumber_9 : decode cX4_rowNumber 9 = .ok (.if_icmp .ge 12, 3) := by decide +kernel
theorem dX4_rowNumber_12 : decode cX4_rowNumber 12 = .ok (.aload_n 0, 1) := by decide +kernel
theorem dX4_rowNumber_13 : decode cX4_rowNumber 13 = .ok (.getfield 31, 3) := by decide +kernel
theorem dX4_rowNumber_16 : decode cX4_rowNumber 16 = .ok (.iload_n 1, 1) := by decide +kernel
theorem dX4_rowNumber_17 : decode cX4_rowNumber 17 = .ok (.iaload, 1) := by decide +kernel
theorem dX4_rowNumber_18 : decode cX4_rowNumber 18 = .ok (.goto 4, 3) := by decide +kernel
theorem dX4_rowNumber_21 : decode cX4_rowNumber 21 = .ok (.iconst (-1), 1) := by decide +kernel
theorem dX4_rowNumber_22 : decode cX4_rowNumber 22 = .ok (.ireturn, 1) := by decide +kernel
theorem dX4_rowLateness_0 : decode cX4_rowLateness 0 = .ok (.iload_n 1, 1) := by decide +kernel
theorem dX4_rowLateness_1 : decode cX4_rowLateness 1 = .ok (.ifCond .lt 20, 3) := by decide +kernel
theorem dX4_rowLateness_4 : decode cX4_rowLateness 4 = .ok (.iload_n 1, 1) := by decide +kernel
theorem dX4_rowLateness_5 : decode cX4_rowLateness 5 = .ok (.aload_n 0, 1) := by decide +kernel
theorem dX4_rowLateness_6 : decode cX4_rowLateness 6 = .ok (.getfield 37, 3) := by decide +kernel
theorem dX4_rowLateness_9 : decode cX4_rowLateness 9 = .ok (.if_icmp .ge 12, 3) := by decide +kernel
theorem dX4_rowLateness_12 : decode cX4_rowLateness 12 = .ok (.aload_n 0, 1) := by decide +kernel
theorem dX4_rowLateness_13 : decode cX4_rowLateness 13 = .ok (.getfield 34, 3) := by decide +kernel
theorem dX4_rowLateness_16 : decode cX4_rowLateness 16 = .ok (.iload_n 1, 1) := by decide +kernel
theorem dX4_rowLateness_17 : decode cX4_rowLateness 17 = .ok (.iaload, 1) := by decide +kernel
theorem dX4_rowLateness_18 : decode cX4_rowLateness 18 = .ok (.goto 4, 3) := by decide +kernel
theorem dX4_rowLateness_21 : decode cX4_rowLateness 21 = .ok (.iconst (-1), 1) := by decide +kernel
theorem dX4_rowLateness_22 : decode cX4_rowLateness 22 = .ok (.ireturn, 1) := by decide +kernel
theorem dX4_findRow_0 : decode cX4_findRow 0 = .ok (.aload_n 0, 1) := by decide +kernel
theorem dX4_findRow_1 : decode cX4_findRow 1 = .ok (.invokevirtual 40, 3) := by decide +kernel
theorem dX4_findRow_4 : decode cX4_findRow 4 = .ok (.istore_n 1, 1) := by decide +kernel
theorem dX4_findRow_5 : decode cX4_findRow 5 = .ok (.iload_n 1, 1) := by decide +kernel
theorem dX4_findRow_6 : decode cX4_findRow 6 = .ok (.ifCond .ne 5, 3) := by decide +kernel
theorem dX4_findRow_9 : decode cX4_findRow 9 = .ok (.iconst (-1), 1) := by decide +kernel
theorem dX4_findRow_10 : decode cX4_findRow 10 = .ok (.ireturn, 1) := by decide +kernel
theorem dX4_findRow_11 : decode cX4_findRow 11 = .ok (.aload_n 0, 1) := by decide +kernel
theorem dX4_findRow_12 : decode cX4_findRow 12 = .ok (.iload_n 1, 1) := by decide +kernel
theorem dX4_findRow_13 : decode cX4_findRow 13 = .ok (.invokevirtual 44, 3) := by decide +kernel
theorem dX4_findRow_16 : decode cX4_findRow 16 = .ok (.istore_n 2, 1) := by decide +kernel
theorem dX4_findRow_17 : decode cX4_findRow 17 = .ok (.aload_n 0, 1) := by decide +kernel
theorem dX4_findRow_18 : decode cX4_findRow 18 = .ok (.getfield 25, 3) := by decide +kernel
theorem dX4_findRow_21 : decode cX4_findRow 21 = .ok (.iconst 0, 1) := by decide +kernel
theorem dX4_findRow_22 : decode cX4_findRow 22 = .ok (.iconst 0, 1) := by decide +kernel
theorem dX4_findRow_23 : decode cX4_findRow 23 = .ok (.iastore, 1) := by decide +kernel
theorem dX4_findRow_24 : decode cX4_findRow 24 = .ok (.iconst 1, 1) := by decide +kernel
theorem dX4_findRow_25 : decode cX4_findRow 25 = .ok (.istore_n 3, 1) := by decide +kernel
theorem dX4_findRow_26 : decode cX4_findRow 26 = .ok (.iload_n 3, 1) := by decide +kernel
theorem dX4_findRow_27 : decode cX4_findRow 27 = .ok (.iload_n 1, 1) := by decide +kernel
theorem dX4_findRow_28 : decode cX4_findRow 28 = .ok (.if_icmp .gt 28, 3) := by decide +kernel
theorem dX4_findRow_31 : decode cX4_findRow 31 = .ok (.iload_n 3, 1) := by decide +kernel
theorem dX4_findRow_32 : decode cX4_findRow 32 = .ok (.iload_n 1, 1) := by decide +kernel
theorem dX4_findRow_33 : decode cX4_findRow 33 = .ok (.iand, 1) := by decide +kernel
theorem dX4_findRow_34 : decode cX4_findRow 34 = .ok (.iload_n 3, 1) := by decide +kernel
theorem dX4_findRow_35 : decode cX4_findRow 35 = .ok (.if_icmp .ne 15, 3) := by decide +kernel
theorem dX4_findRow_38 : decode cX4_findRow 38 = .ok (.aload_n 0, 1) := by decide +kernel
theorem dX4_findRow_39 : decode cX4_findRow 39 = .ok (.iload_n 3, 1) := by decide +kernel
theorem dX4_findRow_40 : decode cX4_findRow 40 = .ok (.iload_n 2, 1) := by decide +kernel
theorem dX4_findRow_41 : decode cX4_findRow 41 = .ok (.aload_n 0, 1) := by decide +kernel
theorem dX4_findRow_42 : decode cX4_findRow 42 = .ok (.iload_n 3, 1) := by decide +kernel
theorem dX4_findRow_43 : decode cX4_findRow 43 = .ok (.invokevirtual 44, 3) := by decide +kernel
theorem dX4_findRow_46 : decode cX4_findRow 46 = .ok (.isub, 1) := by decide +kernel
theorem dX4_findRow_47 : decode cX4_findRow 47 = .ok (.invokevirtual 48, 3) := by decide +kernel
theorem dX4_findRow_50 : decode cX4_findRow 50 = .ok (.iinc 3 1, 3) := by decide +kernel
theorem dX4_findRow_53 : decode cX4_findRow 53 = .ok (.goto (-27), 3) := by decide +kernel
theorem dX4_findRow_56 : decode cX4_findRow 56 = .ok (.aload_n 0, 1) := by decide +kernel
theorem dX4_findRow_57 : decode cX4_findRow 57 = .ok (.iload_n 1, 1) := by decide +kernel
theorem dX4_findRow_58 : decode cX4_findRow 58 = .ok (.invokevirtual 52, 3) := by decide +kernel
theorem dX4_findRow_61 : decode cX4_findRow 61 = .ok (.aload_n 0, 1) := by decide +kernel
theorem dX4_findRow_62 : decode cX4_findRow 62 = .ok (.getfield 25, 3) := by decide +kernel
theorem dX4_findRow_65 : decode cX4_findRow 65 = .ok (.iload_n 1, 1) := by decide +kernel
theorem dX4_findRow_66 : decode cX4_findRow 66 = .ok (.iaload, 1) := by decide +kernel
theorem dX4_findRow_67 : decode cX4_findRow 67 = .ok (.ireturn, 1) := by decide +kernel
theorem dX4_allOrders_0 : decode cX4_allOrders 0 = .ok (.iconst 0, 1) := by decide +kernel
theorem dX4_allOrders_1 : decode cX4_allOrders 1 = .ok (.istore_n 1, 1) := by decide +kernel
theorem dX4_allOrders_2 : decode cX4_allOrders 2 = .ok (.iconst 0, 1) := by decide +kernel
theorem dX4_allOrders_3 : decode cX4_allOrders 3 = .ok (.istore_n 2, 1) := by decide +kernel
theorem dX4_allOrders_4 : decode cX4_allOrders 4 = .ok (.iload_n 2, 1) := by decide +kernel
theorem dX4_allOrders_5 : decode cX4_allOrders 5 = .ok (.bipush 10, 2) := by decide +kernel
theorem dX4_allOrders_7 : decode cX4_allOrders 7 = .ok (.if_icmp .ge 28, 3) := by decide +kernel
theorem dX4_allOrders_10 : decode cX4_allOrders 10 = .ok (.iload_n 1, 1) := by decide +kernel
theorem dX4_allOrders_11 : decode cX4_allOrders 11 = .ok (.aload_n 0, 1) := by decide +kernel
theorem dX4_allOrders_12 : decode cX4_allOrders 12 = .ok (.getfield 11, 3) := by decide +kernel
theorem dX4_allOrders_15 : decode cX4_allOrders 15 = .ok (.iload_n 2, 1) := by decide +kernel
theorem dX4_allOrders_16 : decode cX4_allOrders 16 = .ok (.iaload, 1) := by decide +kernel
theorem dX4_allOrders_17 : decode cX4_allOrders 17 = .ok (.ifCond .le 9, 3) := by decide +kernel
theorem dX4_allOrders_20 : decode cX4_allOrders 20 = .ok (.iconst 1, 1) := by decide +kernel
theorem dX4_allOrders_21 : decode cX4_allOrders 21 = .ok (.iload_n 2, 1) := by decide +kernel
theorem dX4_allOrders_22 : decode cX4_allOrders 22 = .ok (.ishl, 1) := by decide +kernel
theorem dX4_allOrders_23 : decode cX4_allOrders 23 = .ok (.goto 4, 3) := by decide +kernel
theorem dX4_allOrders_26 : decode cX4_allOrders 26 = .ok (.iconst 0, 1) := by decide +kernel
theorem dX4_allOrders_27 : decode cX4_allOrders 27 = .ok (.ior, 1) := by decide +kernel
theorem dX4_allOrders_28 : decode cX4_allOrders 28 = .ok (.istore_n 1, 1) := by decide +kernel
theorem dX4_allOrders_29 : decode cX4_allOrders 29 = .ok (.iinc 2 1, 3) := by decide +kernel
theorem dX4_allOrders_32 : decode cX4_allOrders 32 = .ok (.goto (-28), 3) := by decide +kernel
theorem dX4_allOrders_35 : decode cX4_allOrders 35 = .ok (.iload_n 1, 1) := by decide +kernel
theorem dX4_allOrders_36 : decode cX4_allOrders 36 = .ok (.ireturn, 1) := by decide +kernel
theorem dX4_poursOf_0 : decode cX4_poursOf 0 = .ok (.iconst 0, 1) := by decide +kernel
theorem dX4_poursOf_1 : decode cX4_poursOf 1 = .ok (.istore_n 2, 1) := by decide +kernel
theorem dX4_poursOf_2 : decode cX4_poursOf 2 = .ok (.iconst 0, 1) := by decide +kernel
theorem dX4_poursOf_3 : decode cX4_poursOf 3 = .ok (.istore_n 3, 1) := by decide +kernel
theorem dX4_poursOf_4 : decode cX4_poursOf 4 = .ok (.iload_n 3, 1) := by decide +kernel
theorem dX4_poursOf_5 : decode cX4_poursOf 5 = .ok (.bipush 10, 2) := by decide +kernel
theorem dX4_poursOf_7 : decode cX4_poursOf 7 = .ok (.if_icmp .ge 24, 3) := by decide +kernel
theorem dX4_poursOf_10 : decode cX4_poursOf 10 = .ok (.iload_n 2, 1) := by decide +kernel
theorem dX4_poursOf_11 : decode cX4_poursOf 11 = .ok (.iload_n 1, 1) := by decide +kernel
theorem dX4_poursOf_12 : decode cX4_poursOf 12 = .ok (.iload_n 3, 1) := by decide +kernel
theorem dX4_poursOf_13 : decode cX4_poursOf 13 = .ok (.ishr, 1) := by decide +kernel
theorem dX4_poursOf_14 : decode cX4_poursOf 14 = .ok (.iconst 1, 1) := by decide +kernel
theorem dX4_poursOf_15 : decode cX4_poursOf 15 = .ok (.iand, 1) := by decide +kernel
theorem dX4_poursOf_16 : decode cX4_poursOf 16 = .ok (.aload_n 0, 1) := by decide +kernel
theorem dX4_poursOf_17 : decode cX4_poursOf 17 = .ok (.getfield 11, 3) := by decide +kernel
theorem dX4_poursOf_20 : decode cX4_poursOf 20 = .ok (.iload_n 3, 1) := by decide +kernel
theorem dX4_poursOf_21 : decode cX4_poursOf 21 = .ok (.iaload, 1) := by decide +kernel
theorem dX4_poursOf_22 : decode cX4_poursOf 22 = .ok (.imul, 1) := by decide +kernel
theorem dX4_poursOf_23 : decode cX4_poursOf 23 = .ok (.iadd, 1) := by decide +kernel
theorem dX4_poursOf_24 : decode cX4_poursOf 24 = .ok (.istore_n 2, 1) := by decide +kernel
theorem dX4_poursOf_25 : decode cX4_poursOf 25 = .ok (.iinc 3 1, 3) := by decide +kernel
theorem dX4_poursOf_28 : decode cX4_poursOf 28 = .ok (.goto (-24), 3) := by decide +kernel
theorem dX4_poursOf_31 : decode cX4_poursOf 31 = .ok (.iload_n 2, 1) := by decide +kernel
theorem dX4_poursOf_32 : decode cX4_poursOf 32 = .ok (.ireturn, 1) := by decide +kernel
theorem dX4_weighSet_0 : decode cX4_weighSet 0 = .ok (.aload_n 0, 1) := by decide +kernel
theorem dX4_weighSet_1 : decode cX4_weighSet 1 = .ok (.getfield 25, 3) := by decide +kernel
theorem dX4_weighSet_4 : decode cX4_weighSet 4 = .ok (.iload_n 1, 1) := by decide +kernel
theorem dX4_weighSet_5 : decode cX4_weighSet 5 = .ok (.ldc 56, 2) := by decide +kernel
theorem dX4_weighSet_7 : decode cX4_weighSet 7 = .ok (.iastore, 1) := by decide +kernel
theorem dX4_weighSet_8 : decode cX4_weighSet 8 = .ok (.iconst 0, 1) := by decide +kernel
theorem dX4_weighSet_9 : decode cX4_weighSet 9 = .ok (.istore_n 3, 1) := by decide +kernel
theorem dX4_weighSet_10 : decode cX4_weighSet 10 = .ok (.iload_n 3, 1) := by decide +kernel
theorem dX4_weighSet_11 : decode cX4_weighSet 11 = .ok (.bipush 10, 2) := by decide +kernel
theorem dX4_weighSet_13 : decode cX4_weighSet 13 = .ok (.if_icmp .ge 73, 3) := by decide +kernel
theorem dX4_weighSet_16 : decode cX4_weighSet 16 = .ok (.iload_n 1, 1) := by decide +kernel
theorem dX4_weighSet_17 : decode cX4_weighSet 17 = .ok (.iconst 1, 1) := by decide +kernel
theorem dX4_weighSet_18 : decode cX4_weighSet 18 = .ok (.iload_n 3, 1) := by decide +kernel
theorem dX4_weighSet_19 : decode cX4_weighSet 19 = .ok (.ishl, 1) := by decide +kernel
theorem dX4_weighSet_20 : decode cX4_weighSet 20 = .ok (.iconst (-1), 1) := by decide +kernel
theorem dX4_weighSet_21 : decode cX4_weighSet 21 = .ok (.ixor, 1) := by decide +kernel
theorem dX4_weighSet_22 : decode cX4_weighSet 22 = .ok (.iand, 1) := by decide +kernel
theorem dX4_weighSet_23 : decode cX4_weighSet 23 = .ok (.istore 4, 2) := by decide +kernel
theorem dX4_weighSet_25 : decode cX4_weighSet 25 = .ok (.iload 4, 2) := by decide +kernel
theorem dX4_weighSet_27 : decode cX4_weighSet 27 = .ok (.iload_n 1, 1) := by decide +kernel
theorem dX4_weighSet_28 : decode cX4_weighSet 28 = .ok (.if_icmp .eq 52, 3) := by decide +kernel
theorem dX4_weighSet_31 : decode cX4_weighSet 31 = .ok (.aload_n 0, 1) := by decide +kernel
theorem dX4_weighSet_32 : decode cX4_weighSet 32 = .ok (.getfield 18, 3) := by decide +kernel
theorem dX4_weighSet_35 : decode cX4_weighSet 35 = .ok (.iload_n 3, 1) := by decide +kernel
theorem dX4_weighSet_36 : decode cX4_weighSet 36 = .ok (.iaload, 1) := by decide +kernel
theorem dX4_weighSet_37 : decode cX4_weighSet 37 = .ok (.aload_n 0, 1) := by decide +kernel
theorem dX4_weighSet_38 : decode cX4_weighSet 38 = .ok (.iload_n 3, 1) := by decide +kernel
theorem dX4_weighSet_39 : decode cX4_weighSet 39 = .ok (.iload_n 2, 1) := by decide +kernel
theorem dX4_weighSet_40 : decode cX4_weighSet 40 = .ok (.invokevirtual 57, 3) := by decide +kernel
theorem dX4_weighSet_43 : decode cX4_weighSet 43 = .ok (.imul, 1) := by decide +kernel
theorem dX4_weighSet_44 : decode cX4_weighSet 44 = .ok (.aload_n 0, 1) := by decide +kernel
theorem dX4_weighSet_45 : decode cX4_weighSet 45 = .ok (.getfield 25, 3) := by decide +kernel
theorem dX4_weighSet_48 : decode cX4_weighSet 48 = .ok (.iload 4, 2) := by decide +kernel
theorem dX4_weighSet_50 : decode cX4_weighSet 50 = .ok (.iaload, 1) := by decide +kernel
theorem dX4_weighSet_51 : decode cX4_weighSet 51 = .ok (.iadd, 1) := by decide +kernel
theorem dX4_weighSet_52 : decode cX4_weighSet 52 = .ok (.istore 5, 2) := by decide +kernel
theorem dX4_weighSet_54 : decode cX4_weighSet 54 = .ok (.iload 5, 2) := by decide +kernel
theorem dX4_weighSet_56 : decode cX4_weighSet 56 = .ok (.aload_n 0, 1) := by decide +kernel
theorem dX4_weighSet_57 : decode cX4_weighSet 57 = .ok (.getfield 25, 3) := by decide +kernel
theorem dX4_weighSet_60 : decode cX4_weighSet 60 = .ok (.iload_n 1, 1) := by decide +kernel
theorem dX4_weighSet_61 : decode cX4_weighSet 61 = .ok (.iaload, 1) := by decide +kernel
theorem dX4_weighSet_62 : decode cX4_weighSet 62 = .ok (.if_icmp .ge 18, 3) := by decide +kernel
theorem dX4_weighSet_65 : decode cX4_weighSet 65 = .ok (.aload_n 0, 1) := by decide +kernel
theorem dX4_weighSet_66 : decode cX4_weighSet 66 = .ok (.getfield 25, 3) := by decide +kernel
theorem dX4_weighSet_69 : decode cX4_weighSet 69 = .ok (.iload_n 1, 1) := by decide +kernel
theorem dX4_weighSet_70 : decode cX4_weighSet 70 = .ok (.iload 5, 2) := by decide +kernel
theorem dX4_weighSet_72 : decode cX4_weighSet 72 = .ok (.iastore, 1) := by decide +kernel
theorem dX4_weighSet_73 : decode cX4_weighSet 73 = .ok (.aload_n 0, 1) := by decide +kernel
theorem dX4_weighSet_74 : decode cX4_weighSet 74 = .ok (.getfield 28, 3) := by decide +kernel
theorem dX4_weighSet_77 : decode cX4_weighSet 77 = .ok (.iload_n 1, 1) := by decide +kernel
theorem dX4_weighSet_78 : decode cX4_weighSet 78 = .ok (.iload_n 3, 1) := by decide +kernel
theorem dX4_weighSet_79 : decode cX4_weighSet 79 = .ok (.iastore, 1) := by decide +kernel
theorem dX4_weighSet_80 : decode cX4_weighSet 80 = .ok (.iinc 3 1, 3) := by decide +kernel
theorem dX4_weighSet_83 : decode cX4_weighSet 83 = .ok (.goto (-73), 3) := by decide +kernel
theorem dX4_weighSet_86 : decode cX4_weighSet 86 = .ok (.return_, 1) := by decide +kernel
theorem dX4_latenessOf_0 : decode cX4_latenessOf 0 = .ok (.iconst 0, 1) := by decide +kernel
theorem dX4_latenessOf_1 : decode cX4_latenessOf 1 = .ok (.iload_n 2, 1) := by decide +kernel
theorem dX4_latenessOf_2 : decode cX4_latenessOf 2 = .ok (.aload_n 0, 1) := by decide +kernel
theorem dX4_latenessOf_3 : decode cX4_latenessOf 3 = .ok (.getfield 11, 3) := by decide +kernel
theorem dX4_latenessOf_6 : decode cX4_latenessOf 6 = .ok (.iload_n 1, 1) := by decide +kernel
theorem dX4_latenessOf_7 : decode cX4_latenessOf 7 = .ok (.iaload, 1) := by decide +kernel
theorem dX4_latenessOf_8 : decode cX4_latenessOf 8 = .ok (.iadd, 1) := by decide +kernel
theorem dX4_latenessOf_9 : decode cX4_latenessOf 9 = .ok (.aload_n 0, 1) := by decide +kernel
theorem dX4_latenessOf_10 : decode cX4_latenessOf 10 = .ok (.getfield 21, 3) := by decide +kernel
theorem dX4_latenessOf_13 : decode cX4_latenessOf 13 = .ok (.iadd, 1) := by decide +kernel
theorem dX4_latenessOf_14 : decode cX4_latenessOf 14 = .ok (.aload_n 0, 1) := by decide +kernel
theorem dX4_latenessOf_15 : decode cX4_latenessOf 15 = .ok (.getfield 15, 3) := by decide +kernel
theorem dX4_latenessOf_18 : decode cX4_latenessOf 18 = .ok (.iload_n 1, 1) := by decide +kernel
theorem dX4_latenessOf_19 : decode cX4_latenessOf 19 = .ok (.iaload, 1) := by decide +kernel
theorem dX4_latenessOf_20 : decode cX4_latenessOf 20 = .ok (.isub, 1) := by decide +kernel
theorem dX4_latenessOf_21 : decode cX4_latenessOf 21 = .ok (.invokestatic 61, 3) := by decide +kernel
theorem dX4_latenessOf_24 : decode cX4_latenessOf 24 = .ok (.ireturn, 1) := by decide +kernel
theorem dX4_keepRow_0 : decode cX4_keepRow 0 = .ok (.iload_n 1, 1) := by decide +kernel
theorem dX4_keepRow_1 : decode cX4_keepRow 1 = .ok (.istore_n 2, 1) := by decide +kernel
theorem dX4_keepRow_2 : decode cX4_keepRow 2 = .ok (.iconst 0, 1) := by decide +kernel
theorem dX4_keepRow_3 : decode cX4_keepRow 3 = .ok (.istore_n 3, 1) := by decide +kernel
theorem dX4_keepRow_4 : decode cX4_keepRow 4 = .ok (.aload_n 0, 1) := by decide +kernel
theorem dX4_keepRow_5 : decode cX4_keepRow 5 = .ok (.iconst 0, 1) := by decide +kernel
theorem dX4_keepRow_6 : decode cX4_keepRow 6 = .ok (.putfield 37, 3) := by decide +kernel
theorem dX4_keepRow_9 : decode cX4_keepRow 9 = .ok (.iconst 0, 1) := by decide +kernel
theorem dX4_keepRow_10 : decode cX4_keepRow 10 = .ok (.istore 4, 2) := by decide +kernel
theorem dX4_keepRow_12 : decode cX4_keepRow 12 = .ok (.iload 4, 2) := by decide +kernel
theorem dX4_keepRow_14 : decode cX4_keepRow 14 = .ok (.bipush 10, 2) := by decide +kernel
theorem dX4_keepRow_16 : decode cX4_keepRow 16 = .ok (.if_icmp .ge 71, 3) := by decide +kernel
theorem dX4_keepRow_19 : decode cX4_keepRow 19 = .ok (.iload_n 2, 1) := by decide +kernel
theorem dX4_keepRow_20 : decode cX4_keepRow 20 = .ok (.ifCond .eq 67, 3) := by decide +kernel
theorem dX4_keepRow_23 : decode cX4_keepRow 23 = .ok (.aload_n 0, 1) := by decide +kernel
theorem dX4_keepRow_24 : decode cX4_keepRow 24 = .ok (.getfield 28, 3) := by decide +kernel
theorem dX4_keepRow_27 : decode cX4_keepRow 27 = .ok (.iload_n 2, 1) := by decide +kernel
theorem dX4_keepRow_28 : decode cX4_keepRow 28 = .ok (.iaload, 1) := by decide +kernel
theorem dX4_keepRow_29 : decode cX4_keepRow 29 = .ok (.istore 5, 2) := by decide +kernel
theorem dX4_keepRow_31 : decode cX4_keepRow 31 = .ok (.aload_n 0, 1) := by decide +kernel
theorem dX4_keepRow_32 : decode cX4_keepRow 32 = .ok (.getfield 31, 3) := by decide +kernel
theorem dX4_keepRow_35 : decode cX4_keepRow 35 = .ok (.iload 4, 2) := by decide +kernel
theorem dX4_keepRow_37 : decode cX4_keepRow 37 = .ok (.iload 5, 2) := by decide +kernel
theorem dX4_keepRow_39 : decode cX4_keepRow 39 = .ok (.iastore, 1) := by decide +kernel
theorem dX4_keepRow_40 : decode cX4_keepRow 40 = .ok (.aload_n 0, 1) := by decide +kernel
theorem dX4_keepRow_41 : decode cX4_keepRow 41 = .ok (.getfield 34, 3) := by decide +kernel
theorem dX4_keepRow_44 : decode cX4_keepRow 44 = .ok (.iload 4, 2) := by decide +kernel
theorem dX4_keepRow_46 : decode cX4_keepRow 46 = .ok (.aload_n 0, 1) := by decide +kernel
theorem dX4_keepRow_47 : decode cX4_keepRow 47 = .ok (.iload 5, 2) := by decide +kernel
theorem dX4_keepRow_49 : decode cX4_keepRow 49 = .ok (.iload_n 3, 1) := by decide +kernel
theorem dX4_keepRow_50 : decode cX4_keepRow 50 = .ok (.invokevirtual 57, 3) := by decide +kernel
theorem dX4_keepRow_53 : decode cX4_keepRow 53 = .ok (.iastore, 1) := by decide +kernel
theorem dX4_keepRow_54 : decode cX4_keepRow 54 = .ok (.aload_n 0, 1) := by decide +kernel
theorem dX4_keepRow_55 : decode cX4_keepRow 55 = .ok (.iload 4, 2) := by decide +kernel
theorem dX4_keepRow_57 : decode cX4_keepRow 57 = .ok (.iconst 1, 1) := by decide +kernel
theorem dX4_keepRow_58 : decode cX4_keepRow 58 = .ok (.iadd, 1) := by decide +kernel
theorem dX4_keepRow_59 : decode cX4_keepRow 59 = .ok (.putfield 37, 3) := by decide +kernel
theorem dX4_keepRow_62 : decode cX4_keepRow 62 = .ok (.iload_n 3, 1) := by decide +kernel
theorem dX4_keepRow_63 : decode cX4_keepRow 63 = .ok (.aload_n 0, 1) := by decide +kernel
theorem dX4_keepRow_64 : decode cX4_keepRow 64 = .ok (.getfield 11, 3) := by decide +kernel
theorem dX4_keepRow_67 : decode cX4_keepRow 67 = .ok (.iload 5, 2) := by decide +kernel
theorem dX4_keepRow_69 : decode cX4_keepRow 69 = .ok (.iaload, 1) := by decide +kernel
theorem dX4_keepRow_70 : decode cX4_keepRow 70 = .ok (.iadd, 1) := by decide +kernel
theorem dX4_keepRow_71 : decode cX4_keepRow 71 = .ok (.istore_n 3, 1) := by decide +kernel
theorem dX4_keepRow_72 : decode cX4_keepRow 72 = .ok (.iload_n 2, 1) := by decide +kernel
theorem dX4_keepRow_73 : decode cX4_keepRow 73 = .ok (.iconst 1, 1) := by decide +kernel
theorem dX4_keepRow_74 : decode cX4_keepRow 74 = .ok (.iload 5, 2) := by decide +kernel
theorem dX4_keepRow_76 : decode cX4_keepRow 76 = .ok (.ishl, 1) := by decide +kernel
theorem dX4_keepRow_77 : decode cX4_keepRow 77 = .ok (.iconst (-1), 1) := by decide +kernel
theorem dX4_keepRow_78 : decode cX4_keepRow 78 = .ok (.ixor, 1) := by decide +kernel
theorem dX4_keepRow_79 : decode cX4_keepRow 79 = .ok (.iand, 1) := by decide +kernel
theorem dX4_keepRow_80 : decode cX4_keepRow 80 = .ok (.istore_n 2, 1) := by decide +kernel
theorem dX4_keepRow_81 : decode cX4_keepRow 81 = .ok (.iinc 4 1, 3) := by decide +kernel
theorem dX4_keepRow_84 : decode cX4_keepRow 84 = .ok (.goto (-72), 3) := by decide +kernel
theorem dX4_keepRow_87 : decode cX4_keepRow 87 = .ok (.return_, 1) := by decide +kernel
theorem dX5_init_0 : decode cX5_init 0 = .ok (.aload_n 0, 1) := by decide +kernel
theorem dX5_init_1 : decode cX5_init 1 = .ok (.invokespecial 3, 3) := by decide +kernel
theorem dX5_init_4 : decode cX5_init 4 = .ok (.aload_n 0, 1) := by decide +kernel
theorem dX5_init_5 : decode cX5_init 5 = .ok (.sipush 1000, 3) := by decide +kernel
theorem dX5_init_8 : decode cX5_init 8 = .ok (.newarray .int, 2) := by decide +kernel
theorem dX5_init_10 : decode cX5_init 10 = .ok (.putfield 11, 3) := by decide +kernel
theorem dX5_init_13 : decode cX5_init 13 = .ok (.aload_n 0, 1) := by decide +kernel
theorem dX5_init_14 : decode cX5_init 14 = .ok (.sipush 1000, 3) := by decide +kernel
theorem dX5_init_17 : decode cX5_init 17 = .ok (.newarray .int, 2) := by decide +kernel
theorem dX5_init_19 : decode cX5_init 19 = .ok (.putfield 17, 3) := by decide +kernel
theorem dX5_init_22 : decode cX5_init 22 = .ok (.aload_n 0, 1) := by decide +kernel
theorem dX5_init_23 : decode cX5_init 23 = .ok (.aload_n 1, 1) := by decide +kernel
theorem dX5_init_24 : decode cX5_init 24 = .ok (.putfield 20, 3) := by decide +kernel
theorem dX5_init_27 : decode cX5_init 27 = .ok (.return_, 1) := by decide +kernel
theorem dX5_numberAt_0 : decode cX5_numberAt 0 = .ok (.iload_n 1, 1) := by decide +kernel
theorem dX5_numberAt_1 : decode cX5_numberAt 1 = .ok (.ifCond .lt 19, 3) := by decide +kernel
theorem dX5_numberAt_4 : decode cX5_numberAt 4 = .ok (.iload_n 1, 1) := by decide +kernel
theorem dX5_numberAt_5 : decode cX5_numberAt 5 = .ok (.sipush 1000, 3) := by decide +kernel
theorem dX5_numberAt_8 : decode cX5_numberAt 8 = .ok (.if_icmp .ge 12, 3) := by decide +kernel
theorem dX5_numberAt_11 : decode cX5_numberAt 11 = .ok (.aload_n 0, 1) := by decide +kernel
theorem dX5_numberAt_12 : decode cX5_numberAt 12 = .ok (.getfield 11, 3) := by decide +kernel
theorem dX5_numberAt_15 : decode cX5_numberAt 15 = .ok (.iload_n 1, 1) := by decide +kernel
theorem dX5_numberAt_16 : decode cX5_numberAt 16 = .ok (.iaload, 1) := by decide +kernel
theorem dX5_numberAt_17 : decode cX5_numberAt 17 = .ok (.goto 4, 3) := by decide +kernel
theorem dX5_numberAt_20 : decode cX5_numberAt 20 = .ok (.iconst (-1), 1) := by decide +kernel
theorem dX5_numberAt_21 : decode cX5_numberAt 21 = .ok (.ireturn, 1) := by decide +kernel
theorem dX5_part_0 : decode cX5_part 0 = .ok (.aload_n 0, 1) := by decide +kernel
theorem dX5_part_1 : decode cX5_part 1 = .ok (.iload_n 1, 1) := by decide +kernel
theorem dX5_part_2 : decode cX5_part 2 = .ok (.iload_n 2, 1) := by decide +kernel
theorem dX5_part_3 : decode cX5_part 3 = .ok (.invokevirtual 24, 3) := by decide +kernel
theorem dX5_part_6 : decode cX5_part 6 = .ok (.iload_n 3, 1) := by decide +kernel
theorem dX5_part_7 : decode cX5_part 7 = .ok (.istore 4, 2) := by decide +kernel
theorem dX5_part_9 : decode cX5_part 9 = .ok (.iconst 0, 1) := by decide +kernel
theorem dX5_part_10 : decode cX5_part 10 = .ok (.istore 5, 2) := by decide +kernel
theorem dX5_part_12 : decode cX5_part 12 = .ok (.iload 5, 2) := by decide +kernel
theorem dX5_part_14 : decode cX5_part 14 = .ok (.aload_n 0, 1) := by decide +kernel
theorem dX5_part_15 : decode cX5_part 15 = .ok (.getfield 20, 3) := by decide +kernel
theorem dX5_part_18 : decode cX5_part 18 = .ok (.invokevirtual 28, 3) := by decide +kernel
theorem dX5_part_21 : decode cX5_part 21 = .ok (.if_icmp .ge 42, 3) := by decide +kernel
theorem dX5_part_24 : decode cX5_part 24 = .ok (.aload_n 0, 1) := by decide +kernel
theorem dX5_part_25 : decode cX5_part 25 = .ok (.getfield 20, 3) := by decide +kernel
theorem dX5_part_28 : decode cX5_part 28 = .ok (.iload 5, 2) := by decide +kernel
theorem dX5_part_30 : decode cX5_part 30 = .ok (.invokevirtual 34, 3) := by decide +kernel
theorem dX5_part_33 : decode cX5_part 33 = .ok (.istore 6, 2) := by decide +kernel
theorem dX5_part_35 : decode cX5_part 35 = .ok (.aload_n 0, 1) := by decide +kernel
theorem dX5_part_36 : decode cX5_part 36 = .ok (.iload 6, 2) := by decide +kernel
theorem dX5_part_38 : decode cX5_part 38 = .ok (.invokevirtual 38, 3) := by decide +kernel
theorem dX5_part_41 : decode cX5_part 41 = .ok (.bipush (-2), 2) := by decide +kernel
theorem dX5_part_43 : decode cX5_part 43 = .ok (.if_icmp .ne 14, 3) := by decide +kernel
theorem dX5_part_46 : decode cX5_part 46 = .ok (.aload_n 0, 1) := by decide +kernel
theorem dX5_part_47 : decode cX5_part 47 = .ok (.iload 6, 2) := by decide +kernel
theorem dX5_part_49 : decode cX5_part 49 = .ok (.iload 4, 2) := by decide +kernel
theorem dX5_part_51 : decode cX5_part 51 = .ok (.invokevirtual 41, 3) := by decide +kernel
theorem dX5_part_54 : decode cX5_part 54 = .ok (.iinc 4 1, 3) := by decide +kernel
theorem dX5_part_57 : decode cX5_part 57 = .ok (.iinc 5 1, 3) := by decide +kernel
theorem dX5_part_60 : decode cX5_part 60 = .ok (.goto (-48), 3) := by decide +kernel
theorem dX5_part_63 : decode cX5_part 63 = .ok (.iload 4, 2) := by decide +kernel
theorem dX5_part_65 : decode cX5_part 65 = .ok (.iload_n 3, 1) := by decide +kernel
theorem dX5_part_66 : decode cX5_part 66 = .ok (.isub, 1) := by decide +kernel
theorem dX5_part_67 : decode cX5_part 67 = .ok (.ireturn, 1) := by decide +kernel
theorem dX5_openCells_0 : decode cX5_openCells 0 = .ok (.iconst 0, 1) := by decide +kernel
theorem dX5_openCells_1 : decode cX5_openCells 1 = .ok (.istore_n 3, 1) := by decide +kernel
theorem dX5_openCells_2 : decode cX5_openCells 2 = .ok (.iload_n 3, 1) := by decide +kernel
theorem dX5_openCells_3 : decode cX5_openCells 3 = .ok (.aload_n 0, 1) := by decide +kernel
theorem dX5_openCells_4 : decode cX5_openCells 4 = .ok (.getfield 20, 3) := by decide +kernel
theorem dX5_openCells_7 : decode cX5_openCells 7 = .ok (.invokevirtual 28, 3) := by decide +kernel
theorem dX5_openCells_10 : decode cX5_openCells 10 = .ok (.if_icmp .ge 56, 3) := by decide +kernel
theorem dX5_openCells_13 : decode cX5_openCells 13 = .ok (.aload_n 0, 1) := by decide +kernel
theorem dX5_openCells_14 : decode cX5_openCells 14 = .ok (.getfield 20, 3) := by decide +kernel
theorem dX5_openCells_17 : decode cX5_openCells 17 = .ok (.iload_n 3, 1) := by decide +kernel
theorem dX5_openCells_18 : decode cX5_openCells 18 = .ok (.invokevirtual 34, 3) := by decide +kernel
theorem dX5_openCells_21 : decode cX5_openCells 21 = .ok (.istore 4, 2) := by decide +kernel
theorem dX5_openCells_23 : decode cX5_openCells 23 = .ok (.aload_n 0, 1) := by decide +kernel
theorem dX5_openCells_24 : decode cX5_openCells 24 = .ok (.getfield 20, 3) := by decide +kernel
theorem dX5_openCells_27 : decode cX5_openCells 27 = .ok (.iload 4, 2) := by decide +kernel
theorem dX5_openCells_29 : decode cX5_openCells 29 = .ok (.invokevirtual 44, 3) := by decide +kernel
theorem dX5_openCells_32 : decode cX5_openCells 32 = .ok (.istore 5, 2) := by decide +kernel
theorem dX5_openCells_34 : decode cX5_openCells 34 = .ok (.iload 5, 2) := by decide +kernel
theorem dX5_openCells_36 : decode cX5_openCells 36 = .ok (.iload_n 1, 1) := by decide +kernel
theorem dX5_openCells_37 : decode cX5_openCells 37 = .ok (.ishr, 1) := by decide +kernel
theorem dX5_openCells_38 : decode cX5_openCells 38 = .ok (.iconst 1, 1) := by decide +kernel
theorem dX5_openCells_39 : decode cX5_openCells 39 = .ok (.iand, 1) := by decide +kernel
theorem dX5_openCells_40 : decode cX5_openCells 40 = .ok (.iconst 1, 1) := by decide +kernel
theorem dX5_openCells_41 : decode cX5_openCells 41 = .ok (.if_icmp .ne 19, 3) := by decide +kernel
theorem dX5_openCells_44 : decode cX5_openCells 44 = .ok (.iload 5, 2) := by decide +kernel
theorem dX5_openCells_46 : decode cX5_openCells 46 = .ok (.iload_n 2, 1) := by decide +kernel
theorem dX5_openCells_47 : decode cX5_openCells 47 = .ok (.iand, 1) := by decide +kernel
theorem dX5_openCells_48 : decode cX5_openCells 48 = .ok (.ifCond .ne 12, 3) := by decide +kernel
theorem dX5_openCells_51 : decode cX5_openCells 51 = .ok (.aload_n 0, 1) := by decide +kernel
theorem dX5_openCells_52 : decode cX5_openCells 52 = .ok (.getfield 11, 3) := by decide +kernel
theorem dX5_openCells_55 : decode cX5_openCells 55 = .ok (.iload 4, 2) := by decide +kernel
theorem dX5_openCells_57 : decode cX5_openCells 57 = .ok (.bipush (-2), 2) := by decide +kernel
theorem dX5_openCells_59 : decode cX5_openCells 59 = .ok (.iastore, 1) := by decide +kernel
theorem dX5_openCells_60 : decode cX5_openCells 60 = .ok (.iinc 3 1, 3) := by decide +kernel
theorem dX5_openCells_63 : decode cX5_openCells 63 = .ok (.goto (-61), 3) := by decide +kernel
theorem dX5_openCells_66 : decode cX5_openCells 66 = .ok (.return_, 1) := by decide +kernel
theorem dX5_spread_0 : decode cX5_spread 0 = .ok (.aload_n 0, 1) := by decide +kernel
theorem dX5_spread_1 : decode cX5_spread 1 = .ok (.iload_n 1, 1) := by decide +kernel
theorem dX5_spread_2 : decode cX5_spread 2 = .ok (.iload_n 2, 1) := by decide +kernel
theorem dX5_spread_3 : decode cX5_spread 3 = .ok (.iconst 0, 1) := by decide +kernel
theorem dX5_spread_4 : decode cX5_spread 4 = .ok (.invokevirtual 47, 3) := by decide +kernel
theorem dX5_spread_7 : decode cX5_spread 7 = .ok (.istore_n 3, 1) := by decide +kernel
theorem dX5_spread_8 : decode cX5_spread 8 = .ok (.iconst 0, 1) := by decide +kernel
theorem dX5_spread_9 : decode cX5_spread 9 = .ok (.istore 4, 2) := by decide +kernel
theorem dX5_spread_11 : decode cX5_spread 11 = .ok (.iload 4, 2) := by decide +kernel
theorem dX5_spread_13 : decode cX5_spread 13 = .ok (.iload_n 3, 1) := by decide +kernel
theorem dX5_spread_14 : decode cX5_spread 14 = .ok (.if_icmp .ge 56, 3) := by decide +kernel
theorem dX5_spread_17 : decode cX5_spread 17 = .ok (.iload 4, 2) := by decide +kernel
theorem dX5_spread_19 : decode cX5_spread 19 = .ok (.sipush 1000, 3) := by decide +kernel
theorem dX5_spread_22 : decode cX5_spread 22 = .ok (.if_icmp .ge 48, 3) := by decide +kernel
theorem dX5_spread_25 : decode cX5_spread 25 = .ok (.iconst 0, 1) := by decide +kernel
theorem dX5_spread_26 : decode cX5_spread 26 = .ok (.istore 5, 2) := by decide +kernel
theorem dX5_spread_28 : decode cX5_spread 28 = .ok (.iload 5, 2) := by decide +kernel
theorem dX5_spread_30 : decode cX5_spread 30 = .ok (.bipush 6, 2) := by decide +kernel
theorem dX5_spread_32 : decode cX5_spread 32 = .ok (.if_icmp .ge 32, 3) := by decide +kernel
theorem dX5_spread_35 : decode cX5_spread 35 = .ok (.aload_n 0, 1) := by decide +kernel
theorem dX5_spread_36 : decode cX5_spread 36 = .ok (.aload_n 0, 1) := by decide +kernel
theorem dX5_spread_37 : decode cX5_spread 37 = .ok (.getfield 20, 3) := by decide +kernel
theorem dX5_spread_40 : decode cX5_spread 40 = .ok (.aload_n 0, 1) := by decide +kernel
theorem dX5_spread_41 : decode cX5_spread 41 = .ok (.getfield 17, 3) := by decide +kernel
theorem dX5_spread_44 : decode cX5_spread 44 = .ok (.iload 4, 2) := by decide +kernel
theorem dX5_spread_46 : decode cX5_spread 46 = .ok (.iaload, 1) := by decide +kernel
theorem dX5_spread_47 : decode cX5_spread 47 = .ok (.iload 5, 2) := by decide +kernel
theorem dX5_spread_49 : decode cX5_spread 49 = .ok (.invokevirtual 51, 3) := by decide +kernel
theorem dX5_spread_52 : decode cX5_spread 52 = .ok (.iload_n 2, 1) := by decide +kernel
theorem dX5_spread_53 : decode cX5_spread 53 = .ok (.iload_n 3, 1) := by decide +kernel
theorem dX5_spread_54 : decode cX5_spread 54 = .ok (.invokevirtual 47, 3) := by decide +kernel
theorem dX5_spread_57 : decode cX5_spread 57 = .ok (.istore_n 3, 1) := by decide +kernel
theorem dX5_spread_58 : decode cX5_spread 58 = .ok (.iinc 5 1, 3) := by decide +kernel
theorem dX5_spread_61 : decode cX5_spread 61 = .ok (.goto (-33), 3) := by decide +kernel
theorem dX5_spread_64 : decode cX5_spread 64 = .ok (.iinc 4 1, 3) := by decide +kernel
theorem dX5_spread_67 : decode cX5_spread 67 = .ok (.goto (-56), 3) := by decide +kernel
theorem dX5_spread_70 : decode cX5_spread 70 = .ok (.return_, 1) := by decide +kernel
theorem dX5_reach_0 : decode cX5_reach 0 = .ok (.iload_n 1, 1) := by decide +kernel
theorem dX5_reach_1 : decode cX5_reach 1 = .ok (.ifCond .lt 28, 3) := by decide +kernel
theorem dX5_reach_4 : decode cX5_reach 4 = .ok (.iload_n 1, 1) := by decide +kernel
theorem dX5_reach_5 : decode cX5_reach 5 = .ok (.sipush 1000, 3) := by decide +kernel
theorem dX5_reach_8 : decode cX5_reach 8 = .ok (.if_icmp .ge 21, 3) := by decide +kernel
theorem dX5_reach_11 : decode cX5_reach 11 = .ok (.aload_n 0, 1) := by decide +kernel
theorem dX5_reach_12 : decode cX5_reach 12 = .ok (.getfield 11, 3) := by decide +kernel
theorem dX5_reach_15 : decode cX5_reach 15 = .ok (.iload_n 1, 1) := by decide +kernel
theorem dX5_reach_16 : decode cX5_reach 16 = .ok (.iaload, 1) := by decide +kernel
theorem dX5_reach_17 : decode cX5_reach 17 = .ok (.bipush (-2), 2) := by decide +kernel
theorem dX5_reach_19 : decode cX5_reach 19 = .ok (.if_icmp .ne 10, 3) := by decide +kernel
theorem dX5_reach_22 : decode cX5_reach 22 = .ok (.iload_n 3, 1) := by decide +kernel
theorem dX5_reach_23 : decode cX5_reach 23 = .ok (.sipush 1000, 3) := by decide +kernel
theorem dX5_reach_26 : decode cX5_reach 26 = .ok (.if_icmp .lt 5, 3) := by decide +kernel
theorem dX5_reach_29 : decode cX5_reach 29 = .ok (.iload_n 3, 1) := by decide +kernel
theorem dX5_reach_30 : decode cX5_reach 30 = .ok (.ireturn, 1) := by decide +kernel
theorem dX5_reach_31 : decode cX5_reach 31 = .ok (.aload_n 0, 1) := by decide +kernel
theorem dX5_reach_32 : decode cX5_reach 32 = .ok (.getfield 11, 3) := by decide +kernel
theorem dX5_reach_35 : decode cX5_reach 35 = .ok (.iload_n 1, 1) := by decide +kernel
theorem dX5_reach_36 : decode cX5_reach 36 = .ok (.iload_n 2, 1) := by decide +kernel
theorem dX5_reach_37 : decode cX5_reach 37 = .ok (.iastore, 1) := by decide +kernel
theorem dX5_reach_38 : decode cX5_reach 38 = .ok (.aload_n 0, 1) := by decide +kernel
theorem dX5_reach_39 : decode cX5_reach 39 = .ok (.getfield 17, 3) := by decide +kernel
theorem dX5_reach_42 : decode cX5_reach 42 = .ok (.iload_n 3, 1) := by decide +kernel
theorem dX5_reach_43 : decode cX5_reach 43 = .ok (.iload_n 1, 1) := by decide +kernel
theorem dX5_reach_44 : decode cX5_reach 44 = .ok (.iastore, 1) := by decide +kernel
theorem dX5_reach_45 : decode cX5_reach 45 = .ok (.iload_n 3, 1) := by decide +kernel
theorem dX5_reach_46 : decode cX5_reach 46 = .ok (.iconst 1, 1) := by decide +kernel
theorem dX5_reach_47 : decode cX5_reach 47 = .ok (.iadd, 1) := by decide +kernel
theorem dX5_reach_48 : decode cX5_reach 48 = .ok (.ireturn, 1) := by decide +kernel
theorem dX6_init_0 : decode cX6_init 0 = .ok (.aload_n 0, 1) := by decide +kernel
theorem dX6_init_1 : decode cX6_init 1 = .ok (.invokespecial 3, 3) := by decide +kernel
theorem dX6_init_4 : decode cX6_init 4 = .ok (.aload_n 0, 1) := by decide +kernel
theorem dX6_init_5 : decode cX6_init 5 = .ok (.sipush 1000, 3) := by decide +kernel
theorem dX6_init_8 : decode cX6_init 8 = .ok (.newarray .int, 2) := by decide +kernel
theorem dX6_init_10 : decode cX6_init 10 = .ok (.putfield 11, 3) := by decide +kernel
theorem dX6_init_13 : decode cX6_init 13 = .ok (.aload_n 0, 1) := by decide +kernel
theorem dX6_init_14 : decode cX6_init 14 = .ok (.sipush 1000, 3) := by decide +kernel
theorem dX6_init_17 : decode cX6_init 17 = .ok (.newarray .int, 2) := by decide +kernel
theorem dX6_init_19 : decode cX6_init 19 = .ok (.putfield 17, 3) := by decide +kernel
theorem dX6_init_22 : decode cX6_init 22 = .ok (.aload_n 0, 1) := by decide +kernel
theorem dX6_init_23 : decode cX6_init 23 = .ok (.sipush 1000, 3) := by decide +kernel
theorem dX6_init_26 : decode cX6_init 26 = .ok (.newarray .int, 2) := by decide +kernel
theorem dX6_init_28 : decode cX6_init 28 = .ok (.putfield 20, 3) := by decide +kernel
theorem dX6_init_31 : decode cX6_init 31 = .ok (.aload_n 0, 1) := by decide +kernel
theorem dX6_init_32 : decode cX6_init 32 = .ok (.sipush 1000, 3) := by decide +kernel
theorem dX6_init_35 : decode cX6_init 35 = .ok (.newarray .int, 2) := by decide +kernel
theorem dX6_init_37 : decode cX6_init 37 = .ok (.putfield 23, 3) := by decide +kernel
theorem dX6_init_40 : decode cX6_init 40 = .ok (.aload_n 0, 1) := by decide +kernel
theorem dX6_init_41 : decode cX6_init 41 = .ok (.bipush 20, 2) := by decide +kernel
theorem dX6_init_43 : decode cX6_init 43 = .ok (.putfield 26, 3) := by decide +kernel
theorem dX6_init_46 : decode cX6_init 46 = .ok (.aload_n 0, 1) := by decide +kernel
theorem dX6_init_47 : decode cX6_init 47 = .ok (.iconst 1, 1) := by decide +kernel
theorem dX6_init_48 : decode cX6_init 48 = .ok (.putfield 30, 3) := by decide +kernel
theorem dX6_init_51 : decode cX6_init 51 = .ok (.return_, 1) := by decide +kernel
theorem dX6_clear_0 : decode cX6_clear 0 = .ok (.aload_n 0, 1) := by decide +kernel
theorem dX6_clear_1 : decode cX6_clear 1 = .ok (.iconst 0, 1) := by decide +kernel
theorem dX6_clear_2 : decode cX6_clear 2 = .ok (.putfield 33, 3) := by decide +kernel
theorem dX6_clear_5 : decode cX6_clear 5 = .ok (.return_, 1) := by decide +kernel
theorem dX6_count_0 : decode cX6_count 0 = .ok (.aload_n 0, 1) := by decide +kernel
theorem dX6_count_1 : decode cX6_count 1 = .ok (.getfield 33, 3) := by decide +kernel
theorem dX6_count_4 : decode cX6_count 4 = .ok (.ireturn, 1) := by decide +kernel
theorem dX6_has_0 : decode cX6_has 0 = .ok (.iload_n 1, 1) := by decide +kernel
theorem dX6_has_1 : decode cX6_has 1 = .ok (.ifCond .lt 15, 3) := by decide +kernel
theorem dX6_has_4 : decode cX6_has 4 = .ok (.iload_n 1, 1) := by decide +kernel
theorem dX6_has_5 : decode cX6_has 5 = .ok (.aload_n 0, 1) := by decide +kernel
theorem dX6_has_6 : decode cX6_has 6 = .ok (.getfield 33, 3) := by decide +kernel
theorem dX6_has_9 : decode cX6_has 9 = .ok (.if_icmp .ge 7, 3) := by decide +kernel
theorem dX6_has_12 : decode cX6_has 12 = .ok (.iconst 1, 1) := by decide +kernel
theorem dX6_has_13 : decode cX6_has 13 = .ok (.goto 4, 3) := by decide +kernel
theorem dX6_has_16 : decode cX6_has 16 = .ok (.iconst 0, 1) := by decide +kernel
theorem dX6_has_17 : decode cX6_has 17 = .ok (.ireturn, 1) := by decide +kernel
theorem dX6_add_0 : decode cX6_add 0 = .ok (.iconst 0, 1) := by decide +kernel
theorem dX6_add_1 : decode cX6_add 1 = .ok (.istore_n 3, 1) := by decide +kernel
theorem dX6_add_2 : decode cX6_add 2 = .ok (.iload_n 3, 1) := by decide +kernel
theorem dX6_add_3 : decode cX6_add 3 = .ok (.iload_n 2, 1) := by decide +kernel
theorem dX6_add_4 : decode cX6_add 4 = .ok (.if_icmp .ge 69, 3) := by decide +kernel
theorem dX6_add_7 : decode cX6_add 7 = .ok (.aload_n 0, 1) := by decide +kernel
theorem dX6_add_8 : decode cX6_add 8 = .ok (.getfield 33, 3) := by decide +kernel
theorem dX6_add_11 : decode cX6_add 11 = .ok (.sipush 1000, 3) := by decide +kernel
theorem dX6_add_14 : decode cX6_add 14 = .ok (.if_icmp .ge 59, 3) := by decide +kernel
theorem dX6_add_17 : decode cX6_add 17 = .ok (.aload_n 0, 1) := by decide +kernel
theorem dX6_add_18 : decode cX6_add 18 = .ok (.getfield 11, 3) := by decide +kernel
theorem dX6_add_21 : decode cX6_add 21 = .ok (.aload_n 0, 1) := by decide +kernel
theorem dX6_add_22 : decode cX6_add 22 = .ok (.getfield 33, 3) := by decide +kernel
theorem dX6_add_25 : decode cX6_add 25 = .ok (.iload_n 1, 1) := by decide +kernel
theorem dX6_add_26 : decode cX6_add 26 = .ok (.iastore, 1) := by decide +kernel
theorem dX6_add_27 : decode cX6_add 27 = .ok (.aload_n 0, 1) := by decide +kernel
theorem dX6_add_28 : decode cX6_add 28 = .ok (.getfield 17, 3) := by decide +kernel
theorem dX6_add_31 : decode cX6_add 31 = .ok (.aload_n 0, 1) := by decide +kernel
theorem dX6_add_32 : decode cX6_add 32 = .ok (.getfield 33, 3) := by decide +kernel
theorem dX6_add_35 : decode cX6_add 35 = .ok (.iconst 0, 1) := by decide +kernel
theorem dX6_add_36 : decode cX6_add 36 = .ok (.iastore, 1) := by decide +kernel
theorem dX6_add_37 : decode cX6_add 37 = .ok (.aload_n 0, 1) := by decide +kernel
theorem dX6_add_38 : decode cX6_add 38 = .ok (.getfield 20, 3) := by decide +kernel
theorem dX6_add_41 : decode cX6_add 41 = .ok (.aload_n 0, 1) := by decide +kernel
theorem dX6_add_42 : decode cX6_add 42 = .ok (.getfield 33, 3) := by decide +kernel
theorem dX6_add_45 : decode cX6_add 45 = .ok (.iconst 0, 1) := by decide +kernel
theorem dX6_add_46 : decode cX6_add 46 = .ok (.iastore, 1) := by decide +kernel
theorem dX6_add_47 : decode cX6_add 47 = .ok (.aload_n 0, 1) := by decide +kernel
theorem dX6_add_48 : decode cX6_add 48 = .ok (.getfield 23, 3) := by decide +kernel
theorem dX6_add_51 : decode cX6_add 51 = .ok (.aload_n 0, 1) := by decide +kernel
theorem dX6_add_52 : decode cX6_add 52 = .ok (.getfield 33, 3) := by decide +kernel
theorem dX6_add_55 : decode cX6_add 55 = .ok (.iconst 0, 1) := by decide +kernel
theorem dX6_add_56 : decode cX6_add 56 = .ok (.iastore, 1) := by decide +kernel
theorem dX6_add_57 : decode cX6_add 57 = .ok (.aload_n 0, 1) := by decide +kernel
theorem dX6_add_58 : decode cX6_add 58 = .ok (.dup, 1) := by decide +kernel
theorem dX6_add_59 : decode cX6_add 59 = .ok (.getfield 33, 3) := by decide +kernel
theorem dX6_add_62 : decode cX6_add 62 = .ok (.iconst 1, 1) := by decide +kernel
theorem dX6_add_63 : decode cX6_add 63 = .ok (.iadd, 1) := by decide +kernel
theorem dX6_add_64 : decode cX6_add 64 = .ok (.putfield 33, 3) := by decide +kernel
theorem dX6_add_67 : decode cX6_add 67 = .ok (.iinc 3 1, 3) := by decide +kernel
theorem dX6_add_70 : decode cX6_add 70 = .ok (.goto (-68), 3) := by decide +kernel
theorem dX6_add_73 : decode cX6_add 73 = .ok (.return_, 1) := by decide +kernel
theorem dX6_gather_0 : decode cX6_gather 0 = .ok (.iconst 0, 1) := by decide +kernel
theorem dX6_gather_1 : decode cX6_gather 1 = .ok (.istore_n 3, 1) := by decide +kernel
theorem dX6_gather_2 : decode cX6_gather 2 = .ok (.iload_n 3, 1) := by decide +kernel
theorem dX6_gather_3 : decode cX6_gather 3 = .ok (.aload_n 1, 1) := by decide +kernel
theorem dX6_gather_4 : decode cX6_gather 4 = .ok (.invokevirtual 36, 3) := by decide +kernel
theorem dX6_gather_7 : decode cX6_gather 7 = .ok (.if_icmp .ge 68, 3) := by decide +kernel
theorem dX6_gather_10 : decode cX6_gather 10 = .ok (.aload_n 1, 1) := by decide +kernel
theorem dX6_gather_11 : decode cX6_gather 11 = .ok (.iload_n 3, 1) := by decide +kernel
theorem dX6_gather_12 : decode cX6_gather 12 = .ok (.invokevirtual 42, 3) := by decide +kernel
theorem dX6_gather_15 : decode cX6_gather 15 = .ok (.istore 4, 2) := by decide +kernel
theorem dX6_gather_17 : decode cX6_gather 17 = .ok (.aload_n 2, 1) := by decide +kernel
theorem dX6_gather_18 : decode cX6_gather 18 = .ok (.iload 4, 2) := by decide +kernel
theorem dX6_gather_20 : decode cX6_gather 20 = .ok (.invokevirtual 46, 3) := by decide +kernel
theorem dX6_gather_23 : decode cX6_gather 23 = .ok (.istore 5, 2) := by decide +kernel
theorem dX6_gather_25 : decode cX6_gather 25 = .ok (.aload_n 0, 1) := by decide +kernel
theorem dX6_gather_26 : decode cX6_gather 26 = .ok (.iload 5, 2) := by decide +kernel
theorem dX6_gather_28 : decode cX6_gather 28 = .ok (.invokevirtual 51, 3) := by decide +kernel
theorem dX6_gather_31 : decode cX6_gather 31 = .ok (.ifCond .eq 38, 3) := by decide +kernel
theorem dX6_gather_34 : decode cX6_gather 34 = .ok (.aload_n 0, 1) := by decide +kernel
theorem dX6_gather_35 : decode cX6_gather 35 = .ok (.getfield 17, 3) := by decide +kernel
theorem dX6_gather_38 : decode cX6_gather 38 = .ok (.iload 5, 2) := by decide +kernel
theorem dX6_gather_40 : decode cX6_gather 40 = .ok (.dup2, 1) := by decide +kernel
theorem dX6_gather_41 : decode cX6_gather 41 = .ok (.iaload, 1) := by decide +kernel
theorem dX6_gather_42 : decode cX6_gather 42 = .ok (.iconst 1, 1) := by decide +kernel
theorem dX6_gather_43 : decode cX6_gather 43 = .ok (.iadd, 1) := by decide +kernel
theorem dX6_gather_44 : decode cX6_gather 44 = .ok (.iastore, 1) := by decide +kernel
theorem dX6_gather_45 : decode cX6_gather 45 = .ok (.aload_n 0, 1) := by decide +kernel
theorem dX6_gather_46 : decode cX6_gather 46 = .ok (.getfield 20, 3) := by decide +kernel
theorem dX6_gather_49 : decode cX6_gather 49 = .ok (.iload 5, 2) := by decide +kernel
theorem dX6_gather_51 : decode cX6_gather 51 = .ok (.dup2, 1) := by decide +kernel
theorem dX6_gather_52 : decode cX6_gather 52 = .ok (.iaload, 1) := by decide +kernel
theorem dX6_gather_53 : decode cX6_gather 53 = .ok (.aload_n 1, 1) := by decide +kernel
theorem dX6_gather_54 : decode cX6_gather 54 = .ok (.iload 4, 2) := by decide +kernel
theorem dX6_gather_56 : decode cX6_gather 56 = .ok (.invokevirtual 55, 3) := by decide +kernel
theorem dX6_gather_59 : decode cX6_gather 59 = .ok (.ifCond .eq 7, 3) := by decide +kernel
theorem dX6_gather_62 : decode cX6_gather 62 = .ok (.iconst 1, 1) := by decide +kernel
theorem dX6_gather_63 : decode cX6_gather 63 = .ok (.goto 4, 3) := by decide +kernel
theorem dX6_gather_66 : decode cX6_gather 66 = .ok (.iconst 0, 1) := by decide +kernel
theorem dX6_gather_67 : decode cX6_gather 67 = .ok (.iadd, 1) := by decide +kernel
theorem dX6_gather_68 : decode cX6_gather 68 = .ok (.iastore, 1) := by decide +kernel
theorem dX6_gather_69 : decode cX6_gather 69 = .ok (.iinc 3 1, 3) := by decide +kernel
theorem dX6_gather_72 : decode cX6_gather 72 = .ok (.goto (-70), 3) := by decide +kernel
theorem dX6_gather_75 : decode cX6_gather 75 = .ok (.return_, 1) := by decide +kernel
theorem dX6_takeBackPours_0 : decode cX6_takeBackPours 0 = .ok (.aload_n 0, 1) := by decide +kernel
theorem dX6_takeBackPours_1 : decode cX6_takeBackPours 1 = .ok (.getfield 23, 3) := by decide +kernel
theorem dX6_takeBackPours_4 : decode cX6_takeBackPours 4 = .ok (.iconst 0, 1) := by decide +kernel
theorem dX6_takeBackPours_5 : decode cX6_takeBackPours 5 = .ok (.invokestatic 58, 3) := by decide +kernel
theorem dX6_takeBackPours_8 : decode cX6_takeBackPours 8 = .ok (.return_, 1) := by decide +kernel
theorem dX6_tell_0 : decode cX6_tell 0 = .ok (.aload_n 0, 1) := by decide +kernel
theorem dX6_tell_1 : decode cX6_tell 1 = .ok (.iload_n 1, 1) := by decide +kernel
theorem dX6_tell_2 : decode cX6_tell 2 = .ok (.invokevirtual 51, 3) := by decide +kernel
theorem dX6_tell_5 : decode cX6_tell 5 = .ok (.ifCond .ne 5, 3) := by decide +kernel
theorem dX6_tell_8 : decode cX6_tell 8 = .ok (.iconst (-1), 1) := by decide +kernel
theorem dX6_tell_9 : decode cX6_tell 9 = .ok (.ireturn, 1) := by decide +kernel
theorem dX6_tell_10 : decode cX6_tell 10 = .ok (.iload_n 2, 1) := by decide +kernel
theorem dX6_tell_11 : decode cX6_tell 11 = .ok (.tableswitch 67 0 4 #[33, 40, 47, 54, 60], 33) := by decide +kernel
theorem dX6_tell_44 : decode cX6_tell 44 = .ok (.aload_n 0, 1) := by decide +kernel
theorem dX6_tell_45 : decode cX6_tell 45 = .ok (.getfield 11, 3) := by decide +kernel
theorem dX6_tell_48 : decode cX6_tell 48 = .ok (.iload_n 1, 1) := by decide +kernel
theorem dX6_tell_49 : decode cX6_tell 49 = .ok (.iaload, 1) := by decide +kernel
theorem dX6_tell_50 : decode cX6_tell 50 = .ok (.ireturn, 1) := by decide +kernel
theorem dX6_tell_51 : decode cX6_tell 51 = .ok (.aload_n 0, 1) := by decide +kernel
theorem dX6_tell_52 : decode cX6_tell 52 = .ok (.getfield 17, 3) := by decide +kernel
theorem dX6_tell_55 : decode cX6_tell 55 = .ok (.iload_n 1, 1) := by decide +kernel
theorem dX6_tell_56 : decode cX6_tell 56 = .ok (.iaload, 1) := by decide +kernel
theorem dX6_tell_57 : decode cX6_tell 57 = .ok (.ireturn, 1) := by decide +kernel
theorem dX6_tell_58 : decode cX6_tell 58 = .ok (.aload_n 0, 1) := by decide +kernel
theorem dX6_tell_59 : decode cX6_tell 59 = .ok (.getfield 20, 3) := by decide +kernel
theorem dX6_tell_62 : decode cX6_tell 62 = .ok (.iload_n 1, 1) := by decide +kernel
theorem dX6_tell_63 : decode cX6_tell 63 = .ok (.iaload, 1) := by decide +kernel
theorem dX6_tell_64 : decode cX6_tell 64 = .ok (.ireturn, 1) := by decide +kernel
theorem dX6_tell_65 : decode cX6_tell 65 = .ok (.aload_n 0, 1) := by decide +kernel
theorem dX6_tell_66 : decode cX6_tell 66 = .ok (.iload_n 1, 1) := by decide +kernel
theorem dX6_tell_67 : decode cX6_tell 67 = .ok (.invokevirtual 64, 3) := by decide +kernel
theorem dX6_tell_70 : decode cX6_tell 70 = .ok (.ireturn, 1) := by decide +kernel
theorem dX6_tell_71 : decode cX6_tell 71 = .ok (.aload_n 0, 1) := by decide +kernel
theorem dX6_tell_72 : decode cX6_tell 72 = .ok (.getfield 23, 3) := by decide +kernel
theorem dX6_tell_75 : decode cX6_tell 75 = .ok (.iload_n 1, 1) := by decide +kernel
theorem dX6_tell_76 : decode cX6_tell 76 = .ok (.iaload, 1) := by decide +kernel
theorem dX6_tell_77 : decode cX6_tell 77 = .ok (.ireturn, 1) := by decide +kernel
theorem dX6_tell_78 : decode cX6_tell 78 = .ok (.iconst (-1), 1) := by decide +kernel
theorem dX6_tell_79 : decode cX6_tell 79 = .ok (.ireturn, 1) := by decide +kernel
theorem dX6_setWear_0 : decode cX6_setWear 0 = .ok (.iload_n 1, 1) := by decide +kernel
theorem dX6_setWear_1 : decode cX6_setWear 1 = .ok (.iconst 1, 1) := by decide +kernel
theorem dX6_setWear_2 : decode cX6_setWear 2 = .ok (.if_icmp .lt 20, 3) := by decide +kernel
theorem dX6_setWear_5 : decode cX6_setWear 5 = .ok (.iload_n 1, 1) := by decide +kernel
theorem dX6_setWear_6 : decode cX6_setWear 6 = .ok (.sipush 1000, 3) := by decide +kernel
theorem dX6_setWear_9 : decode cX6_setWear 9 = .ok (.if_icmp .gt 13, 3) := by decide +kernel
theorem dX6_setWear_12 : decode cX6_setWear 12 = .ok (.iload_n 2, 1) := by decide +kernel
theorem dX6_setWear_13 : decode cX6_setWear 13 = .ok (.ifCond .lt 9, 3) := by decide +kernel
theorem dX6_setWear_16 : decode cX6_setWear 16 = .ok (.iload_n 2, 1) := by decide +kernel
theorem dX6_setWear_17 : decode cX6_setWear 17 = .ok (.bipush 100, 2) := by decide +kernel
theorem dX6_setWear_19 : decode cX6_setWear 19 = .ok (.if_icmp .le 5, 3) := by decide +kernel
theorem dX6_setWear_22 : decode cX6_setWear 22 = .ok (.iconst 0, 1) := by decide +kernel
theorem dX6_setWear_23 : decode cX6_setWear 23 = .ok (.ireturn, 1) := by decide +kernel
theorem dX6_setWear_24 : decode cX6_setWear 24 = .ok (.aload_n 0, 1) := by decide +kernel
theorem dX6_setWear_25 : decode cX6_setWear 25 = .ok (.iload_n 1, 1) := by decide +kernel
theorem dX6_setWear_26 : decode cX6_setWear 26 = .ok (.putfield 26, 3) := by decide +kernel
theorem dX6_setWear_29 : decode cX6_setWear 29 = .ok (.aload_n 0, 1) := by decide +kernel
theorem dX6_setWear_30 : decode cX6_setWear 30 = .ok (.iload_n 2, 1) := by decide +kernel
theorem dX6_setWear_31 : decode cX6_setWear 31 = .ok (.putfield 30, 3) := by decide +kernel
theorem dX6_setWear_34 : decode cX6_setWear 34 = .ok (.iconst 1, 1) := by decide +kernel
theorem dX6_setWear_35 : decode cX6_setWear 35 = .ok (.ireturn, 1) := by decide +kernel
theorem dX6_canPour_0 : decode cX6_canPour 0 = .ok (.aload_n 0, 1) := by decide +kernel
theorem dX6_canPour_1 : decode cX6_canPour 1 = .ok (.getfield 33, 3) := by decide +kernel
theorem dX6_canPour_4 : decode cX6_canPour 4 = .ok (.ifCond .le 19, 3) := by decide +kernel
theorem dX6_canPour_7 : decode cX6_canPour 7 = .ok (.iload_n 1, 1) := by decide +kernel
theorem dX6_canPour_8 : decode cX6_canPour 8 = .ok (.iconst 1, 1) := by decide +kernel
theorem dX6_canPour_9 : decode cX6_canPour 9 = .ok (.if_icmp .lt 14, 3) := by decide +kernel
theorem dX6_canPour_12 : decode cX6_canPour 12 = .ok (.iload_n 1, 1) := by decide +kernel
theorem dX6_canPour_13 : decode cX6_canPour 13 = .ok (.sipush 1000, 3) := by decide +kernel
theorem dX6_canPour_16 : decode cX6_canPour 16 = .ok (.if_icmp .gt 7, 3) := by decide +kernel
theorem dX6_canPour_19 : decode cX6_canPour 19 = .ok (.iconst 1, 1) := by decide +kernel
theorem dX6_canPour_20 : decode cX6_canPour 20 = .ok (.goto 4, 3) := by decide +kernel
theorem dX6_canPour_23 : decode cX6_canPour 23 = .ok (.iconst 0, 1) := by decide +kernel
theorem dX6_canPour_24 : decode cX6_canPour 24 = .ok (.ireturn, 1) := by decide +kernel
theorem dX6_pourWhileBorne_0 : decode cX6_pourWhileBorne 0 = .ok (.iload_n 1, 1) := by decide +kernel
theorem dX6_pourWhileBorne_1 : decode cX6_pourWhileBorne 1 = .ok (.istore_n 2, 1) := by decide +kernel
theorem dX6_pourWhileBorne_2 : decode cX6_pourWhileBorne 2 = .ok (.iconst 0, 1) := by decide +kernel
theorem dX6_pourWhileBorne_3 : decode cX6_pourWhileBorne 3 = .ok (.istore_n 3, 1) := by decide +kernel
theorem dX6_pourWhileBorne_4 : decode cX6_pourWhileBorne 4 = .ok (.iload_n 3, 1) := by decide +kernel
theorem dX6_pourWhileBorne_5 : decode cX6_pourWhileBorne 5 = .ok (.aload_n 0, 1) := by decide +kernel
theorem dX6_pourWhileBorne_6 : decode cX6_pourWhileBorne 6 = .ok (.getfield 33, 3) := by decide +kernel
theorem dX6_pourWhileBorne_9 : decode cX6_pourWhileBorne 9 = .ok (.if_icmp .ge 19, 3) := by decide +kernel
theorem dX6_pourWhileBorne_12 : decode cX6_pourWhileBorne 12 = .ok (.iload_n 2, 1) := by decide +kernel
theorem dX6_pourWhileBorne_13 : decode cX6_pourWhileBorne 13 = .ok (.aload_n 0, 1) := by decide +kernel
theorem dX6_pourWhileBorne_14 : decode cX6_pourWhileBorne 14 = .ok (.iload_n 3, 1) := by decide +kernel
theorem dX6_pourWhileBorne_15 : decode cX6_pourWhileBorne 15 = .ok (.invokevirtual 67, 3) := by decide +kernel
theorem dX6_pourWhileBorne_18 : decode cX6_pourWhileBorne 18 = .ok (.invokestatic 70, 3) := by decide +kernel
theorem dX6_pourWhileBorne_21 : decode cX6_pourWhileBorne 21 = .ok (.istore_n 2, 1) := by decide +kernel
theorem dX6_pourWhileBorne_22 : decode cX6_pourWhileBorne 22 = .ok (.iinc 3 1, 3) := by decide +kernel
theorem dX6_pourWhileBorne_25 : decode cX6_pourWhileBorne 25 = .ok (.goto (-21), 3) := by decide +kernel
theorem dX6_pourWhileBorne_28 : decode cX6_pourWhileBorne 28 = .ok (.iconst 0, 1) := by decide +kernel
theorem dX6_pourWhileBorne_29 : decode cX6_pourWhileBorne 29 = .ok (.istore_n 3, 1) := by decide +kernel
theorem dX6_pourWhileBorne_30 : decode cX6_pourWhileBorne 30 = .ok (.iload_n 3, 1) := by decide +kernel
theorem dX6_pourWhileBorne_31 : decode cX6_pourWhileBorne 31 = .ok (.aload_n 0, 1) := by decide +kernel
theorem dX6_pourWhileBorne_32 : decode cX6_pourWhileBorne 32 = .ok (.getfield 33, 3) := by decide +kernel
theorem dX6_pourWhileBorne_35 : decode cX6_pourWhileBorne 35 = .ok (.if_icmp .ge 19, 3) := by decide +kernel
theorem dX6_pourWhileBorne_38 : decode cX6_pourWhileBorne 38 = .ok (.aload_n 0, 1) := by decide +kernel
theorem dX6_pourWhileBorne_39 : decode cX6_pourWhileBorne 39 = .ok (.getfield 23, 3) := by decide +kernel
theorem dX6_pourWhileBorne_42 : decode cX6_pourWhileBorne 42 = .ok (.iload_n 3, 1) := by decide +kernel
theorem dX6_pourWhileBorne_43 : decode cX6_pourWhileBorne 43 = .ok (.dup2, 1) := by decide +kernel
theorem dX6_pourWhileBorne_44 : decode cX6_pourWhileBorne 44 = .ok (.iaload, 1) := by decide +kernel
theorem dX6_pourWhileBorne_45 : decode cX6_pourWhileBorne 45 = .ok (.iload_n 2, 1) := by decide +kernel
theorem dX6_pourWhileBorne_46 : decode cX6_pourWhileBorne 46 = .ok (.iadd, 1) := by decide +kernel
theorem dX6_pourWhileBorne_47 : decode cX6_pourWhileBorne 47 = .ok (.iastore, 1) := by decide +kernel
theorem dX6_pourWhileBorne_48 : decode cX6_pourWhileBorne 48 = .ok (.iinc 3 1, 3) := by decide +kernel
theorem dX6_pourWhileBorne_51 : decode cX6_pourWhileBorne 51 = .ok (.goto (-21), 3) := by decide +kernel
theorem dX6_pourWhileBorne_54 : decode cX6_pourWhileBorne 54 = .ok (.iload_n 2, 1) := by decide +kernel
theorem dX6_pourWhileBorne_55 : decode cX6_pourWhileBorne 55 = .ok (.ireturn, 1) := by decide +kernel
theorem dX6_mendOne_0 : decode cX6_mendOne 0 = .ok (.aload_n 0, 1) := by decide +kernel
theorem dX6_mendOne_1 : decode cX6_mendOne 1 = .ok (.iload_n 1, 1) := by decide +kernel
theorem dX6_mendOne_2 : decode cX6_mendOne 2 = .ok (.invokevirtual 51, 3) := by decide +kernel
theorem dX6_mendOne_5 : decode cX6_mendOne 5 = .ok (.ifCond .ne 5, 3) := by decide +kernel
theorem dX6_mendOne_8 : decode cX6_mendOne 8 = .ok (.iconst (-1), 1) := by decide +kernel
theorem dX6_mendOne_9 : decode cX6_mendOne 9 = .ok (.ireturn, 1) := by decide +kernel
theorem dX6_mendOne_10 : decode cX6_mendOne 10 = .ok (.aload_n 0, 1) := by decide +kernel
theorem dX6_mendOne_11 : decode cX6_mendOne 11 = .ok (.getfield 23, 3) := by decide +kernel
theorem dX6_mendOne_14 : decode cX6_mendOne 14 = .ok (.iload_n 1, 1) := by decide +kernel
theorem dX6_mendOne_15 : decode cX6_mendOne 15 = .ok (.iconst 0, 1) := by decide +kernel
theorem dX6_mendOne_16 : decode cX6_mendOne 16 = .ok (.iastore, 1) := by decide +kernel
theorem dX6_mendOne_17 : decode cX6_mendOne 17 = .ok (.aload_n 0, 1) := by decide +kernel
theorem dX6_mendOne_18 : decode cX6_mendOne 18 = .ok (.getfield 17, 3) := by decide +kernel
theorem dX6_mendOne_21 : decode cX6_mendOne 21 = .ok (.iload_n 1, 1) := by decide +kernel
theorem dX6_mendOne_22 : decode cX6_mendOne 22 = .ok (.iaload, 1) := by decide +kernel
theorem dX6_mendOne_23 : decode cX6_mendOne 23 = .ok (.aload_n 0, 1) := by decide +kernel
theorem dX6_mendOne_24 : decode cX6_mendOne 24 = .ok (.getfield 30, 3) := by decide +kernel
theorem dX6_mendOne_27 : decode cX6_mendOne 27 = .ok (.imul, 1) := by decide +kernel
theorem dX6_mendOne_28 : decode cX6_mendOne 28 = .ok (.ireturn, 1) := by decide +kernel
theorem dX6_pourAndMend_0 : decode cX6_pourAndMend 0 = .ok (.iconst 0, 1) := by decide +kernel
theorem dX6_pourAndMend_1 : decode cX6_pourAndMend 1 = .ok (.istore_n 2, 1) := by decide +kernel
theorem dX6_pourAndMend_2 : decode cX6_pourAndMend 2 = .ok (.iconst 0, 1) := by decide +kernel
theorem dX6_pourAndMend_3 : decode cX6_pourAndMend 3 = .ok (.istore_n 3, 1) := by decide +kernel
theorem dX6_pourAndMend_4 : decode cX6_pourAndMend 4 = .ok (.iload_n 3, 1) := by decide +kernel
theorem dX6_pourAndMend_5 : decode cX6_pourAndMend 5 = .ok (.aload_n 0, 1) := by decide +kernel
theorem dX6_pourAndMend_6 : decode cX6_pourAndMend 6 = .ok (.getfield 33, 3) := by decide +kernel
theorem dX6_pourAndMend_9 : decode cX6_pourAndMend 9 = .ok (.if_icmp .ge 18, 3) := by decide +kernel
theorem dX6_pourAndMend_12 : decode cX6_pourAndMend 12 = .ok (.iload_n 2, 1) := by decide +kernel
theorem dX6_pourAndMend_13 : decode cX6_pourAndMend 13 = .ok (.aload_n 0, 1) := by decide +kernel
theorem dX6_pourAndMend_14 : decode cX6_pourAndMend 14 = .ok (.iload_n 3, 1) := by decide +kernel
theorem dX6_pourAndMend_15 : decode cX6_pourAndMend 15 = .ok (.iload_n 1, 1) := by decide +kernel
theorem dX6_pourAndMend_16 : decode cX6_pourAndMend 16 = .ok (.invokevirtual 76, 3) := by decide +kernel
theorem dX6_pourAndMend_19 : decode cX6_pourAndMend 19 = .ok (.iadd, 1) := by decide +kernel
theorem dX6_pourAndMend_20 : decode cX6_pourAndMend 20 = .ok (.istore_n 2, 1) := by decide +kernel
theorem dX6_pourAndMend_21 : decode cX6_pourAndMend 21 = .ok (.iinc 3 1, 3) := by decide +kernel
theorem dX6_pourAndMend_24 : decode cX6_pourAndMend 24 = .ok (.goto (-20), 3) := by decide +kernel
theorem dX6_pourAndMend_27 : decode cX6_pourAndMend 27 = .ok (.iload_n 2, 1) := by decide +kernel
theorem dX6_pourAndMend_28 : decode cX6_pourAndMend 28 = .ok (.ireturn, 1) := by decide +kernel
theorem dX6_pourAndMendOne_0 : decode cX6_pourAndMendOne 0 = .ok (.aload_n 0, 1) := by decide +kernel
theorem dX6_pourAndMendOne_1 : decode cX6_pourAndMendOne 1 = .ok (.iload_n 1, 1) := by decide +kernel
theorem dX6_pourAndMendOne_2 : decode cX6_pourAndMendOne 2 = .ok (.invokevirtual 67, 3) := by decide +kernel
theorem dX6_pourAndMendOne_5 : decode cX6_pourAndMendOne 5 = .ok (.istore_n 3, 1) := by decide +kernel
theorem dX6_pourAndMendOne_6 : decode cX6_pourAndMendOne 6 = .ok (.iload_n 2, 1) := by decide +kernel
theorem dX6_pourAndMendOne_7 : decode cX6_pourAndMendOne 7 = .ok (.iload_n 3, 1) := by decide +kernel
theorem dX6_pourAndMendOne_8 : decode cX6_pourAndMendOne 8 = .ok (.if_icmp .gt 15, 3) := by decide +kernel
theorem dX6_pourAndMendOne_11 : decode cX6_pourAndMendOne 11 = .ok (.aload_n 0, 1) := by decide +kernel
theorem dX6_pourAndMendOne_12 : decode cX6_pourAndMendOne 12 = .ok (.getfield 23, 3) := by decide +kernel
theorem dX6_pourAndMendOne_15 : decode cX6_pourAndMendOne 15 = .ok (.iload_n 1, 1) := by decide +kernel
theorem dX6_pourAndMendOne_16 : decode cX6_pourAndMendOne 16 = .ok (.dup2, 1) := by decide +kernel
theorem dX6_pourAndMendOne_17 : decode cX6_pourAndMendOne 17 = .ok (.iaload, 1) := by decide +kernel
theorem dX6_pourAndMendOne_18 : decode cX6_pourAndMendOne 18 = .ok (.iload_n 2, 1) := by decide +kernel
theorem dX6_pourAndMendOne_19 : decode cX6_pourAndMendOne 19 = .ok (.iadd, 1) := by decide +kernel
theorem dX6_pourAndMendOne_20 : decode cX6_pourAndMendOne 20 = .ok (.iastore, 1) := by decide +kernel
theorem dX6_pourAndMendOne_21 : decode cX6_pourAndMendOne 21 = .ok (.iconst 0, 1) := by decide +kernel
theorem dX6_pourAndMendOne_22 : decode cX6_pourAndMendOne 22 = .ok (.ireturn, 1) := by decide +kernel
theorem dX6_pourAndMendOne_23 : decode cX6_pourAndMendOne 23 = .ok (.iconst 1, 1) := by decide +kernel
theorem dX6_pourAndMendOne_24 : decode cX6_pourAndMendOne 24 = .ok (.aload_n 0, 1) := by decide +kernel
theorem dX6_pourAndMendOne_25 : decode cX6_pourAndMendOne 25 = .ok (.iload_n 1, 1) := by decide +kernel
theorem dX6_pourAndMendOne_26 : decode cX6_pourAndMendOne 26 = .ok (.invokevirtual 64, 3) := by decide +kernel
theorem dX6_pourAndMendOne_29 : decode cX6_pourAndMendOne 29 = .ok (.invokestatic 79, 3) := by decide +kernel
theorem dX6_pourAndMendOne_32 : decode cX6_pourAndMendOne 32 = .ok (.istore 4, 2) := by decide +kernel
theorem dX6_pourAndMendOne_34 : decode cX6_pourAndMendOne 34 = .ok (.iload_n 2, 1) := by decide +kernel
theorem dX6_pourAndMendOne_35 : decode cX6_pourAndMendOne 35 = .ok (.iload_n 3, 1) := by decide +kernel
theorem dX6_pourAndMendOne_36 : decode cX6_pourAndMendOne 36 = .ok (.isub, 1) := by decide +kernel
theorem dX6_pourAndMendOne_37 : decode cX6_pourAndMendOne 37 = .ok (.istore 5, 2) := by decide +kernel
theorem dX6_pourAndMendOne_39 : decode cX6_pourAndMendOne 39 = .ok (.iload 5, 2) := by decide +kernel
theorem dX6_pourAndMendOne_41 : decode cX6_pourAndMendOne 41 = .ok (.iload 4, 2) := by decide +kernel
theorem dX6_pourAndMendOne_43 : decode cX6_pourAndMendOne 43 = .ok (.iadd, 1) := by decide +kernel
theorem dX6_pourAndMendOne_44 : decode cX6_pourAndMendOne 44 = .ok (.iconst 1, 1) := by decide +kernel
theorem dX6_pourAndMendOne_45 : decode cX6_pourAndMendOne 45 = .ok (.isub, 1) := by decide +kernel
theorem dX6_pourAndMendOne_46 : decode cX6_pourAndMendOne 46 = .ok (.iload 4, 2) := by decide +kernel
theorem dX6_pourAndMendOne_48 : decode cX6_pourAndMendOne 48 = .ok (.idiv, 1) := by decide +kernel
theorem dX6_pourAndMendOne_49 : decode cX6_pourAndMendOne 49 = .ok (.istore 6, 2) := by decide +kernel
theorem dX6_pourAndMendOne_51 : decode cX6_pourAndMendOne 51 = .ok (.aload_n 0, 1) := by decide +kernel
theorem dX6_pourAndMendOne_52 : decode cX6_pourAndMendOne 52 = .ok (.getfield 23, 3) := by decide +kernel
theorem dX6_pourAndMendOne_55 : decode cX6_pourAndMendOne 55 = .ok (.iload_n 1, 1) := by decide +kernel
theorem dX6_pourAndMendOne_56 : decode cX6_pourAndMendOne 56 = .ok (.iload 5, 2) := by decide +kernel
theorem dX6_pourAndMendOne_58 : decode cX6_pourAndMendOne 58 = .ok (.iload 6, 2) := by decide +kernel
theorem dX6_pourAndMendOne_60 : decode cX6_pourAndMendOne 60 = .ok (.iconst 1, 1) := by decide +kernel
theorem dX6_pourAndMendOne_61 : decode cX6_pourAndMendOne 61 = .ok (.isub, 1) := by decide +kernel
theorem dX6_pourAndMendOne_62 : decode cX6_pourAndMendOne 62 = .ok (.iload 4, 2) := by decide +kernel
theorem dX6_pourAndMendOne_64 : decode cX6_pourAndMendOne 64 = .ok (.imul, 1) := by decide +kernel
theorem dX6_pourAndMendOne_65 : decode cX6_pourAndMendOne 65 = .ok (.isub, 1) := by decide +kernel
theorem dX6_pourAndMendOne_66 : decode cX6_pourAndMendOne 66 = .ok (.iastore, 1) := by decide +kernel
theorem dX6_pourAndMendOne_67 : decode cX6_pourAndMendOne 67 = .ok (.iload 6, 2) := by decide +kernel
theorem dX6_pourAndMendOne_69 : decode cX6_pourAndMendOne 69 = .ok (.aload_n 0, 1) := by decide +kernel
theorem dX6_pourAndMendOne_70 : decode cX6_pourAndMendOne 70 = .ok (.getfield 17, 3) := by decide +kernel
theorem dX6_pourAndMendOne_73 : decode cX6_pourAndMendOne 73 = .ok (.iload_n 1, 1) := by decide +kernel
theorem dX6_pourAndMendOne_74 : decode cX6_pourAndMendOne 74 = .ok (.iaload, 1) := by decide +kernel
theorem dX6_pourAndMendOne_75 : decode cX6_pourAndMendOne 75 = .ok (.imul, 1) := by decide +kernel
theorem dX6_pourAndMendOne_76 : decode cX6_pourAndMendOne 76 = .ok (.aload_n 0, 1) := by decide +kernel
theorem dX6_pourAndMendOne_77 : decode cX6_pourAndMendOne 77 = .ok (.getfield 30, 3) := by decide +kernel
theorem dX6_pourAndMendOne_80 : decode cX6_pourAndMendOne 80 = .ok (.imul, 1) := by decide +kernel
theorem dX6_pourAndMendOne_81 : decode cX6_pourAndMendOne 81 = .ok (.ireturn, 1) := by decide +kernel
theorem dX6_borneBy_0 : decode cX6_borneBy 0 = .ok (.iconst 1, 1) := by decide +kernel
theorem dX6_borneBy_1 : decode cX6_borneBy 1 = .ok (.aload_n 0, 1) := by decide +kernel
theorem dX6_borneBy_2 : decode cX6_borneBy 2 = .ok (.getfield 26, 3) := by decide +kernel
theorem dX6_borneBy_5 : decode cX6_borneBy 5 = .ok (.aload_n 0, 1) := by decide +kernel
theorem dX6_borneBy_6 : decode cX6_borneBy 6 = .ok (.getfield 20, 3) := by decide +kernel
theorem dX6_borneBy_9 : decode cX6_borneBy 9 = .ok (.iload_n 1, 1) := by decide +kernel
theorem dX6_borneBy_10 : decode cX6_borneBy 10 = .ok (.iaload, 1) := by decide +kernel
theorem dX6_borneBy_11 : decode cX6_borneBy 11 = .ok (.isub, 1) := by decide +kernel
theorem dX6_borneBy_12 : decode cX6_borneBy 12 = .ok (.invokestatic 79, 3) := by decide +kernel
theorem dX6_borneBy_15 : decode cX6_borneBy 15 = .ok (.ireturn, 1) := by decide +kernel
theorem dX6_leftOn_0 : decode cX6_leftOn 0 = .ok (.iconst 0, 1) := by decide +kernel
theorem dX6_leftOn_1 : decode cX6_leftOn 1 = .ok (.aload_n 0, 1) := by decide +kernel
theorem dX6_leftOn_2 : decode cX6_leftOn 2 = .ok (.iload_n 1, 1) := by decide +kernel
theorem dX6_leftOn_3 : decode cX6_leftOn 3 = .ok (.invokevirtual 64, 3) := by decide +kernel
theorem dX6_leftOn_6 : decode cX6_leftOn 6 = .ok (.aload_n 0, 1) := by decide +kernel
theorem dX6_leftOn_7 : decode cX6_leftOn 7 = .ok (.getfield 23, 3) := by decide +kernel
theorem dX6_leftOn_10 : decode cX6_leftOn 10 = .ok (.iload_n 1, 1) := by decide +kernel
theorem dX6_leftOn_11 : decode cX6_leftOn 11 = .ok (.iaload, 1) := by decide +kernel
theorem dX6_leftOn_12 : decode cX6_leftOn 12 = .ok (.isub, 1) := by decide +kernel
theorem dX6_leftOn_13 : decode cX6_leftOn 13 = .ok (.invokestatic 79, 3) := by decide +kernel
theorem dX6_leftOn_16 : decode cX6_leftOn 16 = .ok (.ireturn, 1) := by decide +kernel
theorem dX7_init_0 : decode cX7_init 0 = .ok (.aload_n 0, 1) := by decide +kernel
theorem dX7_init_1 : decode cX7_init 1 = .ok (.invokespecial 3, 3) := by decide +kernel
theorem dX7_init_4 : decode cX7_init 4 = .ok (.aload_n 0, 1) := by decide +kernel
theorem dX7_init_5 : decode cX7_init 5 = .ok (.sipush 400, 3) := by decide +kernel
theorem dX7_init_8 : decode cX7_init 8 = .ok (.newarray .int, 2) := by decide +kernel
theorem dX7_init_10 : decode cX7_init 10 = .ok (.putfield 11, 3) := by decide +kernel
theorem dX7_init_13 : decode cX7_init 13 = .ok (.return_, 1) := by decide +kernel
theorem dX7_size_0 : decode cX7_size 0 = .ok (.aload_n 0, 1) := by decide +kernel
theorem dX7_size_1 : decode cX7_size 1 = .ok (.getfield 15, 3) := by decide +kernel
theorem dX7_size_4 : decode cX7_size 4 = .ok (.ireturn, 1) := by decide +kernel
theorem dX7_hasRoomForTwenty_0 : decode cX7_hasRoomForTwenty 0 = .ok (.aload_n 0, 1) := by decide +kernel
theorem dX7_hasRoomForTwenty_1 : decode cX7_hasRoomForTwenty 1 = .ok (.getfield 15, 3) := by decide +kernel
theorem dX7_hasRoomForTwenty_4 : decode cX7_hasRoomForTwenty 4 = .ok (.sipush 380, 3) := by decide +kernel
theorem dX7_hasRoomForTwenty_7 : decode cX7_hasRoomForTwenty 7 = .ok (.if_icmp .gt 7, 3) := by decide +kernel
theorem dX7_hasRoomForTwenty_10 : decode cX7_hasRoomForTwenty 10 = .ok (.iconst 1, 1) := by decide +kernel
theorem dX7_hasRoomForTwenty_11 : decode cX7_hasRoomForTwenty 11 = .ok (.goto 4, 3) := by decide +kernel
theorem dX7_hasRoomForTwenty_14 : decode cX7_hasRoomForTwenty 14 = .ok (.iconst 0, 1) := by decide +kernel
theorem dX7_hasRoomForTwenty_15 : decode cX7_hasRoomForTwenty 15 = .ok (.ireturn, 1) := by decide +kernel
theorem dX7_addFour_0 : decode cX7_addFour 0 = .ok (.bipush 24, 2) := by decide +kernel
theorem dX7_addFour_2 : decode cX7_addFour 2 = .ok (.istore_n 2, 1) := by decide +kernel
theorem dX7_addFour_3 : decode cX7_addFour 3 = .ok (.iload_n 2, 1) := by decide +kernel
theorem dX7_addFour_4 : decode cX7_addFour 4 = .ok (.ifCond .lt 45, 3) := by decide +kernel
theorem dX7_addFour_7 : decode cX7_addFour 7 = .ok (.aload_n 0, 1) := by decide +kernel
theorem dX7_addFour_8 : decode cX7_addFour 8 = .ok (.getfield 15, 3) := by decide +kernel
theorem dX7_addFour_11 : decode cX7_addFour 11 = .ok (.sipush 400, 3) := by decide +kernel
theorem dX7_addFour_14 : decode cX7_addFour 14 = .ok (.if_icmp .ge 35, 3) := by decide +kernel
theorem dX7_addFour_17 : decode cX7_addFour 17 = .ok (.aload_n 0, 1) := by decide +kernel
theorem dX7_addFour_18 : decode cX7_addFour 18 = .ok (.getfield 11, 3) := by decide +kernel
theorem dX7_addFour_21 : decode cX7_addFour 21 = .ok (.aload_n 0, 1) := by decide +kernel
theorem dX7_addFour_22 : decode cX7_addFour 22 = .ok (.getfield 15, 3) := by decide +kernel
theorem dX7_addFour_25 : decode cX7_addFour 25 = .ok (.iload_n 1, 1) := by decide +kernel
theorem dX7_addFour_26 : decode cX7_addFour 26 = .ok (.iload_n 2, 1) := by decide +kernel
theorem dX7_addFour_27 : decode cX7_addFour 27 = .ok (.iushr, 1) := by decide +kernel
theorem dX7_addFour_28 : decode cX7_addFour 28 = .ok (.sipush 255, 3) := by decide +kernel
theorem dX7_addFour_31 : decode cX7_addFour 31 = .ok (.iand, 1) := by decide +kernel
theorem dX7_addFour_32 : decode cX7_addFour 32 = .ok (.iastore, 1) := by decide +kernel
theorem dX7_addFour_33 : decode cX7_addFour 33 = .ok (.aload_n 0, 1) := by decide +kernel
theorem dX7_addFour_34 : decode cX7_addFour 34 = .ok (.dup, 1) := by decide +kernel
theorem dX7_addFour_35 : decode cX7_addFour 35 = .ok (.getfield 15, 3) := by decide +kernel
theorem dX7_addFour_38 : decode cX7_addFour 38 = .ok (.iconst 1, 1) := by decide +kernel
theorem dX7_addFour_39 : decode cX7_addFour 39 = .ok (.iadd, 1) := by decide +kernel
theorem dX7_addFour_40 : decode cX7_addFour 40 = .ok (.putfield 15, 3) := by decide +kernel
theorem dX7_addFour_43 : decode cX7_addFour 43 = .ok (.iinc 2 (-8), 3) := by decide +kernel
theorem dX7_addFour_46 : decode cX7_addFour 46 = .ok (.goto (-43), 3) := by decide +kernel
theorem dX7_addFour_49 : decode cX7_addFour 49 = .ok (.return_, 1) := by decide +kernel
theorem dX7_keepFirst_0 : decode cX7_keepFirst 0 = .ok (.iload_n 1, 1) := by decide +kernel
theorem dX7_keepFirst_1 : decode cX7_keepFirst 1 = .ok (.ifCond .lt 11, 3) := by decide +kernel
theorem dX7_keepFirst_4 : decode cX7_keepFirst 4 = .ok (.iload_n 1, 1) := by decide +kernel
theorem dX7_keepFirst_5 : decode cX7_keepFirst 5 = .ok (.aload_n 0, 1) := by decide +kernel
theorem dX7_keepFirst_6 : decode cX7_keepFirst 6 = .ok (.getfield 15, 3) := by decide +kernel
theorem dX7_keepFirst_9 : decode cX7_keepFirst 9 = .ok (.if_icmp .le 5, 3) := by decide +kernel
theorem dX7_keepFirst_12 : decode cX7_keepFirst 12 = .ok (.iconst 0, 1) := by decide +kernel
theorem dX7_keepFirst_13 : decode cX7_keepFirst 13 = .ok (.ireturn, 1) := by decide +kernel
theorem dX7_keepFirst_14 : decode cX7_keepFirst 14 = .ok (.aload_n 0, 1) := by decide +kernel
theorem dX7_keepFirst_15 : decode cX7_keepFirst 15 = .ok (.iload_n 1, 1) := by decide +kernel
theorem dX7_keepFirst_16 : decode cX7_keepFirst 16 = .ok (.putfield 15, 3) := by decide +kernel
theorem dX7_keepFirst_19 : decode cX7_keepFirst 19 = .ok (.iconst 1, 1) := by decide +kernel
theorem dX7_keepFirst_20 : decode cX7_keepFirst 20 = .ok (.ireturn, 1) := by decide +kernel
theorem dX7_byteAt_0 : decode cX7_byteAt 0 = .ok (.iload_n 1, 1) := by decide +kernel
theorem dX7_byteAt_1 : decode cX7_byteAt 1 = .ok (.ifCond .lt 20, 3) := by decide +kernel
theorem dX7_byteAt_4 : decode cX7_byteAt 4 = .ok (.iload_n 1, 1) := by decide +kernel
theorem dX7_byteAt_5 : decode cX7_byteAt 5 = .ok (.aload_n 0, 1) := by decide +kernel
theorem dX7_byteAt_6 : decode cX7_byteAt 6 = .ok (.getfield 15, 3) := by decide +kernel
theorem dX7_byteAt_9 : decode cX7_byteAt 9 = .ok (.if_icmp .ge 12, 3) := by decide +kernel
theorem dX7_byteAt_12 : decode cX7_byteAt 12 = .ok (.aload_n 0, 1) := by decide +kernel
theorem dX7_byteAt_13 : decode cX7_byteAt 13 = .ok (.getfield 11, 3) := by decide +kernel
theorem dX7_byteAt_16 : decode cX7_byteAt 16 = .ok (.iload_n 1, 1) := by decide +kernel
theorem dX7_byteAt_17 : decode cX7_byteAt 17 = .ok (.iaload, 1) := by decide +kernel
theorem dX7_byteAt_18 : decode cX7_byteAt 18 = .ok (.goto 4, 3) := by decide +kernel
theorem dX7_byteAt_21 : decode cX7_byteAt 21 = .ok (.iconst (-1), 1) := by decide +kernel
theorem dX7_byteAt_22 : decode cX7_byteAt 22 = .ok (.ireturn, 1) := by decide +kernel
theorem dX8_init_0 : decode cX8_init 0 = .ok (.aload_n 0, 1) := by decide +kernel
theorem dX8_init_1 : decode cX8_init 1 = .ok (.invokespecial 3, 3) := by decide +kernel
theorem dX8_init_4 : decode cX8_init 4 = .ok (.aload_n 0, 1) := by decide +kernel
theorem dX8_init_5 : decode cX8_init 5 = .ok (.bipush 6, 2) := by decide +kernel
theorem dX8_init_7 : decode cX8_init 7 = .ok (.newarray .int, 2) := by decide +kernel
theorem dX8_init_9 : decode cX8_init 9 = .ok (.putfield 11, 3) := by decide +kernel
theorem dX8_init_12 : decode cX8_init 12 = .ok (.aload_n 0, 1) := by decide +kernel
theorem dX8_init_13 : decode cX8_init 13 = .ok (.iconst 0, 1) := by decide +kernel
theorem dX8_init_14 : decode cX8_init 14 = .ok (.putfield 15, 3) := by decide +kernel
theorem dX8_init_17 : decode cX8_init 17 = .ok (.aload_n 0, 1) := by decide +kernel
theorem dX8_init_18 : decode cX8_init 18 = .ok (.iconst (-1), 1) := by decide +kernel
theorem dX8_init_19 : decode cX8_init 19 = .ok (.putfield 19, 3) := by decide +kernel
theorem dX8_init_22 : decode cX8_init 22 = .ok (.aload_n 0, 1) := by decide +kernel
theorem dX8_init_23 : decode cX8_init 23 = .ok (.aload_n 1, 1) := by decide +kernel
theorem dX8_init_24 : decode cX8_init 24 = .ok (.putfield 22, 3) := by decide +kernel
theorem dX8_init_27 : decode cX8_init 27 = .ok (.return_, 1) := by decide +kernel
theorem dX8_faultKind_0 : decode cX8_faultKind 0 = .ok (.aload_n 0, 1) := by decide +kernel
theorem dX8_faultKind_1 : decode cX8_faultKind 1 = .ok (.getfield 15, 3) := by decide +kernel
theorem dX8_faultKind_4 : decode cX8_faultKind 4 = .ok (.ireturn, 1) := by decide +kernel
theorem dX8_faultPlace_0 : decode cX8_faultPlace 0 = .ok (.aload_n 0, 1) := by decide +kernel
theorem dX8_faultPlace_1 : decode cX8_faultPlace 1 = .ok (.getfield 19, 3) := by decide +kernel
theorem dX8_faultPlace_4 : decode cX8_faultPlace 4 = .ok (.ireturn, 1) := by decide +kernel
theorem dX8_readOnto_0 : decode cX8_readOnto 0 = .ok (.aload_n 0, 1) := by decide +kernel
theorem dX8_readOnto_1 : decode cX8_readOnto 1 = .ok (.iconst 0, 1) := by decide +kernel
theorem dX8_readOnto_2 : decode cX8_readOnto 2 = .ok (.putfield 26, 3) := by decide +kernel
theorem dX8_readOnto_5 : decode cX8_readOnto 5 = .ok (.aload_n 0, 1) := by decide +kernel
theorem dX8_readOnto_6 : decode cX8_readOnto 6 = .ok (.iconst 0, 1) := by decide +kernel
theorem dX8_readOnto_7 : decode cX8_readOnto 7 = .ok (.putfield 15, 3) := by decide +kernel
theorem dX8_readOnto_10 : decode cX8_readOnto 10 = .ok (.aload_n 0, 1) := by decide +kernel
theorem dX8_readOnto_11 : decode cX8_readOnto 11 = .ok (.iconst (-1), 1) := by decide +kernel
theorem dX8_readOnto_12 : decode cX8_readOnto 12 = .ok (.putfield 19, 3) := by decide +kernel
theorem dX8_readOnto_15 : decode cX8_readOnto 15 = .ok (.aload_n 0, 1) := by decide +kernel
theorem dX8_readOnto_16 : decode cX8_readOnto 16 = .ok (.invokevirtual 29, 3) := by decide +kernel
theorem dX8_readOnto_19 : decode cX8_readOnto 19 = .ok (.iconst 0, 1) := by decide +kernel
theorem dX8_readOnto_20 : decode cX8_readOnto 20 = .ok (.istore_n 2, 1) := by decide +kernel
theorem dX8_readOnto_21 : decode cX8_readOnto 21 = .ok (.iload_n 2, 1) := by decide +kernel
theorem dX8_readOnto_22 : decode cX8_readOnto 22 = .ok (.sipush 400, 3) := by decide +kernel
theorem dX8_readOnto_25 : decode cX8_readOnto 25 = .ok (.if_icmp .ge 39, 3) := by decide +kernel
theorem dX8_readOnto_28 : decode cX8_readOnto 28 = .ok (.aload_n 0, 1) := by decide +kernel
theorem dX8_readOnto_29 : decode cX8_readOnto 29 = .ok (.getfield 15, 3) := by decide +kernel
theorem dX8_readOnto_32 : decode cX8_readOnto 32 = .ok (.ifCond .ne 32, 3) := by decide +kernel
theorem dX8_readOnto_35 : decode cX8_readOnto 35 = .ok (.aload_n 0, 1) := by decide +kernel
theorem dX8_readOnto_36 : decode cX8_readOnto 36 = .ok (.getfield 26, 3) := by decide +kernel
theorem dX8_readOnto_39 : decode cX8_readOnto 39 = .ok (.aload_n 0, 1) := by decide +kernel
theorem dX8_readOnto_40 : decode cX8_readOnto 40 = .ok (.getfield 22, 3) := by decide +kernel
theorem dX8_readOnto_43 : decode cX8_readOnto 43 = .ok (.invokevirtual 34, 3) := by decide +kernel
theorem dX8_readOnto_46 : decode cX8_readOnto 46 = .ok (.if_icmp .ge 18, 3) := by decide +kernel
theorem dX8_readOnto_49 : decode cX8_readOnto 49 = .ok (.aload_n 0, 1) := by decide +kernel
theorem dX8_readOnto_50 : decode cX8_readOnto 50 = .ok (.aload_n 1, 1) := by decide +kernel
theorem dX8_readOnto_51 : decode cX8_readOnto 51 = .ok (.invokevirtual 38, 3) := by decide +kernel
theorem dX8_readOnto_54 : decode cX8_readOnto 54 = .ok (.aload_n 0, 1) := by decide +kernel
theorem dX8_readOnto_55 : decode cX8_readOnto 55 = .ok (.invokevirtual 29, 3) := by decide +kernel
theorem dX8_readOnto_58 : decode cX8_readOnto 58 = .ok (.iinc 2 1, 3) := by decide +kernel
theorem dX8_readOnto_61 : decode cX8_readOnto 61 = .ok (.goto (-40), 3) := by decide +kernel
theorem dX8_readOnto_64 : decode cX8_readOnto 64 = .ok (.aload_n 0, 1) := by decide +kernel
theorem dX8_readOnto_65 : decode cX8_readOnto 65 = .ok (.getfield 15, 3) := by decide +kernel
theorem dX8_readOnto_68 : decode cX8_readOnto 68 = .ok (.ifCond .ne 7, 3) := by decide +kernel
theorem dX8_readOnto_71 : decode cX8_readOnto 71 = .ok (.iconst 1, 1) := by decide +kernel
theorem dX8_readOnto_72 : decode cX8_readOnto 72 = .ok (.goto 4, 3) := by decide +kernel
theorem dX8_readOnto_75 : decode cX8_readOnto 75 = .ok (.iconst 0, 1) := by decide +kernel
theorem dX8_readOnto_76 : decode cX8_readOnto 76 = .ok (.ireturn, 1) := by decide +kernel
theorem dX8_readStatement_0 : decode cX8_readStatement 0 = .ok (.aload_n 0, 1) := by decide +kernel
theorem dX8_readStatement_1 : decode cX8_readStatement 1 = .ok (.getfield 26, 3) := by decide +kernel
theorem dX8_readStatement_4 : decode cX8_readStatement 4 = .ok (.istore_n 2, 1) := by decide +kernel
theorem dX8_readStatement_5 : decode cX8_readStatement 5 = .ok (.aload_n 0, 1) := by decide +kernel
theorem dX8_readStatement_6 : decode cX8_readStatement 6 = .ok (.ldc 42, 2) := by decide +kernel
theorem dX8_readStatement_8 : decode cX8_readStatement 8 = .ok (.invokevirtual 44, 3) := by decide +kernel
theorem dX8_readStatement_11 : decode cX8_readStatement 11 = .ok (.ifCond .eq 12, 3) := by decide +kernel
theorem dX8_readStatement_14 : decode cX8_readStatement 14 = .ok (.aload_n 0, 1) := by decide +kernel
theorem dX8_readStatement_15 : decode cX8_readStatement 15 = .ok (.aload_n 1, 1) := by decide +kernel
theorem dX8_readStatement_16 : decode cX8_readStatement 16 = .ok (.iconst 1, 1) := by decide +kernel
theorem dX8_readStatement_17 : decode cX8_readStatement 17 = .ok (.invokevirtual 48, 3) := by decide +kernel
theorem dX8_readStatement_20 : decode cX8_readStatement 20 = .ok (.goto 62, 3) := by decide +kernel
theorem dX8_readStatement_23 : decode cX8_readStatement 23 = .ok (.aload_n 0, 1) := by decide +kernel
theorem dX8_readStatement_24 : decode cX8_readStatement 24 = .ok (.ldc 52, 2) := by decide +kernel
theorem dX8_readStatement_26 : decode cX8_readStatement 26 = .ok (.invokevirtual 44, 3) := by decide +kernel
theorem dX8_readStatement_29 : decode cX8_readStatement 29 = .ok (.ifCond .eq 12, 3) := by decide +kernel
theorem dX8_readStatement_32 : decode cX8_readStatement 32 = .ok (.aload_n 0, 1) := by decide +kernel
theorem dX8_readStatement_33 : decode cX8_readStatement 33 = .ok (.aload_n 1, 1) := by decide +kernel
theorem dX8_readStatement_34 : decode cX8_readStatement 34 = .ok (.iconst 0, 1) := by decide +kernel
theorem dX8_readStatement_35 : decode cX8_readStatement 35 = .ok (.invokevirtual 48, 3) := by decide +kernel
theorem dX8_readStatement_38 : decode cX8_readStatement 38 = .ok (.goto 44, 3) := by decide +kernel
theorem dX8_readStatement_41 : decode cX8_readStatement 41 = .ok (.aload_n 0, 1) := by decide +kernel
theorem dX8_readStatement_42 : decode cX8_readStatement 42 = .ok (.ldc 54, 2) := by decide +kernel
theorem dX8_readStatement_44 : decode cX8_readStatement 44 = .ok (.invokevirtual 44, 3) := by decide +kernel
theorem dX8_readStatement_47 : decode cX8_readStatement 47 = .ok (.ifCond .eq 11, 3) := by decide +kernel
theorem dX8_readStatement_50 : decode cX8_readStatement 50 = .ok (.aload_n 0, 1) := by decide +kernel
theorem dX8_readStatement_51 : decode cX8_readStatement 51 = .ok (.aload_n 1, 1) := by decide +kernel
theorem dX8_readStatement_52 : decode cX8_readStatement 52 = .ok (.invokevirtual 56, 3) := by decide +kernel
theorem dX8_readStatement_55 : decode cX8_readStatement 55 = .ok (.goto 27, 3) := by decide +kernel
theorem dX8_readStatement_58 : decode cX8_readStatement 58 = .ok (.aload_n 0, 1) := by decide +kernel
theorem dX8_readStatement_59 : decode cX8_readStatement 59 = .ok (.ldc 59, 2) := by decide +kernel
theorem dX8_readStatement_61 : decode cX8_readStatement 61 = .ok (.invokevirtual 44, 3) := by decide +kernel
theorem dX8_readStatement_64 : decode cX8_readStatement 64 = .ok (.ifCond .eq 12, 3) := by decide +kernel
theorem dX8_readStatement_67 : decode cX8_readStatement 67 = .ok (.aload_n 0, 1) := by decide +kernel
theorem dX8_readStatement_68 : decode cX8_readStatement 68 = .ok (.aload_n 1, 1) := by decide +kernel
theorem dX8_readStatement_69 : decode cX8_readStatement 69 = .ok (.iload_n 2, 1) := by decide +kernel
theorem dX8_readStatement_70 : decode cX8_readStatement 70 = .ok (.invokevirtual 61, 3) := by decide +kernel
theorem dX8_readStatement_73 : decode cX8_readStatement 73 = .ok (.goto 9, 3) := by decide +kernel
theorem dX8_readStatement_76 : decode cX8_readStatement 76 = .ok (.aload_n 0, 1) := by decide +kernel
theorem dX8_readStatement_77 : decode cX8_readStatement 77 = .ok (.iconst 1, 1) := by decide +kernel
theorem dX8_readStatement_78 : decode cX8_readStatement 78 = .ok (.iload_n 2, 1) := by decide +kernel
theorem dX8_readStatement_79 : decode cX8_readStatement 79 = .ok (.invokevirtual 64, 3) := by decide +kernel
theorem dX8_readStatement_82 : decode cX8_readStatement 82 = .ok (.return_, 1) := by decide +kernel
theorem dX8_readBlock_0 : decode cX8_readBlock 0 = .ok (.iconst 0, 1) := by decide +kernel
theorem dX8_readBlock_1 : decode cX8_readBlock 1 = .ok (.istore_n 3, 1) := by decide +kernel
theorem dX8_readBlock_2 : decode cX8_readBlock 2 = .ok (.iload_n 3, 1) := by decide +kernel
theorem dX8_readBlock_3 : decode cX8_readBlock 3 = .ok (.bipush 6, 2) := by decide +kernel
theorem dX8_readBlock_5 : decode cX8_readBlock 5 = .ok (.if_icmp .ge 21, 3) := by decide +kernel
theorem dX8_readBlock_8 : decode cX8_readBlock 8 = .ok (.aload_n 0, 1) := by decide +kernel
theorem dX8_readBlock_9 : decode cX8_readBlock 9 = .ok (.getfield 15, 3) := by decide +kernel
theorem dX8_readBlock_12 : decode cX8_readBlock 12 = .ok (.ifCond .ne 14, 3) := by decide +kernel
theorem dX8_readBlock_15 : decode cX8_readBlock 15 = .ok (.aload_n 0, 1) := by decide +kernel
theorem dX8_readBlock_16 : decode cX8_readBlock 16 = .ok (.iload_n 3, 1) := by decide +kernel
theorem dX8_readBlock_17 : decode cX8_readBlock 17 = .ok (.invokevirtual 68, 3) := by decide +kernel
theorem dX8_readBlock_20 : decode cX8_readBlock 20 = .ok (.iinc 3 1, 3) := by decide +kernel
theorem dX8_readBlock_23 : decode cX8_readBlock 23 = .ok (.goto (-21), 3) := by decide +kernel
theorem dX8_readBlock_26 : decode cX8_readBlock 26 = .ok (.aload_n 0, 1) := by decide +kernel
theorem dX8_readBlock_27 : decode cX8_readBlock 27 = .ok (.invokevirtual 72, 3) := by decide +kernel
theorem dX8_readBlock_30 : decode cX8_readBlock 30 = .ok (.aload_n 0, 1) := by decide +kernel
theorem dX8_readBlock_31 : decode cX8_readBlock 31 = .ok (.getfield 15, 3) := by decide +kernel
theorem dX8_readBlock_34 : decode cX8_readBlock 34 = .ok (.ifCond .ne 12, 3) := by decide +kernel
theorem dX8_readBlock_37 : decode cX8_readBlock 37 = .ok (.aload_n 1, 1) := by decide +kernel
theorem dX8_readBlock_38 : decode cX8_readBlock 38 = .ok (.aload_n 0, 1) := by decide +kernel
theorem dX8_readBlock_39 : decode cX8_readBlock 39 = .ok (.getfield 11, 3) := by decide +kernel
theorem dX8_readBlock_42 : decode cX8_readBlock 42 = .ok (.iload_n 2, 1) := by decide +kernel
theorem dX8_readBlock_43 : decode cX8_readBlock 43 = .ok (.invokevirtual 75, 3) := by decide +kernel
theorem dX8_readBlock_46 : decode cX8_readBlock 46 = .ok (.return_, 1) := by decide +kernel
theorem dX8_readNumber_0 : decode cX8_readNumber 0 = .ok (.aload_n 0, 1) := by decide +kernel
theorem dX8_readNumber_1 : decode cX8_readNumber 1 = .ok (.getfield 26, 3) := by decide +kernel
theorem dX8_readNumber_4 : decode cX8_readNumber 4 = .ok (.istore_n 2, 1) := by decide +kernel
theorem dX8_readNumber_5 : decode cX8_readNumber 5 = .ok (.aload_n 0, 1) := by decide +kernel
theorem dX8_readNumber_6 : decode cX8_readNumber 6 = .ok (.invokevirtual 29, 3) := by decide +kernel
theorem dX8_readNumber_9 : decode cX8_readNumber 9 = .ok (.aload_n 0, 1) := by decide +kernel
theorem dX8_readNumber_10 : decode cX8_readNumber 10 = .ok (.getfield 22, 3) := by decide +kernel
theorem dX8_readNumber_13 : decode cX8_readNumber 13 = .ok (.aload_n 0, 1) := by decide +kernel
theorem dX8_readNumber_14 : decode cX8_readNumber 14 = .ok (.getfield 26, 3) := by decide +kernel
theorem dX8_readNumber_17 : decode cX8_readNumber 17 = .ok (.invokevirtual 81, 3) := by decide +kernel
theorem dX8_readNumber_20 : decode cX8_readNumber 20 = .ok (.bipush 48, 2) := by decide +kernel
theorem dX8_readNumber_22 : decode cX8_readNumber 22 = .ok (.isub, 1) := by decide +kernel
theorem dX8_readNumber_23 : decode cX8_readNumber 23 = .ok (.istore_n 3, 1) := by decide +kernel
theorem dX8_readNumber_24 : decode cX8_readNumber 24 = .ok (.aload_n 0, 1) := by decide +kernel
theorem dX8_readNumber_25 : decode cX8_readNumber 25 = .ok (.getfield 26, 3) := by decide +kernel
theorem dX8_readNumber_28 : decode cX8_readNumber 28 = .ok (.iload_n 2, 1) := by decide +kernel
theorem dX8_readNumber_29 : decode cX8_readNumber 29 = .ok (.if_icmp .le 7, 3) := by decide +kernel
theorem dX8_readNumber_32 : decode cX8_readNumber 32 = .ok (.iconst 1, 1) := by decide +kernel
theorem dX8_readNumber_33 : decode cX8_readNumber 33 = .ok (.goto 4, 3) := by decide +kernel
theorem dX8_readNumber_36 : decode cX8_readNumber 36 = .ok (.iconst 0, 1) := by decide +kernel
theorem dX8_readNumber_37 : decode cX8_readNumber 37 = .ok (.istore 4, 2) := by decide +kernel
theorem dX8_readNumber_39 : decode cX8_readNumber 39 = .ok (.iload 4, 2) := by decide +kernel
theorem dX8_readNumber_41 : decode cX8_readNumber 41 = .ok (.ifCond .eq 13, 3) := by decide +kernel
theorem dX8_readNumber_44 : decode cX8_readNumber 44 = .ok (.iload_n 3, 1) := by decide +kernel
theorem dX8_readNumber_45 : decode cX8_readNumber 45 = .ok (.ifCond .lt 9, 3) := by decide +kernel
theorem dX8_readNumber_48 : decode cX8_readNumber 48 = .ok (.iload_n 3, 1) := by decide +kernel
theorem dX8_readNumber_49 : decode cX8_readNumber 49 = .ok (.bipush 9, 2) := by decide +kernel
theorem dX8_readNumber_51 : decode cX8_readNumber 51 = .ok (.if_icmp .le 15, 3) := by decide +kernel
theorem dX8_readNumber_54 : decode cX8_readNumber 54 = .ok (.aload_n 0, 1) := by decide +kernel
theorem dX8_readNumber_55 : decode cX8_readNumber 55 = .ok (.iconst 1, 1) := by decide +kernel
theorem dX8_readNumber_56 : decode cX8_readNumber 56 = .ok (.aload_n 0, 1) := by decide +kernel
theorem dX8_readNumber_57 : decode cX8_readNumber 57 = .ok (.getfield 26, 3) := by decide +kernel
theorem dX8_readNumber_60 : decode cX8_readNumber 60 = .ok (.invokevirtual 64, 3) := by decide +kernel
theorem dX8_readNumber_63 : decode cX8_readNumber 63 = .ok (.goto 41, 3) := by decide +kernel
theorem dX8_readNumber_66 : decode cX8_readNumber 66 = .ok (.iload_n 1, 1) := by decide +kernel
theorem dX8_readNumber_67 : decode cX8_readNumber 67 = .ok (.iconst 3, 1) := by decide +kernel
theorem dX8_readNumber_68 : decode cX8_readNumber 68 = .ok (.if_icmp .lt 19, 3) := by decide +kernel
theorem dX8_readNumber_71 : decode cX8_readNumber 71 = .ok (.iload_n 3, 1) := by decide +kernel
theorem dX8_readNumber_72 : decode cX8_readNumber 72 = .ok (.ifCond .ne 15, 3) := by decide +kernel
theorem dX8_readNumber_75 : decode cX8_readNumber 75 = .ok (.aload_n 0, 1) := by decide +kernel
theorem dX8_readNumber_76 : decode cX8_readNumber 76 = .ok (.iconst 2, 1) := by decide +kernel
theorem dX8_readNumber_77 : decode cX8_readNumber 77 = .ok (.aload_n 0, 1) := by decide +kernel
theorem dX8_readNumber_78 : decode cX8_readNumber 78 = .ok (.getfield 26, 3) := by decide +kernel
theorem dX8_readNumber_81 : decode cX8_readNumber 81 = .ok (.invokevirtual 64, 3) := by decide +kernel
theorem dX8_readNumber_84 : decode cX8_readNumber 84 = .ok (.goto 20, 3) := by decide +kernel
theorem dX8_readNumber_87 : decode cX8_readNumber 87 = .ok (.aload_n 0, 1) := by decide +kernel
theorem dX8_readNumber_88 : decode cX8_readNumber 88 = .ok (.getfield 11, 3) := by decide +kernel
theorem dX8_readNumber_91 : decode cX8_readNumber 91 = .ok (.iload_n 1, 1) := by decide +kernel
theorem dX8_readNumber_92 : decode cX8_readNumber 92 = .ok (.iload_n 3, 1) := by decide +kernel
theorem dX8_readNumber_93 : decode cX8_readNumber 93 = .ok (.iastore, 1) := by decide +kernel
theorem dX8_readNumber_94 : decode cX8_readNumber 94 = .ok (.aload_n 0, 1) := by decide +kernel
theorem dX8_readNumber_95 : decode cX8_readNumber 95 = .ok (.dup, 1) := by decide +kernel
theorem dX8_readNumber_96 : decode cX8_readNumber 96 = .ok (.getfield 26, 3) := by decide +kernel
theorem dX8_readNumber_99 : decode cX8_readNumber 99 = .ok (.iconst 1, 1) := by decide +kernel
theorem dX8_readNumber_100 : decode cX8_readNumber 100 = .ok (.iadd, 1) := by decide +kernel
theorem dX8_readNumber_101 : decode cX8_readNumber 101 = .ok (.putfield 26, 3) := by decide +kernel
theorem dX8_readNumber_104 : decode cX8_readNumber 104 = .ok (.return_, 1) := by decide +kernel
theorem dX8_readMirror_0 : decode cX8_readMirror 0 = .ok (.aload_n 0, 1) := by decide +kernel
theorem dX8_readMirror_1 : decode cX8_readMirror 1 = .ok (.invokevirtual 29, 3) := by decide +kernel
theorem dX8_readMirror_4 : decode cX8_readMirror 4 = .ok (.aload_n 0, 1) := by decide +kernel
theorem dX8_readMirror_5 : decode cX8_readMirror 5 = .ok (.getfield 26, 3) := by decide +kernel
theorem dX8_readMirror_8 : decode cX8_readMirror 8 = .ok (.istore_n 2, 1) := by decide +kernel
theorem dX8_readMirror_9 : decode cX8_readMirror 9 = .ok (.aload_n 0, 1) := by decide +kernel
theorem dX8_readMirror_10 : decode cX8_readMirror 10 = .ok (.invokevirtual 85, 3) := by decide +kernel
theorem dX8_readMirror_13 : decode cX8_readMirror 13 = .ok (.istore_n 3, 1) := by decide +kernel
theorem dX8_readMirror_14 : decode cX8_readMirror 14 = .ok (.iload_n 3, 1) := by decide +kernel
theorem dX8_readMirror_15 : decode cX8_readMirror 15 = .ok (.iconst (-1), 1) := by decide +kernel
theorem dX8_readMirror_16 : decode cX8_readMirror 16 = .ok (.if_icmp .ne 9, 3) := by decide +kernel
theorem dX8_readMirror_19 : decode cX8_readMirror 19 = .ok (.aload_n 0, 1) := by decide +kernel
theorem dX8_readMirror_20 : decode cX8_readMirror 20 = .ok (.iconst 1, 1) := by decide +kernel
theorem dX8_readMirror_21 : decode cX8_readMirror 21 = .ok (.iload_n 2, 1) := by decide +kernel
theorem dX8_readMirror_22 : decode cX8_readMirror 22 = .ok (.invokevirtual 64, 3) := by decide +kernel
theorem dX8_readMirror_25 : decode cX8_readMirror 25 = .ok (.aload_n 0, 1) := by decide +kernel
theorem dX8_readMirror_26 : decode cX8_readMirror 26 = .ok (.invokevirtual 72, 3) := by decide +kernel
theorem dX8_readMirror_29 : decode cX8_readMirror 29 = .ok (.aload_n 0, 1) := by decide +kernel
theorem dX8_readMirror_30 : decode cX8_readMirror 30 = .ok (.getfield 15, 3) := by decide +kernel
theorem dX8_readMirror_33 : decode cX8_readMirror 33 = .ok (.ifCond .ne 8, 3) := by decide +kernel
theorem dX8_readMirror_36 : decode cX8_readMirror 36 = .ok (.aload_n 1, 1) := by decide +kernel
theorem dX8_readMirror_37 : decode cX8_readMirror 37 = .ok (.iload_n 3, 1) := by decide +kernel
theorem dX8_readMirror_38 : decode cX8_readMirror 38 = .ok (.invokevirtual 88, 3) := by decide +kernel
theorem dX8_readMirror_41 : decode cX8_readMirror 41 = .ok (.return_, 1) := by decide +kernel
theorem dX8_readTurn_0 : decode cX8_readTurn 0 = .ok (.aload_n 1, 1) := by decide +kernel
theorem dX8_readTurn_1 : decode cX8_readTurn 1 = .ok (.invokevirtual 91, 3) := by decide +kernel
theorem dX8_readTurn_4 : decode cX8_readTurn 4 = .ok (.ifCond .ne 9, 3) := by decide +kernel
theorem dX8_readTurn_7 : decode cX8_readTurn 7 = .ok (.aload_n 0, 1) := by decide +kernel
theorem dX8_readTurn_8 : decode cX8_readTurn 8 = .ok (.iconst 2, 1) := by decide +kernel
theorem dX8_readTurn_9 : decode cX8_readTurn 9 = .ok (.iload_n 2, 1) := by decide +kernel
theorem dX8_readTurn_10 : decode cX8_readTurn 10 = .ok (.invokevirtual 64, 3) := by decide +kernel
theorem dX8_readTurn_13 : decode cX8_readTurn 13 = .ok (.aload_n 0, 1) := by decide +kernel
theorem dX8_readTurn_14 : decode cX8_readTurn 14 = .ok (.invokevirtual 72, 3) := by decide +kernel
theorem dX8_readTurn_17 : decode cX8_readTurn 17 = .ok (.aload_n 0, 1) := by decide +kernel
theorem dX8_readTurn_18 : decode cX8_readTurn 18 = .ok (.getfield 15, 3) := by decide +kernel
theorem dX8_readTurn_21 : decode cX8_readTurn 21 = .ok (.ifCond .ne 7, 3) := by decide +kernel
theorem dX8_readTurn_24 : decode cX8_readTurn 24 = .ok (.aload_n 1, 1) := by decide +kernel
theorem dX8_readTurn_25 : decode cX8_readTurn 25 = .ok (.invokevirtual 95, 3) := by decide +kernel
theorem dX8_readTurn_28 : decode cX8_readTurn 28 = .ok (.return_, 1) := by decide +kernel
theorem dX8_readSemicolon_0 : decode cX8_readSemicolon 0 = .ok (.aload_n 0, 1) := by decide +kernel
theorem dX8_readSemicolon_1 : decode cX8_readSemicolon 1 = .ok (.invokevirtual 29, 3) := by decide +kernel
theorem dX8_readSemicolon_4 : decode cX8_readSemicolon 4 = .ok (.aload_n 0, 1) := by decide +kernel
theorem dX8_readSemicolon_5 : decode cX8_readSemicolon 5 = .ok (.getfield 22, 3) := by decide +kernel
theorem dX8_readSemicolon_8 : decode cX8_readSemicolon 8 = .ok (.aload_n 0, 1) := by decide +kernel
theorem dX8_readSemicolon_9 : decode cX8_readSemicolon 9 = .ok (.getfield 26, 3) := by decide +kernel
theorem dX8_readSemicolon_12 : decode cX8_readSemicolon 12 = .ok (.invokevirtual 81, 3) := by decide +kernel
theorem dX8_readSemicolon_15 : decode cX8_readSemicolon 15 = .ok (.bipush 59, 2) := by decide +kernel
theorem dX8_readSemicolon_17 : decode cX8_readSemicolon 17 = .ok (.if_icmp .ne 16, 3) := by decide +kernel
theorem dX8_readSemicolon_20 : decode cX8_readSemicolon 20 = .ok (.aload_n 0, 1) := by decide +kernel
theorem dX8_readSemicolon_21 : decode cX8_readSemicolon 21 = .ok (.dup, 1) := by decide +kernel
theorem dX8_readSemicolon_22 : decode cX8_readSemicolon 22 = .ok (.getfield 26, 3) := by decide +kernel
theorem dX8_readSemicolon_25 : decode cX8_readSemicolon 25 = .ok (.iconst 1, 1) := by decide +kernel
theorem dX8_readSemicolon_26 : decode cX8_readSemicolon 26 = .ok (.iadd, 1) := by decide +kernel
theorem dX8_readSemicolon_27 : decode cX8_readSemicolon 27 = .ok (.putfield 26, 3) := by decide +kernel
theorem dX8_readSemicolon_30 : decode cX8_readSemicolon 30 = .ok (.goto 12, 3) := by decide +kernel
theorem dX8_readSemicolon_33 : decode cX8_readSemicolon 33 = .ok (.aload_n 0, 1) := by decide +kernel
theorem dX8_readSemicolon_34 : decode cX8_readSemicolon 34 = .ok (.iconst 1, 1) := by decide +kernel
theorem dX8_readSemicolon_35 : decode cX8_readSemicolon 35 = .ok (.aload_n 0, 1) := by decide +kernel
theorem dX8_readSemicolon_36 : decode cX8_readSemicolon 36 = .ok (.getfield 26, 3) := by decide +kernel
theorem dX8_readSemicolon_39 : decode cX8_readSemicolon 39 = .ok (.invokevirtual 64, 3) := by decide +kernel
theorem dX8_readSemicolon_42 : decode cX8_readSemicolon 42 = .ok (.return_, 1) := by decide +kernel
theorem dX8_takeAxis_0 : decode cX8_takeAxis 0 = .ok (.aload_n 0, 1) := by decide +kernel
theorem dX8_takeAxis_1 : decode cX8_takeAxis 1 = .ok (.ldc 98, 2) := by decide +kernel
theorem dX8_takeAxis_3 : decode cX8_takeAxis 3 = .ok (.invokevirtual 44, 3) := by decide +kernel
theorem dX8_takeAxis_6 : decode cX8_takeAxis 6 = .ok (.ifCond .eq 5, 3) := by decide +kernel
theorem dX8_takeAxis_9 : decode cX8_takeAxis 9 = .ok (.iconst 0, 1) := by decide +kernel
theorem dX8_takeAxis_10 : decode cX8_takeAxis 10 = .ok (.ireturn, 1) := by decide +kernel
theorem dX8_takeAxis_11 : decode cX8_takeAxis 11 = .ok (.aload_n 0, 1) := by decide +kernel
theorem dX8_takeAxis_12 : decode cX8_takeAxis 12 = .ok (.ldc 100, 2) := by decide +kernel
theorem dX8_takeAxis_14 : decode cX8_takeAxis 14 = .ok (.invokevirtual 44, 3) := by decide +kernel
theorem dX8_takeAxis_17 : decode cX8_takeAxis 17 = .ok (.ifCond .eq 5, 3) := by decide +kernel
theorem dX8_takeAxis_20 : decode cX8_takeAxis 20 = .ok (.iconst 1, 1) := by decide +kernel
theorem dX8_takeAxis_21 : decode cX8_takeAxis 21 = .ok (.ireturn, 1) := by decide +kernel
theorem dX8_takeAxis_22 : decode cX8_takeAxis 22 = .ok (.aload_n 0, 1) := by decide +kernel
theorem dX8_takeAxis_23 : decode cX8_takeAxis 23 = .ok (.ldc 102, 2) := by decide +kernel
theorem dX8_takeAxis_25 : decode cX8_takeAxis 25 = .ok (.invokevirtual 44, 3) := by decide +kernel
theorem dX8_takeAxis_28 : decode cX8_takeAxis 28 = .ok (.ifCond .eq 7, 3) := by decide +kernel
theorem dX8_takeAxis_31 : decode cX8_takeAxis 31 = .ok (.iconst 2, 1) := by decide +kernel
theorem dX8_takeAxis_32 : decode cX8_takeAxis 32 = .ok (.goto 4, 3) := by decide +kernel
theorem dX8_takeAxis_35 : decode cX8_takeAxis 35 = .ok (.iconst (-1), 1) := by decide +kernel
theorem dX8_takeAxis_36 : decode cX8_takeAxis 36 = .ok (.ireturn, 1) := by decide +kernel
theorem dX8_takeWord_0 : decode cX8_takeWord 0 = .ok (.aload_n 1, 1) := by decide +kernel
theorem dX8_takeWord_1 : decode cX8_takeWord 1 = .ok (.invokevirtual 104, 3) := by decide +kernel
theorem dX8_takeWord_4 : decode cX8_takeWord 4 = .ok (.istore_n 2, 1) := by decide +kernel
theorem dX8_takeWord_5 : decode cX8_takeWord 5 = .ok (.iconst 0, 1) := by decide +kernel
theorem dX8_takeWord_6 : decode cX8_takeWord 6 = .ok (.istore_n 3, 1) := by decide +kernel
theorem dX8_takeWord_7 : decode cX8_takeWord 7 = .ok (.iload_n 3, 1) := by decide +kernel
theorem dX8_takeWord_8 : decode cX8_takeWord 8 = .ok (.iload_n 2, 1) := by decide +kernel
theorem dX8_takeWord_9 : decode cX8_takeWord 9 = .ok (.if_icmp .ge 32, 3) := by decide +kernel
theorem dX8_takeWord_12 : decode cX8_takeWord 12 = .ok (.aload_n 0, 1) := by decide +kernel
theorem dX8_takeWord_13 : decode cX8_takeWord 13 = .ok (.getfield 22, 3) := by decide +kernel
theorem dX8_takeWord_16 : decode cX8_takeWord 16 = .ok (.aload_n 0, 1) := by decide +kernel
theorem dX8_takeWord_17 : decode cX8_takeWord 17 = .ok (.getfield 26, 3) := by decide +kernel
theorem dX8_takeWord_20 : decode cX8_takeWord 20 = .ok (.iload_n 3, 1) := by decide +kernel
theorem dX8_takeWord_21 : decode cX8_takeWord 21 = .ok (.iadd, 1) := by decide +kernel
theorem dX8_takeWord_22 : decode cX8_takeWord 22 = .ok (.invokevirtual 81, 3) := by decide +kernel
theorem dX8_takeWord_25 : decode cX8_takeWord 25 = .ok (.aload_n 1, 1) := by decide +kernel
theorem dX8_takeWord_26 : decode cX8_takeWord 26 = .ok (.iload_n 3, 1) := by decide +kernel
theorem dX8_takeWord_27 : decode cX8_takeWord 27 = .ok (.invokevirtual 109, 3) := by decide +kernel
theorem dX8_takeWord_30 : decode cX8_takeWord 30 = .ok (.if_icmp .eq 5, 3) := by decide +kernel
theorem dX8_takeWord_33 : decode cX8_takeWord 33 = .ok (.iconst 0, 1) := by decide +kernel
theorem dX8_takeWord_34 : decode cX8_takeWord 34 = .ok (.ireturn, 1) := by decide +kernel
theorem dX8_takeWord_35 : decode cX8_takeWord 35 = .ok (.iinc 3 1, 3) := by decide +kernel
theorem dX8_takeWord_38 : decode cX8_takeWord 38 = .ok (.goto (-31), 3) := by decide +kernel
theorem dX8_takeWord_41 : decode cX8_takeWord 41 = .ok (.aload_n 0, 1) := by decide +kernel
theorem dX8_takeWord_42 : decode cX8_takeWord 42 = .ok (.getfield 22, 3) := by decide +kernel
theorem dX8_takeWord_45 : decode cX8_takeWord 45 = .ok (.aload_n 0, 1) := by decide +kernel
theorem dX8_takeWord_46 : decode cX8_takeWord 46 = .ok (.getfield 26, 3) := by decide +kernel
theorem dX8_takeWord_49 : decode cX8_takeWord 49 = .ok (.iload_n 2, 1) := by decide +kernel
theorem dX8_takeWord_50 : decode cX8_takeWord 50 = .ok (.iadd, 1) := by decide +kernel
theorem dX8_takeWord_51 : decode cX8_takeWord 51 = .ok (.invokevirtual 81, 3) := by decide +kernel
theorem dX8_takeWord_54 : decode cX8_takeWord 54 = .ok (.invokestatic 113, 3) := by decide +kernel
theorem dX8_takeWord_57 : decode cX8_takeWord 57 = .ok (.ifCond .eq 5, 3) := by decide +kernel
theorem dX8_takeWord_60 : decode cX8_takeWord 60 = .ok (.iconst 0, 1) := by decide +kernel
theorem dX8_takeWord_61 : decode cX8_takeWord 61 = .ok (.ireturn, 1) := by decide +kernel
theorem dX8_takeWord_62 : decode cX8_takeWord 62 = .ok (.aload_n 0, 1) := by decide +kernel
theorem dX8_takeWord_63 : decode cX8_takeWord 63 = .ok (.dup, 1) := by decide +kernel
theorem dX8_takeWord_64 : decode cX8_takeWord 64 = .ok (.getfield 26, 3) := by decide +kernel
theorem dX8_takeWord_67 : decode cX8_takeWord 67 = .ok (.iload_n 2, 1) := by decide +kernel
theorem dX8_takeWord_68 : decode cX8_takeWord 68 = .ok (.iadd, 1) := by decide +kernel
theorem dX8_takeWord_69 : decode cX8_takeWord 69 = .ok (.putfield 26, 3) := by decide +kernel
theorem dX8_takeWord_72 : decode cX8_takeWord 72 = .ok (.iconst 1, 1) := by decide +kernel
theorem dX8_takeWord_73 : decode cX8_takeWord 73 = .ok (.ireturn, 1) := by decide +kernel
theorem dX8_isLetter_0 : decode cX8_isLetter 0 = .ok (.iload_n 0, 1) := by decide +kernel
theorem dX8_isLetter_1 : decode cX8_isLetter 1 = .ok (.bipush 97, 2) := by decide +kernel
theorem dX8_isLetter_3 : decode cX8_isLetter 3 = .ok (.if_icmp .lt 13, 3) := by decide +kernel
theorem dX8_isLetter_6 : decode cX8_isLetter 6 = .ok (.iload_n 0, 1) := by decide +kernel
theorem dX8_isLetter_7 : decode cX8_isLetter 7 = .ok (.bipush 122, 2) := by decide +kernel
theorem dX8_isLetter_9 : decode cX8_isLetter 9 = .ok (.if_icmp .gt 7, 3) := by decide +kernel
theorem dX8_isLetter_12 : decode cX8_isLetter 12 = .ok (.iconst 1, 1) := by decide +kernel
theorem dX8_isLetter_13 : decode cX8_isLetter 13 = .ok (.goto 4, 3) := by decide +kernel
theorem dX8_isLetter_16 : decode cX8_isLetter 16 = .ok (.iconst 0, 1) := by decide +kernel
theorem dX8_isLetter_17 : decode cX8_isLetter 17 = .ok (.ireturn, 1) := by decide +kernel
theorem dX8_skipBlanks_0 : decode cX8_skipBlanks 0 = .ok (.aload_n 0, 1) := by decide +kernel
theorem dX8_skipBlanks_1 : decode cX8_skipBlanks 1 = .ok (.getfield 26, 3) := by decide +kernel
theorem dX8_skipBlanks_4 : decode cX8_skipBlanks 4 = .ok (.aload_n 0, 1) := by decide +kernel
theorem dX8_skipBlanks_5 : decode cX8_skipBlanks 5 = .ok (.getfield 22, 3) := by decide +kernel
theorem dX8_skipBlanks_8 : decode cX8_skipBlanks 8 = .ok (.invokevirtual 34, 3) := by decide +kernel
theorem dX8_skipBlanks_11 : decode cX8_skipBlanks 11 = .ok (.if_icmp .ge 33, 3) := by decide +kernel
theorem dX8_skipBlanks_14 : decode cX8_skipBlanks 14 = .ok (.aload_n 0, 1) := by decide +kernel
theorem dX8_skipBlanks_15 : decode cX8_skipBlanks 15 = .ok (.getfield 22, 3) := by decide +kernel
theorem dX8_skipBlanks_18 : decode cX8_skipBlanks 18 = .ok (.aload_n 0, 1) := by decide +kernel
theorem dX8_skipBlanks_19 : decode cX8_skipBlanks 19 = .ok (.getfield 26, 3) := by decide +kernel
theorem dX8_skipBlanks_22 : decode cX8_skipBlanks 22 = .ok (.invokevirtual 81, 3) := by decide +kernel
theorem dX8_skipBlanks_25 : decode cX8_skipBlanks 25 = .ok (.invokestatic 117, 3) := by decide +kernel
theorem dX8_skipBlanks_28 : decode cX8_skipBlanks 28 = .ok (.ifCond .eq 16, 3) := by decide +kernel
theorem dX8_skipBlanks_31 : decode cX8_skipBlanks 31 = .ok (.aload_n 0, 1) := by decide +kernel
theorem dX8_skipBlanks_32 : decode cX8_skipBlanks 32 = .ok (.dup, 1) := by decide +kernel
theorem dX8_skipBlanks_33 : decode cX8_skipBlanks 33 = .ok (.getfield 26, 3) := by decide +kernel
theorem dX8_skipBlanks_36 : decode cX8_skipBlanks 36 = .ok (.iconst 1, 1) := by decide +kernel
theorem dX8_skipBlanks_37 : decode cX8_skipBlanks 37 = .ok (.iadd, 1) := by decide +kernel
theorem dX8_skipBlanks_38 : decode cX8_skipBlanks 38 = .ok (.putfield 26, 3) := by decide +kernel
theorem dX8_skipBlanks_41 : decode cX8_skipBlanks 41 = .ok (.goto (-41), 3) := by decide +kernel
theorem dX8_skipBlanks_44 : decode cX8_skipBlanks 44 = .ok (.return_, 1) := by decide +kernel
theorem dX8_isBlank_0 : decode cX8_isBlank 0 = .ok (.iload_n 0, 1) := by decide +kernel
theorem dX8_isBlank_1 : decode cX8_isBlank 1 = .ok (.bipush 10, 2) := by decide +kernel
theorem dX8_isBlank_3 : decode cX8_isBlank 3 = .ok (.if_icmp .eq 9, 3) := by decide +kernel
theorem dX8_isBlank_6 : decode cX8_isBlank 6 = .ok (.iload_n 0, 1) := by decide +kernel
theorem dX8_isBlank_7 : decode cX8_isBlank 7 = .ok (.bipush 32, 2) := by decide +kernel
theorem dX8_isBlank_9 : decode cX8_isBlank 9 = .ok (.if_icmp .ne 7, 3) := by decide +kernel
theorem dX8_isBlank_12 : decode cX8_isBlank 12 = .ok (.iconst 1, 1) := by decide +kernel
theorem dX8_isBlank_13 : decode cX8_isBlank 13 = .ok (.goto 4, 3) := by decide +kernel
theorem dX8_isBlank_16 : decode cX8_isBlank 16 = .ok (.iconst 0, 1) := by decide +kernel
theorem dX8_isBlank_17 : decode cX8_isBlank 17 = .ok (.ireturn, 1) := by decide +kernel
theorem dX8_refuse_0 : decode cX8_refuse 0 = .ok (.aload_n 0, 1) := by decide +kernel
theorem dX8_refuse_1 : decode cX8_refuse 1 = .ok (.getfield 15, 3) := by decide +kernel
theorem dX8_refuse_4 : decode cX8_refuse 4 = .ok (.ifCond .ne 13, 3) := by decide +kernel
theorem dX8_refuse_7 : decode cX8_refuse 7 = .ok (.aload_n 0, 1) := by decide +kernel
theorem dX8_refuse_8 : decode cX8_refuse 8 = .ok (.iload_n 1, 1) := by decide +kernel
theorem dX8_refuse_9 : decode cX8_refuse 9 = .ok (.putfield 15, 3) := by decide +kernel
theorem dX8_refuse_12 : decode cX8_refuse 12 = .ok (.aload_n 0, 1) := by decide +kernel
theorem dX8_refuse_13 : decode cX8_refuse 13 = .ok (.iload_n 2, 1) := by decide +kernel
theorem dX8_refuse_14 : decode cX8_refuse 14 = .ok (.putfield 19, 3) := by decide +kernel
theorem dX8_refuse_17 : decode cX8_refuse 17 = .ok (.return_, 1) := by decide +kernel
theorem dX9_init_0 : decode cX9_init 0 = .ok (.aload_n 0, 1) := by decide +kernel
theorem dX9_init_1 : decode cX9_init 1 = .ok (.invokespecial 1, 3) := by decide +kernel
theorem dX9_init_4 : decode cX9_init 4 = .ok (.aload_n 0, 1) := by decide +kernel
theorem dX9_init_5 : decode cX9_init 5 = .ok (.new 7, 3) := by decide +kernel
theorem dX9_init_8 : decode cX9_init 8 = .ok (.dup, 1) := by decide +kernel
theorem dX9_init_9 : decode cX9_init 9 = .ok (.invokespecial 9, 3) := by decide +kernel
theorem dX9_init_12 : decode cX9_init 12 = .ok (.putfield 10, 3) := by decide +kernel
theorem dX9_init_15 : decode cX9_init 15 = .ok (.aload_n 0, 1) := by decide +kernel
theorem dX9_init_16 : decode cX9_init 16 = .ok (.new 16, 3) := by decide +kernel
theorem dX9_init_19 : decode cX9_init 19 = .ok (.dup, 1) := by decide +kernel
theorem dX9_init_20 : decode cX9_init 20 = .ok (.aload_n 0, 1) := by decide +kernel
theorem dX9_init_21 : decode cX9_init 21 = .ok (.getfield 10, 3) := by decide +kernel
theorem dX9_init_24 : decode cX9_init 24 = .ok (.invokespecial 18, 3) := by decide +kernel
theorem dX9_init_27 : decode cX9_init 27 = .ok (.putfield 21, 3) := by decide +kernel
theorem dX9_init_30 : decode cX9_init 30 = .ok (.aload_n 0, 1) := by decide +kernel
theorem dX9_init_31 : decode cX9_init 31 = .ok (.new 25, 3) := by decide +kernel
theorem dX9_init_34 : decode cX9_init 34 = .ok (.dup, 1) := by decide +kernel
theorem dX9_init_35 : decode cX9_init 35 = .ok (.invokespecial 27, 3) := by decide +kernel
theorem dX9_init_38 : decode cX9_init 38 = .ok (.putfield 28, 3) := by decide +kernel
theorem dX9_init_41 : decode cX9_init 41 = .ok (.aload_n 0, 1) := by decide +kernel
theorem dX9_init_42 : decode cX9_init 42 = .ok (.new 25, 3) := by decide +kernel
theorem dX9_init_45 : decode cX9_init 45 = .ok (.dup, 1) := by decide +kernel
theorem dX9_init_46 : decode cX9_init 46 = .ok (.invokespecial 27, 3) := by decide +kernel
theorem dX9_init_49 : decode cX9_init 49 = .ok (.putfield 32, 3) := by decide +kernel
theorem dX9_init_52 : decode cX9_init 52 = .ok (.aload_n 0, 1) := by decide +kernel
theorem dX9_init_53 : decode cX9_init 53 = .ok (.new 35, 3) := by decide +kernel
theorem dX9_init_56 : decode cX9_init 56 = .ok (.dup, 1) := by decide +kernel
theorem dX9_init_57 : decode cX9_init 57 = .ok (.aload_n 0, 1) := by decide +kernel
theorem dX9_init_58 : decode cX9_init 58 = .ok (.getfield 28, 3) := by decide +kernel
theorem dX9_init_61 : decode cX9_init 61 = .ok (.invokespecial 37, 3) := by decide +kernel
theorem dX9_init_64 : decode cX9_init 64 = .ok (.putfield 40, 3) := by decide +kernel
theorem dX9_init_67 : decode cX9_init 67 = .ok (.aload_n 0, 1) := by decide +kernel
theorem dX9_init_68 : decode cX9_init 68 = .ok (.new 44, 3) := by decide +kernel
theorem dX9_init_71 : decode cX9_init 71 = .ok (.dup, 1) := by decide +kernel
theorem dX9_init_72 : decode cX9_init 72 = .ok (.invokespecial 46, 3) := by decide +kernel
theorem dX9_init_75 : decode cX9_init 75 = .ok (.putfield 47, 3) := by decide +kernel
theorem dX9_init_78 : decode cX9_init 78 = .ok (.aload_n 0, 1) := by decide +kernel
theorem dX9_init_79 : decode cX9_init 79 = .ok (.new 51, 3) := by decide +kernel
theorem dX9_init_82 : decode cX9_init 82 = .ok (.dup, 1) := by decide +kernel
theorem dX9_init_83 : decode cX9_init 83 = .ok (.aload_n 0, 1) := by decide +kernel
theorem dX9_init_84 : decode cX9_init 84 = .ok (.getfield 40, 3) := by decide +kernel
theorem dX9_init_87 : decode cX9_init 87 = .ok (.aload_n 0, 1) := by decide +kernel
theorem dX9_init_88 : decode cX9_init 88 = .ok (.getfield 47, 3) := by decide +kernel
theorem dX9_init_91 : decode cX9_init 91 = .ok (.invokespecial 53, 3) := by decide +kernel
theorem dX9_init_94 : decode cX9_init 94 = .ok (.putfield 56, 3) := by decide +kernel
theorem dX9_init_97 : decode cX9_init 97 = .ok (.aload_n 0, 1) := by decide +kernel
theorem dX9_init_98 : decode cX9_init 98 = .ok (.new 60, 3) := by decide +kernel
theorem dX9_init_101 : decode cX9_init 101 = .ok (.dup, 1) := by decide +kernel
theorem dX9_init_102 : decode cX9_init 102 = .ok (.invokespecial 62, 3) := by decide +kernel
theorem dX9_init_105 : decode cX9_init 105 = .ok (.putfield 63, 3) := by decide +kernel
theorem dX9_init_108 : decode cX9_init 108 = .ok (.aload_n 0, 1) := by decide +kernel
theorem dX9_init_109 : decode cX9_init 109 = .ok (.new 67, 3) := by decide +kernel
theorem dX9_init_112 : decode cX9_init 112 = .ok (.dup, 1) := by decide +kernel
theorem dX9_init_113 : decode cX9_init 113 = .ok (.invokespecial 69, 3) := by decide +kernel
theorem dX9_init_116 : decode cX9_init 116 = .ok (.putfield 70, 3) := by decide +kernel
theorem dX9_init_119 : decode cX9_init 119 = .ok (.return_, 1) := by decide +kernel
theorem dX9_feed_0 : decode cX9_feed 0 = .ok (.aload_n 0, 1) := by decide +kernel
theorem dX9_feed_1 : decode cX9_feed 1 = .ok (.getfield 10, 3) := by decide +kernel
theorem dX9_feed_4 : decode cX9_feed 4 = .ok (.invokevirtual 74, 3) := by decide +kernel
theorem dX9_feed_7 : decode cX9_feed 7 = .ok (.ifCond .ne 5, 3) := by decide +kernel
theorem dX9_feed_10 : decode cX9_feed 10 = .ok (.iconst (-1), 1) := by decide +kernel
theorem dX9_feed_11 : decode cX9_feed 11 = .ok (.ireturn, 1) := by decide +kernel
theorem dX9_feed_12 : decode cX9_feed 12 = .ok (.aload_n 0, 1) := by decide +kernel
theorem dX9_feed_13 : decode cX9_feed 13 = .ok (.getfield 10, 3) := by decide +kernel
theorem dX9_feed_16 : decode cX9_feed 16 = .ok (.iload_n 1, 1) := by decide +kernel
theorem dX9_feed_17 : decode cX9_feed 17 = .ok (.invokevirtual 78, 3) := by decide +kernel
theorem dX9_feed_20 : decode cX9_feed 20 = .ok (.aload_n 0, 1) := by decide +kernel
theorem dX9_feed_21 : decode cX9_feed 21 = .ok (.getfield 10, 3) := by decide +kernel
theorem dX9_feed_24 : decode cX9_feed 24 = .ok (.iload_n 2, 1) := by decide +kernel
theorem dX9_feed_25 : decode cX9_feed 25 = .ok (.invokevirtual 78, 3) := by decide +kernel
theorem dX9_feed_28 : decode cX9_feed 28 = .ok (.aload_n 0, 1) := by decide +kernel
theorem dX9_feed_29 : decode cX9_feed 29 = .ok (.getfield 10, 3) := by decide +kernel
theorem dX9_feed_32 : decode cX9_feed 32 = .ok (.iload_n 3, 1) := by decide +kernel
theorem dX9_feed_33 : decode cX9_feed 33 = .ok (.invokevirtual 78, 3) := by decide +kernel
theorem dX9_feed_36 : decode cX9_feed 36 = .ok (.aload_n 0, 1) := by decide +kernel
theorem dX9_feed_37 : decode cX9_feed 37 = .ok (.getfield 10, 3) := by decide +kernel
theorem dX9_feed_40 : decode cX9_feed 40 = .ok (.iload 4, 2) := by decide +kernel
theorem dX9_feed_42 : decode cX9_feed 42 = .ok (.invokevirtual 78, 3) := by decide +kernel
theorem dX9_feed_45 : decode cX9_feed 45 = .ok (.aload_n 0, 1) := by decide +kernel
theorem dX9_feed_46 : decode cX9_feed 46 = .ok (.getfield 10, 3) := by decide +kernel
theorem dX9_feed_49 : decode cX9_feed 49 = .ok (.iload 5, 2) := by decide +kernel
theorem dX9_feed_51 : decode cX9_feed 51 = .ok (.invokevirtual 78, 3) := by decide +kernel
theorem dX9_feed_54 : decode cX9_feed 54 = .ok (.aload_n 0, 1) := by decide +kernel
theorem dX9_feed_55 : decode cX9_feed 55 = .ok (.getfield 10, 3) := by decide +kernel
theorem dX9_feed_58 : decode cX9_feed 58 = .ok (.invokevirtual 82, 3) := by decide +kernel
theorem dX9_feed_61 : decode cX9_feed 61 = .ok (.ireturn, 1) := by decide +kernel
theorem dX9_end_0 : decode cX9_end 0 = .ok (.aload_n 0, 1) := by decide +kernel
theorem dX9_end_1 : decode cX9_end 1 = .ok (.getfield 10, 3) := by decide +kernel
theorem dX9_end_4 : decode cX9_end 4 = .ok (.iload_n 1, 1) := by decide +kernel
theorem dX9_end_5 : decode cX9_end 5 = .ok (.invokevirtual 86, 3) := by decide +kernel
theorem dX9_end_8 : decode cX9_end 8 = .ok (.ireturn, 1) := by decide +kernel
theorem dX9_form_0 : decode cX9_form 0 = .ok (.iload_n 1, 1) := by decide +kernel
theorem dX9_form_1 : decode cX9_form 1 = .ok (.invokestatic 90, 3) := by decide +kernel
theorem dX9_form_4 : decode cX9_form 4 = .ok (.ifCond .eq 17, 3) := by decide +kernel
theorem dX9_form_7 : decode cX9_form 7 = .ok (.iload_n 2, 1) := by decide +kernel
theorem dX9_form_8 : decode cX9_form 8 = .ok (.invokestatic 90, 3) := by decide +kernel
theorem dX9_form_11 : decode cX9_form 11 = .ok (.ifCond .eq 10, 3) := by decide +kernel
theorem dX9_form_14 : decode cX9_form 14 = .ok (.iload_n 3, 1) := by decide +kernel
theorem dX9_form_15 : decode cX9_form 15 = .ok (.invokestatic 90, 3) := by decide +kernel
theorem dX9_form_18 : decode cX9_form 18 = .ok (.ifCond .ne 6, 3) := by decide +kernel
theorem dX9_form_21 : decode cX9_form 21 = .ok (.bipush (-2), 2) := by decide +kernel
theorem dX9_form_23 : decode cX9_form 23 = .ok (.ireturn, 1) := by decide +kernel
theorem dX9_form_24 : decode cX9_form 24 = .ok (.aload_n 0, 1) := by decide +kernel
theorem dX9_form_25 : decode cX9_form 25 = .ok (.getfield 32, 3) := by decide +kernel
theorem dX9_form_28 : decode cX9_form 28 = .ok (.iload_n 1, 1) := by decide +kernel
theorem dX9_form_29 : decode cX9_form 29 = .ok (.iload_n 2, 1) := by decide +kernel
theorem dX9_form_30 : decode cX9_form 30 = .ok (.iload_n 3, 1) := by decide +kernel
theorem dX9_form_31 : decode cX9_form 31 = .ok (.invokevirtual 93, 3) := by decide +kernel
theorem dX9_form_34 : decode cX9_form 34 = .ok (.aload_n 0, 1) := by decide +kernel
theorem dX9_form_35 : decode cX9_form 35 = .ok (.getfield 21, 3) := by decide +kernel
theorem dX9_form_38 : decode cX9_form 38 = .ok (.aload_n 0, 1) := by decide +kernel
theorem dX9_form_39 : decode cX9_form 39 = .ok (.getfield 32, 3) := by decide +kernel
theorem dX9_form_42 : decode cX9_form 42 = .ok (.invokevirtual 97, 3) := by decide +kernel
theorem dX9_form_45 : decode cX9_form 45 = .ok (.istore 4, 2) := by decide +kernel
theorem dX9_form_47 : decode cX9_form 47 = .ok (.aload_n 0, 1) := by decide +kernel
theorem dX9_form_48 : decode cX9_form 48 = .ok (.getfield 10, 3) := by decide +kernel
theorem dX9_form_51 : decode cX9_form 51 = .ok (.iconst 0, 1) := by decide +kernel
theorem dX9_form_52 : decode cX9_form 52 = .ok (.invokevirtual 86, 3) := by decide +kernel
theorem dX9_form_55 : decode cX9_form 55 = .ok (.pop, 1) := by decide +kernel
theorem dX9_form_56 : decode cX9_form 56 = .ok (.iload 4, 2) := by decide +kernel
theorem dX9_form_58 : decode cX9_form 58 = .ok (.ifCond .ne 5, 3) := by decide +kernel
theorem dX9_form_61 : decode cX9_form 61 = .ok (.iconst (-1), 1) := by decide +kernel
theorem dX9_form_62 : decode cX9_form 62 = .ok (.ireturn, 1) := by decide +kernel
theorem dX9_form_63 : decode cX9_form 63 = .ok (.aload_n 0, 1) := by decide +kernel
theorem dX9_form_64 : decode cX9_form 64 = .ok (.getfield 28, 3) := by decide +kernel
theorem dX9_form_67 : decode cX9_form 67 = .ok (.aload_n 0, 1) := by decide +kernel
theorem dX9_form_68 : decode cX9_form 68 = .ok (.getfield 32, 3) := by decide +kernel
theorem dX9_form_71 : decode cX9_form 71 = .ok (.invokevirtual 101, 3) := by decide +kernel
theorem dX9_form_74 : decode cX9_form 74 = .ok (.aload_n 0, 1) := by decide +kernel
theorem dX9_form_75 : decode cX9_form 75 = .ok (.getfield 40, 3) := by decide +kernel
theorem dX9_form_78 : decode cX9_form 78 = .ok (.invokevirtual 104, 3) := by decide +kernel
theorem dX9_form_81 : decode cX9_form 81 = .ok (.aload_n 0, 1) := by decide +kernel
theorem dX9_form_82 : decode cX9_form 82 = .ok (.getfield 56, 3) := by decide +kernel
theorem dX9_form_85 : decode cX9_form 85 = .ok (.invokevirtual 107, 3) := by decide +kernel
theorem dX9_form_88 : decode cX9_form 88 = .ok (.aload_n 0, 1) := by decide +kernel
theorem dX9_form_89 : decode cX9_form 89 = .ok (.getfield 28, 3) := by decide +kernel
theorem dX9_form_92 : decode cX9_form 92 = .ok (.invokevirtual 110, 3) := by decide +kernel
theorem dX9_form_95 : decode cX9_form 95 = .ok (.ireturn, 1) := by decide +kernel
theorem dX9_fault_0 : decode cX9_fault 0 = .ok (.iload_n 1, 1) := by decide +kernel
theorem dX9_fault_1 : decode cX9_fault 1 = .ok (.lookupswitch 43 #[(0, 27), (1, 35)], 27) := by decide +kernel
theorem dX9_fault_28 : decode cX9_fault 28 = .ok (.aload_n 0, 1) := by decide +kernel
theorem dX9_fault_29 : decode cX9_fault 29 = .ok (.getfield 21, 3) := by decide +kernel
theorem dX9_fault_32 : decode cX9_fault 32 = .ok (.invokevirtual 113, 3) := by decide +kernel
theorem dX9_fault_35 : decode cX9_fault 35 = .ok (.ireturn, 1) := by decide +kernel
theorem dX9_fault_36 : decode cX9_fault 36 = .ok (.aload_n 0, 1) := by decide +kernel
theorem dX9_fault_37 : decode cX9_fault 37 = .ok (.getfield 21, 3) := by decide +kernel
theorem dX9_fault_40 : decode cX9_fault 40 = .ok (.invokevirtual 116, 3) := by decide +kernel
theorem dX9_fault_43 : decode cX9_fault 43 = .ok (.ireturn, 1) := by decide +kernel
theorem dX9_fault_44 : decode cX9_fault 44 = .ok (.iconst (-1), 1) := by decide +kernel
theorem dX9_fault_45 : decode cX9_fault 45 = .ok (.ireturn, 1) := by decide +kernel
theorem dX9_solid_0 : decode cX9_solid 0 = .ok (.aload_n 0, 1) := by decide +kernel
theorem dX9_solid_1 : decode cX9_solid 1 = .ok (.getfield 28, 3) := by decide +kernel
theorem dX9_solid_4 : decode cX9_solid 4 = .ok (.iload_n 1, 1) := by decide +kernel
theorem dX9_solid_5 : decode cX9_solid 5 = .ok (.iload_n 2, 1) := by decide +kernel
theorem dX9_solid_6 : decode cX9_solid 6 = .ok (.iload_n 3, 1) := by decide +kernel
theorem dX9_solid_7 : decode cX9_solid 7 = .ok (.iconst 0, 1) := by decide +kernel
theorem dX9_solid_8 : decode cX9_solid 8 = .ok (.invokevirtual 119, 3) := by decide +kernel
theorem dX9_solid_11 : decode cX9_solid 11 = .ok (.ifCond .ne 5, 3) := by decide +kernel
theorem dX9_solid_14 : decode cX9_solid 14 = .ok (.iconst (-1), 1) := by decide +kernel
theorem dX9_solid_15 : decode cX9_solid 15 = .ok (.ireturn, 1) := by decide +kernel
theorem dX9_solid_16 : decode cX9_solid 16 = .ok (.aload_n 0, 1) := by decide +kernel
theorem dX9_solid_17 : decode cX9_solid 17 = .ok (.getfield 28, 3) := by decide +kernel
theorem dX9_solid_20 : decode cX9_solid 20 = .ok (.iload_n 1, 1) := by decide +kernel
theorem dX9_solid_21 : decode cX9_solid 21 = .ok (.iload_n 2, 1) := by decide +kernel
theorem dX9_solid_22 : decode cX9_solid 22 = .ok (.iload_n 3, 1) := by decide +kernel
theorem dX9_solid_23 : decode cX9_solid 23 = .ok (.invokestatic 123, 3) := by decide +kernel
theorem dX9_solid_26 : decode cX9_solid 26 = .ok (.invokevirtual 127, 3) := by decide +kernel
theorem dX9_solid_29 : decode cX9_solid 29 = .ok (.ifCond .eq 7, 3) := by decide +kernel
theorem dX9_solid_32 : decode cX9_solid 32 = .ok (.iconst 1, 1) := by decide +kernel
theorem dX9_solid_33 : decode cX9_solid 33 = .ok (.goto 4, 3) := by decide +kernel
theorem dX9_solid_36 : decode cX9_solid 36 = .ok (.iconst 0, 1) := by decide +kernel
theorem dX9_solid_37 : decode cX9_solid 37 = .ok (.ireturn, 1) := by decide +kernel
theorem dX9_free_0 : decode cX9_free 0 = .ok (.aload_n 0, 1) := by decide +kernel
theorem dX9_free_1 : decode cX9_free 1 = .ok (.getfield 40, 3) := by decide +kernel
theorem dX9_free_4 : decode cX9_free 4 = .ok (.iload_n 1, 1) := by decide +kernel
theorem dX9_free_5 : decode cX9_free 5 = .ok (.iload_n 2, 1) := by decide +kernel
theorem dX9_free_6 : decode cX9_free 6 = .ok (.iload_n 3, 1) := by decide +kernel
theorem dX9_free_7 : decode cX9_free 7 = .ok (.invokevirtual 130, 3) := by decide +kernel
theorem dX9_free_10 : decode cX9_free 10 = .ok (.istore 4, 2) := by decide +kernel
theorem dX9_free_12 : decode cX9_free 12 = .ok (.iload 4, 2) := by decide +kernel
theorem dX9_free_14 : decode cX9_free 14 = .ok (.iconst (-1), 1) := by decide +kernel
theorem dX9_free_15 : decode cX9_free 15 = .ok (.if_icmp .ne 7, 3) := by decide +kernel
theorem dX9_free_18 : decode cX9_free 18 = .ok (.iconst (-1), 1) := by decide +kernel
theorem dX9_free_19 : decode cX9_free 19 = .ok (.goto 12, 3) := by decide +kernel
theorem dX9_free_22 : decode cX9_free 22 = .ok (.aload_n 0, 1) := by decide +kernel
theorem dX9_free_23 : decode cX9_free 23 = .ok (.getfield 40, 3) := by decide +kernel
theorem dX9_free_26 : decode cX9_free 26 = .ok (.iload 4, 2) := by decide +kernel
theorem dX9_free_28 : decode cX9_free 28 = .ok (.invokevirtual 133, 3) := by decide +kernel
theorem dX9_free_31 : decode cX9_free 31 = .ok (.ireturn, 1) := by decide +kernel
theorem dX9_shut_0 : decode cX9_shut 0 = .ok (.aload_n 0, 1) := by decide +kernel
theorem dX9_shut_1 : decode cX9_shut 1 = .ok (.getfield 28, 3) := by decide +kernel
theorem dX9_shut_4 : decode cX9_shut 4 = .ok (.invokevirtual 137, 3) := by decide +kernel
theorem dX9_shut_7 : decode cX9_shut 7 = .ok (.ifCond .eq 13, 3) := by decide +kernel
theorem dX9_shut_10 : decode cX9_shut 10 = .ok (.aload_n 0, 1) := by decide +kernel
theorem dX9_shut_11 : decode cX9_shut 11 = .ok (.getfield 40, 3) := by decide +kernel
theorem dX9_shut_14 : decode cX9_shut 14 = .ok (.invokevirtual 140, 3) := by decide +kernel
theorem dX9_shut_17 : decode cX9_shut 17 = .ok (.goto 4, 3) := by decide +kernel
theorem dX9_shut_20 : decode cX9_shut 20 = .ok (.iconst (-1), 1) := by decide +kernel
theorem dX9_shut_21 : decode cX9_shut 21 = .ok (.ireturn, 1) := by decide +kernel
theorem dX9_draw_0 : decode cX9_draw 0 = .ok (.aload_n 0, 1) := by decide +kernel
theorem dX9_draw_1 : decode cX9_draw 1 = .ok (.getfield 28, 3) := by decide +kernel
theorem dX9_draw_4 : decode cX9_draw 4 = .ok (.invokevirtual 137, 3) := by decide +kernel
theorem dX9_draw_7 : decode cX9_draw 7 = .ok (.ifCond .ne 5, 3) := by decide +kernel
theorem dX9_draw_10 : decode cX9_draw 10 = .ok (.iconst (-1), 1) := by decide +kernel
theorem dX9_draw_11 : decode cX9_draw 11 = .ok (.ireturn, 1) := by decide +kernel
theorem dX9_draw_12 : decode cX9_draw 12 = .ok (.aload_n 0, 1) := by decide +kernel
theorem dX9_draw_13 : decode cX9_draw 13 = .ok (.getfield 56, 3) := by decide +kernel
theorem dX9_draw_16 : decode cX9_draw 16 = .ok (.invokevirtual 143, 3) := by decide +kernel
theorem dX9_draw_19 : decode cX9_draw 19 = .ok (.ifCond .eq 13, 3) := by decide +kernel
theorem dX9_draw_22 : decode cX9_draw 22 = .ok (.aload_n 0, 1) := by decide +kernel
theorem dX9_draw_23 : decode cX9_draw 23 = .ok (.getfield 47, 3) := by decide +kernel
theorem dX9_draw_26 : decode cX9_draw 26 = .ok (.invokevirtual 146, 3) := by decide +kernel
theorem dX9_draw_29 : decode cX9_draw 29 = .ok (.goto 5, 3) := by decide +kernel
theorem dX9_draw_32 : decode cX9_draw 32 = .ok (.bipush (-2), 2) := by decide +kernel
theorem dX9_draw_34 : decode cX9_draw 34 = .ok (.ireturn, 1) := by decide +kernel
theorem dX9_way_0 : decode cX9_way 0 = .ok (.aload_n 0, 1) := by decide +kernel
theorem dX9_way_1 : decode cX9_way 1 = .ok (.getfield 56, 3) := by decide +kernel
theorem dX9_way_4 : decode cX9_way 4 = .ok (.iload_n 1, 1) := by decide +kernel
theorem dX9_way_5 : decode cX9_way 5 = .ok (.invokevirtual 149, 3) := by decide +kernel
theorem dX9_way_8 : decode cX9_way 8 = .ok (.ireturn, 1) := by decide +kernel
theorem dX9_pieceAt_0 : decode cX9_pieceAt 0 = .ok (.aload_n 0, 1) := by decide +kernel
theorem dX9_pieceAt_1 : decode cX9_pieceAt 1 = .ok (.getfield 40, 3) := by decide +kernel
theorem dX9_pieceAt_4 : decode cX9_pieceAt 4 = .ok (.iload_n 1, 1) := by decide +kernel
theorem dX9_pieceAt_5 : decode cX9_pieceAt 5 = .ok (.iload_n 2, 1) := by decide +kernel
theorem dX9_pieceAt_6 : decode cX9_pieceAt 6 = .ok (.iload_n 3, 1) := by decide +kernel
theorem dX9_pieceAt_7 : decode cX9_pieceAt 7 = .ok (.invokevirtual 130, 3) := by decide +kernel
theorem dX9_pieceAt_10 : decode cX9_pieceAt 10 = .ok (.istore 4, 2) := by decide +kernel
theorem dX9_pieceAt_12 : decode cX9_pieceAt 12 = .ok (.iload 4, 2) := by decide +kernel
theorem dX9_pieceAt_14 : decode cX9_pieceAt 14 = .ok (.iconst (-1), 1) := by decide +kernel
theorem dX9_pieceAt_15 : decode cX9_pieceAt 15 = .ok (.if_icmp .ne 7, 3) := by decide +kernel
theorem dX9_pieceAt_18 : decode cX9_pieceAt 18 = .ok (.iconst (-1), 1) := by decide +kernel
theorem dX9_pieceAt_19 : decode cX9_pieceAt 19 = .ok (.goto 12, 3) := by decide +kernel
theorem dX9_pieceAt_22 : decode cX9_pieceAt 22 = .ok (.aload_n 0, 1) := by decide +kernel
theorem dX9_pieceAt_23 : decode cX9_pieceAt 23 = .ok (.getfield 56, 3) := by decide +kernel
theorem dX9_pieceAt_26 : decode cX9_pieceAt 26 = .ok (.iload 4, 2) := by decide +kernel
theorem dX9_pieceAt_28 : decode cX9_pieceAt 28 = .ok (.invokevirtual 152, 3) := by decide +kernel
theorem dX9_pieceAt_31 : decode cX9_pieceAt 31 = .ok (.ireturn, 1) := by decide +kernel
theorem dX9_piece_0 : decode cX9_piece 0 = .ok (.aload_n 0, 1) := by decide +kernel
theorem dX9_piece_1 : decode cX9_piece 1 = .ok (.getfield 47, 3) := by decide +kernel
theorem dX9_piece_4 : decode cX9_piece 4 = .ok (.iload_n 1, 1) := by decide +kernel
theorem dX9_piece_5 : decode cX9_piece 5 = .ok (.iload_n 2, 1) := by decide +kernel
theorem dX9_piece_6 : decode cX9_piece 6 = .ok (.invokevirtual 155, 3) := by decide +kernel
theorem dX9_piece_9 : decode cX9_piece 9 = .ok (.ireturn, 1) := by decide +kernel
theorem dX9_wear_0 : decode cX9_wear 0 = .ok (.aload_n 0, 1) := by decide +kernel
theorem dX9_wear_1 : decode cX9_wear 1 = .ok (.getfield 47, 3) := by decide +kernel
theorem dX9_wear_4 : decode cX9_wear 4 = .ok (.iload_n 1, 1) := by decide +kernel
theorem dX9_wear_5 : decode cX9_wear 5 = .ok (.iload_n 2, 1) := by decide +kernel
theorem dX9_wear_6 : decode cX9_wear 6 = .ok (.invokevirtual 159, 3) := by decide +kernel
theorem dX9_wear_9 : decode cX9_wear 9 = .ok (.ireturn, 1) := by decide +kernel
theorem dX9_pour_0 : decode cX9_pour 0 = .ok (.aload_n 0, 1) := by decide +kernel
theorem dX9_pour_1 : decode cX9_pour 1 = .ok (.getfield 47, 3) := by decide +kernel
theorem dX9_pour_4 : decode cX9_pour 4 = .ok (.iload_n 1, 1) := by decide +kernel
theorem dX9_pour_5 : decode cX9_pour 5 = .ok (.invokevirtual 163, 3) := by decide +kernel
theorem dX9_pour_8 : decode cX9_pour 8 = .ok (.ifCond .eq 14, 3) := by decide +kernel
theorem dX9_pour_11 : decode cX9_pour 11 = .ok (.aload_n 0, 1) := by decide +kernel
theorem dX9_pour_12 : decode cX9_pour 12 = .ok (.getfield 47, 3) := by decide +kernel
theorem dX9_pour_15 : decode cX9_pour 15 = .ok (.iload_n 1, 1) := by decide +kernel
theorem dX9_pour_16 : decode cX9_pour 16 = .ok (.invokevirtual 166, 3) := by decide +kernel
theorem dX9_pour_19 : decode cX9_pour 19 = .ok (.goto 4, 3) := by decide +kernel
theorem dX9_pour_22 : decode cX9_pour 22 = .ok (.iconst (-1), 1) := by decide +kernel
theorem dX9_pour_23 : decode cX9_pour 23 = .ok (.ireturn, 1) := by decide +kernel
theorem dX9_mend_0 : decode cX9_mend 0 = .ok (.aload_n 0, 1) := by decide +kernel
theorem dX9_mend_1 : decode cX9_mend 1 = .ok (.getfield 47, 3) := by decide +kernel
theorem dX9_mend_4 : decode cX9_mend 4 = .ok (.iload_n 1, 1) := by decide +kernel
theorem dX9_mend_5 : decode cX9_mend 5 = .ok (.invokevirtual 169, 3) := by decide +kernel
theorem dX9_mend_8 : decode cX9_mend 8 = .ok (.ifCond .eq 14, 3) := by decide +kernel
theorem dX9_mend_11 : decode cX9_mend 11 = .ok (.aload_n 0, 1) := by decide +kernel
theorem dX9_mend_12 : decode cX9_mend 12 = .ok (.getfield 47, 3) := by decide +kernel
theorem dX9_mend_15 : decode cX9_mend 15 = .ok (.iload_n 1, 1) := by decide +kernel
theorem dX9_mend_16 : decode cX9_mend 16 = .ok (.invokevirtual 172, 3) := by decide +kernel
theorem dX9_mend_19 : decode cX9_mend 19 = .ok (.goto 4, 3) := by decide +kernel
theorem dX9_mend_22 : decode cX9_mend 22 = .ok (.iconst (-1), 1) := by decide +kernel
theorem dX9_mend_23 : decode cX9_mend 23 = .ok (.ireturn, 1) := by decide +kernel
theorem dX9_run_0 : decode cX9_run 0 = .ok (.aload_n 0, 1) := by decide +kernel
theorem dX9_run_1 : decode cX9_run 1 = .ok (.getfield 47, 3) := by decide +kernel
theorem dX9_run_4 : decode cX9_run 4 = .ok (.iload_n 1, 1) := by decide +kernel
theorem dX9_run_5 : decode cX9_run 5 = .ok (.invokevirtual 163, 3) := by decide +kernel
theorem dX9_run_8 : decode cX9_run 8 = .ok (.ifCond .eq 14, 3) := by decide +kernel
theorem dX9_run_11 : decode cX9_run 11 = .ok (.aload_n 0, 1) := by decide +kernel
theorem dX9_run_12 : decode cX9_run 12 = .ok (.getfield 47, 3) := by decide +kernel
theorem dX9_run_15 : decode cX9_run 15 = .ok (.iload_n 1, 1) := by decide +kernel
theorem dX9_run_16 : decode cX9_run 16 = .ok (.invokevirtual 175, 3) := by decide +kernel
theorem dX9_run_19 : decode cX9_run 19 = .ok (.goto 4, 3) := by decide +kernel
theorem dX9_run_22 : decode cX9_run 22 = .ok (.iconst (-1), 1) := by decide +kernel
theorem dX9_run_23 : decode cX9_run 23 = .ok (.ireturn, 1) := by decide +kernel
theorem dX9_dry_0 : decode cX9_dry 0 = .ok (.aload_n 0, 1) := by decide +kernel
theorem dX9_dry_1 : decode cX9_dry 1 = .ok (.getfield 63, 3) := by decide +kernel
theorem dX9_dry_4 : decode cX9_dry 4 = .ok (.iload_n 1, 1) := by decide +kernel
theorem dX9_dry_5 : decode cX9_dry 5 = .ok (.invokevirtual 178, 3) := by decide +kernel
theorem dX9_dry_8 : decode cX9_dry 8 = .ok (.ireturn, 1) := by decide +kernel
theorem dX9_order_0 : decode cX9_order 0 = .ok (.aload_n 0, 1) := by decide +kernel
theorem dX9_order_1 : decode cX9_order 1 = .ok (.getfield 63, 3) := by decide +kernel
theorem dX9_order_4 : decode cX9_order 4 = .ok (.iload_n 1, 1) := by decide +kernel
theorem dX9_order_5 : decode cX9_order 5 = .ok (.iload_n 2, 1) := by decide +kernel
theorem dX9_order_6 : decode cX9_order 6 = .ok (.iload_n 3, 1) := by decide +kernel
theorem dX9_order_7 : decode cX9_order 7 = .ok (.invokevirtual 181, 3) := by decide +kernel
theorem dX9_order_10 : decode cX9_order 10 = .ok (.ireturn, 1) := by decide +kernel
theorem dX9_cancel_0 : decode cX9_cancel 0 = .ok (.aload_n 0, 1) := by decide +kernel
theorem dX9_cancel_1 : decode cX9_cancel 1 = .ok (.getfield 63, 3) := by decide +kernel
theorem dX9_cancel_4 : decode cX9_cancel 4 = .ok (.iload_n 1, 1) := by decide +kernel
theorem dX9_cancel_5 : decode cX9_cancel 5 = .ok (.invokevirtual 184, 3) := by decide +kernel
theorem dX9_cancel_8 : decode cX9_cancel 8 = .ok (.ireturn, 1) := by decide +kernel
theorem dX9_row_0 : decode cX9_row 0 = .ok (.aload_n 0, 1) := by decide +kernel
theorem dX9_row_1 : decode cX9_row 1 = .ok (.getfield 63, 3) := by decide +kernel
theorem dX9_row_4 : decode cX9_row 4 = .ok (.invokevirtual 187, 3) := by decide +kernel
theorem dX9_row_7 : decode cX9_row 7 = .ok (.ireturn, 1) := by decide +kernel
theorem dX9_next_0 : decode cX9_next 0 = .ok (.aload_n 0, 1) := by decide +kernel
theorem dX9_next_1 : decode cX9_next 1 = .ok (.getfield 63, 3) := by decide +kernel
theorem dX9_next_4 : decode cX9_next 4 = .ok (.iload_n 1, 1) := by decide +kernel
theorem dX9_next_5 : decode cX9_next 5 = .ok (.invokevirtual 190, 3) := by decide +kernel
theorem dX9_next_8 : decode cX9_next 8 = .ok (.ireturn, 1) := by decide +kernel
theorem dX9_late_0 : decode cX9_late 0 = .ok (.aload_n 0, 1) := by decide +kernel
theorem dX9_late_1 : decode cX9_late 1 = .ok (.getfield 63, 3) := by decide +kernel
theorem dX9_late_4 : decode cX9_late 4 = .ok (.iload_n 1, 1) := by decide +kernel
theorem dX9_late_5 : decode cX9_late 5 = .ok (.invokevirtual 193, 3) := by decide +kernel
theorem dX9_late_8 : decode cX9_late 8 = .ok (.ireturn, 1) := by decide +kernel
theorem dX9_cast_0 : decode cX9_cast 0 = .ok (.aload_n 0, 1) := by decide +kernel
theorem dX9_cast_1 : decode cX9_cast 1 = .ok (.getfield 70, 3) := by decide +kernel
theorem dX9_cast_4 : decode cX9_cast 4 = .ok (.iload_n 1, 1) := by decide +kernel
theorem dX9_cast_5 : decode cX9_cast 5 = .ok (.iload_n 2, 1) := by decide +kernel
theorem dX9_cast_6 : decode cX9_cast 6 = .ok (.iload_n 3, 1) := by decide +kernel
theorem dX9_cast_7 : decode cX9_cast 7 = .ok (.invokevirtual 196, 3) := by decide +kernel
theorem dX9_cast_10 : decode cX9_cast 10 = .ok (.ireturn, 1) := by decide +kernel
theorem dX9_copies_0 : decode cX9_copies 0 = .ok (.aload_n 0, 1) := by decide +kernel
theorem dX9_copies_1 : decode cX9_copies 1 = .ok (.getfield 70, 3) := by decide +kernel
theorem dX9_copies_4 : decode cX9_copies 4 = .ok (.iload_n 1, 1) := by decide +kernel
theorem dX9_copies_5 : decode cX9_copies 5 = .ok (.iload_n 2, 1) := by decide +kernel
theorem dX9_copies_6 : decode cX9_copies 6 = .ok (.iload_n 3, 1) := by decide +kernel
theorem dX9_copies_7 : decode cX9_copies 7 = .ok (.invokevirtual 200, 3) := by decide +kernel
theorem dX9_copies_10 : decode cX9_copies 10 = .ok (.ireturn, 1) := by decide +kernel
theorem dX9_mother_0 : decode cX9_mother 0 = .ok (.aload_n 0, 1) := by decide +kernel
theorem dX9_mother_1 : decode cX9_mother 1 = .ok (.getfield 70, 3) := by decide +kernel
theorem dX9_mother_4 : decode cX9_mother 4 = .ok (.iload_n 1, 1) := by decide +kernel
theorem dX9_mother_5 : decode cX9_mother 5 = .ok (.invokevirtual 203, 3) := by decide +kernel
theorem dX9_mother_8 : decode cX9_mother 8 = .ok (.ifCond .ne 5, 3) := by decide +kernel
theorem dX9_mother_11 : decode cX9_mother 11 = .ok (.iconst (-1), 1) := by decide +kernel
theorem dX9_mother_12 : decode cX9_mother 12 = .ok (.ireturn, 1) := by decide +kernel
theorem dX9_mother_13 : decode cX9_mother 13 = .ok (.aload_n 0, 1) := by decide +kernel
theorem dX9_mother_14 : decode cX9_mother 14 = .ok (.getfield 70, 3) := by decide +kernel
theorem dX9_mother_17 : decode cX9_mother 17 = .ok (.iload_n 1, 1) := by decide +kernel
theorem dX9_mother_18 : decode cX9_mother 18 = .ok (.invokevirtual 204, 3) := by decide +kernel
theorem dX9_mother_21 : decode cX9_mother 21 = .ok (.istore_n 2, 1) := by decide +kernel
theorem dX9_mother_22 : decode cX9_mother 22 = .ok (.iload_n 2, 1) := by decide +kernel
theorem dX9_mother_23 : decode cX9_mother 23 = .ok (.iconst (-1), 1) := by decide +kernel
theorem dX9_mother_24 : decode cX9_mother 24 = .ok (.if_icmp .ne 8, 3) := by decide +kernel
theorem dX9_mother_27 : decode cX9_mother 27 = .ok (.bipush (-2), 2) := by decide +kernel
theorem dX9_mother_29 : decode cX9_mother 29 = .ok (.goto 4, 3) := by decide +kernel
theorem dX9_mother_32 : decode cX9_mother 32 = .ok (.iload_n 2, 1) := by decide +kernel
theorem dX9_mother_33 : decode cX9_mother 33 = .ok (.ireturn, 1) := by decide +kernel
theorem dX9_steps_0 : decode cX9_steps 0 = .ok (.aload_n 0, 1) := by decide +kernel
theorem dX9_steps_1 : decode cX9_steps 1 = .ok (.getfield 70, 3) := by decide +kernel
theorem dX9_steps_4 : decode cX9_steps 4 = .ok (.iload_n 1, 1) := by decide +kernel
theorem dX9_steps_5 : decode cX9_steps 5 = .ok (.invokevirtual 203, 3) := by decide +kernel
theorem dX9_steps_8 : decode cX9_steps 8 = .ok (.ifCond .eq 14, 3) := by decide +kernel
theorem dX9_steps_11 : decode cX9_steps 11 = .ok (.aload_n 0, 1) := by decide +kernel
theorem dX9_steps_12 : decode cX9_steps 12 = .ok (.getfield 70, 3) := by decide +kernel
theorem dX9_steps_15 : decode cX9_steps 15 = .ok (.iload_n 1, 1) := by decide +kernel
theorem dX9_steps_16 : decode cX9_steps 16 = .ok (.invokevirtual 207, 3) := by decide +kernel
theorem dX9_steps_19 : decode cX9_steps 19 = .ok (.goto 4, 3) := by decide +kernel
theorem dX9_steps_22 : decode cX9_steps 22 = .ok (.iconst (-1), 1) := by decide +kernel
theorem dX9_steps_23 : decode cX9_steps 23 = .ok (.ireturn, 1) := by decide +kernel
theorem dX9_told_0 : decode cX9_told 0 = .ok (.iload_n 1, 1) := by decide +kernel
theorem dX9_told_1 : decode cX9_told 1 = .ok (.lookupswitch 43 #[(0, 27), (1, 35)], 27) := by decide +kernel
theorem dX9_told_28 : decode cX9_told 28 = .ok (.aload_n 0, 1) := by decide +kernel
theorem dX9_told_29 : decode cX9_told 29 = .ok (.getfield 70, 3) := by decide +kernel
theorem dX9_told_32 : decode cX9_told 32 = .ok (.invokevirtual 210, 3) := by decide +kernel
theorem dX9_told_35 : decode cX9_told 35 = .ok (.ireturn, 1) := by decide +kernel
theorem dX9_told_36 : decode cX9_told 36 = .ok (.aload_n 0, 1) := by decide +kernel
theorem dX9_told_37 : decode cX9_told 37 = .ok (.getfield 70, 3) := by decide +kernel
theorem dX9_told_40 : decode cX9_told 40 = .ok (.invokevirtual 213, 3) := by decide +kernel
theorem dX9_told_43 : decode cX9_told 43 = .ok (.ireturn, 1) := by decide +kernel
theorem dX9_told_44 : decode cX9_told 44 = .ok (.iconst (-1), 1) := by decide +kernel
theorem dX9_told_45 : decode cX9_told 45 = .ok (.ireturn, 1) := by decide +kernel
theorem dJ6_bitCount_0f7a4_0 : decode cJ6_bitCount_0f7a4 0 = .ok (.iload_n 0, 1) := by decide +kernel
theorem dJ6_bitCount_0f7a4_1 : decode cJ6_bitCount_0f7a4 1 = .ok (.iload_n 0, 1) := by decide +kernel
theorem dJ6_bitCount_0f7a4_2 : decode cJ6_bitCount_0f7a4 2 = .ok (.iconst 1, 1) := by decide +kernel
theorem dJ6_bitCount_0f7a4_3 : decode cJ6_bitCount_0f7a4 3 = .ok (.iushr, 1) := by decide +kernel
theorem dJ6_bitCount_0f7a4_4 : decode cJ6_bitCount_0f7a4 4 = .ok (.ldc_w 265, 3) := by decide +kernel
theorem dJ6_bitCount_0f7a4_7 : decode cJ6_bitCount_0f7a4 7 = .ok (.iand, 1) := by decide +kernel
theorem dJ6_bitCount_0f7a4_8 : decode cJ6_bitCount_0f7a4 8 = .ok (.isub, 1) := by decide +kernel
theorem dJ6_bitCount_0f7a4_9 : decode cJ6_bitCount_0f7a4 9 = .ok (.istore_n 0, 1) := by decide +kernel
theorem dJ6_bitCount_0f7a4_10 : decode cJ6_bitCount_0f7a4 10 = .ok (.iload_n 0, 1) := by decide +kernel
theorem dJ6_bitCount_0f7a4_11 : decode cJ6_bitCount_0f7a4 11 = .ok (.ldc_w 266, 3) := by decide +kernel
theorem dJ6_bitCount_0f7a4_14 : decode cJ6_bitCount_0f7a4 14 = .ok (.iand, 1) := by decide +kernel
theorem dJ6_bitCount_0f7a4_15 : decode cJ6_bitCount_0f7a4 15 = .ok (.iload_n 0, 1) := by decide +kernel
theorem dJ6_bitCount_0f7a4_16 : decode cJ6_bitCount_0f7a4 16 = .ok (.iconst 2, 1) := by decide +kernel
theorem dJ6_bitCount_0f7a4_17 : decode cJ6_bitCount_0f7a4 17 = .ok (.iushr, 1) := by decide +kernel
theorem dJ6_bitCount_0f7a4_18 : decode cJ6_bitCount_0f7a4 18 = .ok (.ldc_w 266, 3) := by decide +kernel
theorem dJ6_bitCount_0f7a4_21 : decode cJ6_bitCount_0f7a4 21 = .ok (.iand, 1) := by decide +kernel
theorem dJ6_bitCount_0f7a4_22 : decode cJ6_bitCount_0f7a4 22 = .ok (.iadd, 1) := by decide +kernel
theorem dJ6_bitCount_0f7a4_23 : decode cJ6_bitCount_0f7a4 23 = .ok (.istore_n 0, 1) := by decide +kernel
theorem dJ6_bitCount_0f7a4_24 : decode cJ6_bitCount_0f7a4 24 = .ok (.iload_n 0, 1) := by decide +kernel
theorem dJ6_bitCount_0f7a4_25 : decode cJ6_bitCount_0f7a4 25 = .ok (.iload_n 0, 1) := by decide +kernel
theorem dJ6_bitCount_0f7a4_26 : decode cJ6_bitCount_0f7a4 26 = .ok (.iconst 4, 1) := by decide +kernel
theorem dJ6_bitCount_0f7a4_27 : decode cJ6_bitCount_0f7a4 27 = .ok (.iushr, 1) := by decide +kernel
theorem dJ6_bitCount_0f7a4_28 : decode cJ6_bitCount_0f7a4 28 = .ok (.iadd, 1) := by decide +kernel
theorem dJ6_bitCount_0f7a4_29 : decode cJ6_bitCount_0f7a4 29 = .ok (.ldc_w 267, 3) := by decide +kernel
theorem dJ6_bitCount_0f7a4_32 : decode cJ6_bitCount_0f7a4 32 = .ok (.iand, 1) := by decide +kernel
theorem dJ6_bitCount_0f7a4_33 : decode cJ6_bitCount_0f7a4 33 = .ok (.istore_n 0, 1) := by decide +kernel
theorem dJ6_bitCount_0f7a4_34 : decode cJ6_bitCount_0f7a4 34 = .ok (.iload_n 0, 1) := by decide +kernel
theorem dJ6_bitCount_0f7a4_35 : decode cJ6_bitCount_0f7a4 35 = .ok (.iload_n 0, 1) := by decide +kernel
theorem dJ6_bitCount_0f7a4_36 : decode cJ6_bitCount_0f7a4 36 = .ok (.bipush 8, 2) := by decide +kernel
theorem dJ6_bitCount_0f7a4_38 : decode cJ6_bitCount_0f7a4 38 = .ok (.iushr, 1) := by decide +kernel
theorem dJ6_bitCount_0f7a4_39 : decode cJ6_bitCount_0f7a4 39 = .ok (.iadd, 1) := by decide +kernel
theorem dJ6_bitCount_0f7a4_40 : decode cJ6_bitCount_0f7a4 40 = .ok (.istore_n 0, 1) := by decide +kernel
theorem dJ6_bitCount_0f7a4_41 : decode cJ6_bitCount_0f7a4 41 = .ok (.iload_n 0, 1) := by decide +kernel
theorem dJ6_bitCount_0f7a4_42 : decode cJ6_bitCount_0f7a4 42 = .ok (.iload_n 0, 1) := by decide +kernel
theorem dJ6_bitCount_0f7a4_43 : decode cJ6_bitCount_0f7a4 43 = .ok (.bipush 16, 2) := by decide +kernel
theorem dJ6_bitCount_0f7a4_45 : decode cJ6_bitCount_0f7a4 45 = .ok (.iushr, 1) := by decide +kernel
theorem dJ6_bitCount_0f7a4_46 : decode cJ6_bitCount_0f7a4 46 = .ok (.iadd, 1) := by decide +kernel
theorem dJ6_bitCount_0f7a4_47 : decode cJ6_bitCount_0f7a4 47 = .ok (.istore_n 0, 1) := by decide +kernel
theorem dJ6_bitCount_0f7a4_48 : decode cJ6_bitCount_0f7a4 48 = .ok (.iload_n 0, 1) := by decide +kernel
theorem dJ6_bitCount_0f7a4_49 : decode cJ6_bitCount_0f7a4 49 = .ok (.bipush 63, 2) := by decide +kernel
theorem dJ6_bitCount_0f7a4_51 : decode cJ6_bitCount_0f7a4 51 = .ok (.iand, 1) := by decide +kernel
theorem dJ6_bitCount_0f7a4_52 : decode cJ6_bitCount_0f7a4 52 = .ok (.ireturn, 1) := by decide +kernel
theorem dJ9_abs_0f7a4_0 : decode cJ9_abs_0f7a4 0 = .ok (.iload_n 0, 1) := by decide +kernel
theorem dJ9_abs_0f7a4_1 : decode cJ9_abs_0f7a4 1 = .ok (.ifCond .ge 8, 3) := by decide +kernel
theorem dJ9_abs_0f7a4_4 : decode cJ9_abs_0f7a4 4 = .ok (.iload_n 0, 1) := by decide +kernel
theorem dJ9_abs_0f7a4_5 : decode cJ9_abs_0f7a4 5 = .ok (.ineg, 1) := by decide +kernel
theorem dJ9_abs_0f7a4_6 : decode cJ9_abs_0f7a4 6 = .ok (.goto 4, 3) := by decide +kernel
theorem dJ9_abs_0f7a4_9 : decode cJ9_abs_0f7a4 9 = .ok (.iload_n 0, 1) := by decide +kernel
theorem dJ9_abs_0f7a4_10 : decode cJ9_abs_0f7a4 10 = .ok (.ireturn, 1) := by decide +kernel
theorem dJ9_max_7cf53_0 : decode cJ9_max_7cf53 0 = .ok (.iload_n 0, 1) := by decide +kernel
theorem dJ9_max_7cf53_1 : decode cJ9_max_7cf53 1 = .ok (.iload_n 1, 1) := by decide +kernel
theorem dJ9_max_7cf53_2 : decode cJ9_max_7cf53 2 = .ok (.if_icmp .lt 7, 3) := by decide +kernel
theorem dJ9_max_7cf53_5 : decode cJ9_max_7cf53 5 = .ok (.iload_n 0, 1) := by decide +kernel
theorem dJ9_max_7cf53_6 : decode cJ9_max_7cf53 6 = .ok (.goto 4, 3) := by decide +kernel
theorem dJ9_max_7cf53_9 : decode cJ9_max_7cf53 9 = .ok (.iload_n 1, 1) := by decide +kernel
theorem dJ9_max_7cf53_10 : decode cJ9_max_7cf53 10 = .ok (.ireturn, 1) := by decide +kernel
theorem dJ9_min_7cf53_0 : decode cJ9_min_7cf53 0 = .ok (.iload_n 0, 1) := by decide +kernel
theorem dJ9_min_7cf53_1 : decode cJ9_min_7cf53 1 = .ok (.iload_n 1, 1) := by decide +kernel
theorem dJ9_min_7cf53_2 : decode cJ9_min_7cf53 2 = .ok (.if_icmp .gt 7, 3) := by decide +kernel
theorem dJ9_min_7cf53_5 : decode cJ9_min_7cf53 5 = .ok (.iload_n 0, 1) := by decide +kernel
theorem dJ9_min_7cf53_6 : decode cJ9_min_7cf53 6 = .ok (.goto 4, 3) := by decide +kernel
theorem dJ9_min_7cf53_9 : decode cJ9_min_7cf53 9 = .ok (.iload_n 1, 1) := by decide +kernel
theorem dJ9_min_7cf53_10 : decode cJ9_min_7cf53 10 = .ok (.ireturn, 1) := by decide +kernel
theorem dJ0_length_8abf5_0 : decode cJ0_length_8abf5 0 = .ok (.aload_n 0, 1) := by decide +kernel
theorem dJ0_length_8abf5_1 : decode cJ0_length_8abf5 1 = .ok (.getfield 9, 3) := by decide +kernel
theorem dJ0_length_8abf5_4 : decode cJ0_length_8abf5 4 = .ok (.arraylength, 1) := by decide +kernel
theorem dJ0_length_8abf5_5 : decode cJ0_length_8abf5 5 = .ok (.aload_n 0, 1) := by decide +kernel
theorem dJ0_length_8abf5_6 : decode cJ0_length_8abf5 6 = .ok (.invokevirtual 335, 3) := by decide +kernel
theorem dJ0_length_8abf5_9 : decode cJ0_length_8abf5 9 = .ok (.ishr, 1) := by decide +kernel
theorem dJ0_length_8abf5_10 : decode cJ0_length_8abf5 10 = .ok (.ireturn, 1) := by decide +kernel
theorem dJ0_charAt_5068e_0 : decode cJ0_charAt_5068e 0 = .ok (.aload_n 0, 1) := by decide +kernel
theorem dJ0_charAt_5068e_1 : decode cJ0_charAt_5068e 1 = .ok (.invokevirtual 492, 3) := by decide +kernel
theorem dJ0_charAt_5068e_4 : decode cJ0_charAt_5068e 4 = .ok (.ifCond .eq 12, 3) := by decide +kernel
theorem dJ0_charAt_5068e_7 : decode cJ0_charAt_5068e 7 = .ok (.aload_n 0, 1) := by decide +kernel
theorem dJ0_charAt_5068e_8 : decode cJ0_charAt_5068e 8 = .ok (.getfield 9, 3) := by decide +kernel
theorem dJ0_charAt_5068e_11 : decode cJ0_charAt_5068e 11 = .ok (.iload_n 1, 1) := by decide +kernel
theorem dJ0_charAt_5068e_12 : decode cJ0_charAt_5068e 12 = .ok (.invokestatic 495, 3) := by decide +kernel
theorem dJ0_charAt_5068e_15 : decode cJ0_charAt_5068e 15 = .ok (.ireturn, 1) := by decide +kernel
theorem dJ0_charAt_5068e_16 : decode cJ0_charAt_5068e 16 = .ok (.aload_n 0, 1) := by decide +kernel
theorem dJ0_charAt_5068e_17 : decode cJ0_charAt_5068e 17 = .ok (.getfield 9, 3) := by decide +kernel
theorem dJ0_charAt_5068e_20 : decode cJ0_charAt_5068e 20 = .ok (.iload_n 1, 1) := by decide +kernel
theorem dJ0_charAt_5068e_21 : decode cJ0_charAt_5068e 21 = .ok (.invokestatic 498, 3) := by decide +kernel
theorem dJ0_charAt_5068e_24 : decode cJ0_charAt_5068e 24 = .ok (.ireturn, 1) := by decide +kernel
theorem dJ0_coder_7d493_0 : decode cJ0_coder_7d493 0 = .ok (.getstatic 38, 3) := by decide +kernel
theorem dJ0_coder_7d493_3 : decode cJ0_coder_7d493 3 = .ok (.ifCond .eq 10, 3) := by decide +kernel
theorem dJ0_coder_7d493_6 : decode cJ0_coder_7d493 6 = .ok (.aload_n 0, 1) := by decide +kernel
theorem dJ0_coder_7d493_7 : decode cJ0_coder_7d493 7 = .ok (.getfield 15, 3) := by decide +kernel
theorem dJ0_coder_7d493_10 : decode cJ0_coder_7d493 10 = .ok (.goto 4, 3) := by decide +kernel
theorem dJ0_coder_7d493_13 : decode cJ0_coder_7d493 13 = .ok (.iconst 1, 1) := by decide +kernel
theorem dJ0_coder_7d493_14 : decode cJ0_coder_7d493 14 = .ok (.ireturn, 1) := by decide +kernel
theorem dJ0_isLatin1_aae02_0 : decode cJ0_isLatin1_aae02 0 = .ok (.getstatic 38, 3) := by decide +kernel
theorem dJ0_isLatin1_aae02_3 : decode cJ0_isLatin1_aae02 3 = .ok (.ifCond .eq 14, 3) := by decide +kernel
theorem dJ0_isLatin1_aae02_6 : decode cJ0_isLatin1_aae02 6 = .ok (.aload_n 0, 1) := by decide +kernel
theorem dJ0_isLatin1_aae02_7 : decode cJ0_isLatin1_aae02 7 = .ok (.getfield 15, 3) := by decide +kernel
theorem dJ0_isLatin1_aae02_10 : decode cJ0_isLatin1_aae02 10 = .ok (.ifCond .ne 7, 3) := by decide +kernel
theorem dJ0_isLatin1_aae02_13 : decode cJ0_isLatin1_aae02 13 = .ok (.iconst 1, 1) := by decide +kernel
theorem dJ0_isLatin1_aae02_14 : decode cJ0_isLatin1_aae02 14 = .ok (.goto 4, 3) := by decide +kernel
theorem dJ0_isLatin1_aae02_17 : decode cJ0_isLatin1_aae02 17 = .ok (.iconst 0, 1) := by decide +kernel
theorem dJ0_isLatin1_aae02_18 : decode cJ0_isLatin1_aae02 18 = .ok (.ireturn, 1) := by decide +kernel
theorem dJ0_checkIndex_df160_0 : decode cJ0_checkIndex_df160 0 = .ok (.iload_n 0, 1) := by decide +kernel
theorem dJ0_checkIndex_df160_1 : decode cJ0_checkIndex_df160 1 = .ok (.iload_n 1, 1) := by decide +kernel
theorem dJ0_checkIndex_df160_2 : decode cJ0_checkIndex_df160 2 = .ok (.getstatic 1053, 3) := by decide +kernel
theorem dJ0_checkIndex_df160_5 : decode cJ0_checkIndex_df160 5 = .ok (.invokestatic 1059, 3) := by decide +kernel
theorem dJ0_checkIndex_df160_8 : decode cJ0_checkIndex_df160 8 = .ok (.pop, 1) := by decide +kernel
theorem dJ0_checkIndex_df160_9 : decode cJ0_checkIndex_df160 9 = .ok (.return_, 1) := by decide +kernel
theorem dJ1_charAt_3b067_0 : decode cJ1_charAt_3b067 0 = .ok (.iload_n 1, 1) := by decide +kernel
theorem dJ1_charAt_3b067_1 : decode cJ1_charAt_3b067 1 = .ok (.aload_n 0, 1) := by decide +kernel
theorem dJ1_charAt_3b067_2 : decode cJ1_charAt_3b067 2 = .ok (.arraylength, 1) := by decide +kernel
theorem dJ1_charAt_3b067_3 : decode cJ1_charAt_3b067 3 = .ok (.invokestatic 9, 3) := by decide +kernel
theorem dJ1_charAt_3b067_6 : decode cJ1_charAt_3b067 6 = .ok (.aload_n 0, 1) := by decide +kernel
theorem dJ1_charAt_3b067_7 : decode cJ1_charAt_3b067 7 = .ok (.iload_n 1, 1) := by decide +kernel
theorem dJ1_charAt_3b067_8 : decode cJ1_charAt_3b067 8 = .ok (.baload, 1) := by decide +kernel
theorem dJ1_charAt_3b067_9 : decode cJ1_charAt_3b067 9 = .ok (.sipush 255, 3) := by decide +kernel
theorem dJ1_charAt_3b067_12 : decode cJ1_charAt_3b067 12 = .ok (.iand, 1) := by decide +kernel
theorem dJ1_charAt_3b067_13 : decode cJ1_charAt_3b067 13 = .ok (.i2c, 1) := by decide +kernel
theorem dJ1_charAt_3b067_14 : decode cJ1_charAt_3b067 14 = .ok (.ireturn, 1) := by decide +kernel
theorem dJ2_getChar_3b067_0 : decode cJ2_getChar_3b067 0 = .ok (.getstatic 44, 3) := by decide +kernel
theorem dJ2_getChar_3b067_3 : decode cJ2_getChar_3b067 3 = .ok (.ifCond .ne 25, 3) := by decide +kernel
theorem dJ2_getChar_3b067_6 : decode cJ2_getChar_3b067 6 = .ok (.iload_n 1, 1) := by decide +kernel
theorem dJ2_getChar_3b067_7 : decode cJ2_getChar_3b067 7 = .ok (.ifCond .lt 11, 3) := by decide +kernel
theorem dJ2_getChar_3b067_10 : decode cJ2_getChar_3b067 10 = .ok (.iload_n 1, 1) := by decide +kernel
theorem dJ2_getChar_3b067_11 : decode cJ2_getChar_3b067 11 = .ok (.aload_n 0, 1) := by decide +kernel
theorem dJ2_getChar_3b067_12 : decode cJ2_getChar_3b067 12 = .ok (.invokestatic 48, 3) := by decide +kernel
theorem dJ2_getChar_3b067_15 : decode cJ2_getChar_3b067 15 = .ok (.if_icmp .lt 13, 3) := by decide +kernel
theorem dJ2_getChar_3b067_18 : decode cJ2_getChar_3b067 18 = .ok (.new 52, 3) := by decide +kernel
theorem dJ2_getChar_3b067_21 : decode cJ2_getChar_3b067 21 = .ok (.dup, 1) := by decide +kernel
theorem dJ2_getChar_3b067_22 : decode cJ2_getChar_3b067 22 = .ok (.ldc 54, 2) := by decide +kernel
theorem dJ2_getChar_3b067_24 : decode cJ2_getChar_3b067 24 = .ok (.invokespecial 56, 3) := by decide +kernel
theorem dJ2_getChar_3b067_27 : decode cJ2_getChar_3b067 27 = .ok (.athrow, 1) := by decide +kernel
theorem dJ2_getChar_3b067_28 : decode cJ2_getChar_3b067 28 = .ok (.iload_n 1, 1) := by decide +kernel
theorem dJ2_getChar_3b067_29 : decode cJ2_getChar_3b067 29 = .ok (.iconst 1, 1) := by decide +kernel
theorem dJ2_getChar_3b067_30 : decode cJ2_getChar_3b067 30 = .ok (.ishl, 1) := by decide +kernel
theorem dJ2_getChar_3b067_31 : decode cJ2_getChar_3b067 31 = .ok (.istore_n 1, 1) := by decide +kernel
theorem dJ2_getChar_3b067_32 : decode cJ2_getChar_3b067 32 = .ok (.aload_n 0, 1) := by decide +kernel
theorem dJ2_getChar_3b067_33 : decode cJ2_getChar_3b067 33 = .ok (.iload_n 1, 1) := by decide +kernel
theorem dJ2_getChar_3b067_34 : decode cJ2_getChar_3b067 34 = .ok (.iinc 1 1, 3) := by decide +kernel
theorem dJ2_getChar_3b067_37 : decode cJ2_getChar_3b067 37 = .ok (.baload, 1) := by decide +kernel
theorem dJ2_getChar_3b067_38 : decode cJ2_getChar_3b067 38 = .ok (.sipush 255, 3) := by decide +kernel
theorem dJ2_getChar_3b067_41 : decode cJ2_getChar_3b067 41 = .ok (.iand, 1) := by decide +kernel
theorem dJ2_getChar_3b067_42 : decode cJ2_getChar_3b067 42 = .ok (.getstatic 59, 3) := by decide +kernel
theorem dJ2_getChar_3b067_45 : decode cJ2_getChar_3b067 45 = .ok (.ishl, 1) := by decide +kernel
theorem dJ2_getChar_3b067_46 : decode cJ2_getChar_3b067 46 = .ok (.aload_n 0, 1) := by decide +kernel
theorem dJ2_getChar_3b067_47 : decode cJ2_getChar_3b067 47 = .ok (.iload_n 1, 1) := by decide +kernel
theorem dJ2_getChar_3b067_48 : decode cJ2_getChar_3b067 48 = .ok (.baload, 1) := by decide +kernel
theorem dJ2_getChar_3b067_49 : decode cJ2_getChar_3b067 49 = .ok (.sipush 255, 3) := by decide +kernel
theorem dJ2_getChar_3b067_52 : decode cJ2_getChar_3b067 52 = .ok (.iand, 1) := by decide +kernel
theorem dJ2_getChar_3b067_53 : decode cJ2_getChar_3b067 53 = .ok (.getstatic 63, 3) := by decide +kernel
theorem dJ2_getChar_3b067_56 : decode cJ2_getChar_3b067 56 = .ok (.ishl, 1) := by decide +kernel
theorem dJ2_getChar_3b067_57 : decode cJ2_getChar_3b067 57 = .ok (.ior, 1) := by decide +kernel
theorem dJ2_getChar_3b067_58 : decode cJ2_getChar_3b067 58 = .ok (.i2c, 1) := by decide +kernel
theorem dJ2_getChar_3b067_59 : decode cJ2_getChar_3b067 59 = .ok (.ireturn, 1) := by decide +kernel
theorem dJ2_length_9d52b_0 : decode cJ2_length_9d52b 0 = .ok (.aload_n 0, 1) := by decide +kernel
theorem dJ2_length_9d52b_1 : decode cJ2_length_9d52b 1 = .ok (.arraylength, 1) := by decide +kernel
theorem dJ2_length_9d52b_2 : decode cJ2_length_9d52b 2 = .ok (.iconst 1, 1) := by decide +kernel
theorem dJ2_length_9d52b_3 : decode cJ2_length_9d52b 3 = .ok (.ishr, 1) := by decide +kernel
theorem dJ2_length_9d52b_4 : decode cJ2_length_9d52b 4 = .ok (.ireturn, 1) := by decide +kernel
theorem dJ2_charAt_3b067_0 : decode cJ2_charAt_3b067 0 = .ok (.iload_n 1, 1) := by decide +kernel
theorem dJ2_charAt_3b067_1 : decode cJ2_charAt_3b067 1 = .ok (.aload_n 0, 1) := by decide +kernel
theorem dJ2_charAt_3b067_2 : decode cJ2_charAt_3b067 2 = .ok (.invokestatic 67, 3) := by decide +kernel
theorem dJ2_charAt_3b067_5 : decode cJ2_charAt_3b067 5 = .ok (.aload_n 0, 1) := by decide +kernel
theorem dJ2_charAt_3b067_6 : decode cJ2_charAt_3b067 6 = .ok (.iload_n 1, 1) := by decide +kernel
theorem dJ2_charAt_3b067_7 : decode cJ2_charAt_3b067 7 = .ok (.invokestatic 71, 3) := by decide +kernel
theorem dJ2_charAt_3b067_10 : decode cJ2_charAt_3b067 10 = .ok (.ireturn, 1) := by decide +kernel
theorem dJ2_checkIndex_2214a_0 : decode cJ2_checkIndex_2214a 0 = .ok (.iload_n 0, 1) := by decide +kernel
theorem dJ2_checkIndex_2214a_1 : decode cJ2_checkIndex_2214a 1 = .ok (.aload_n 1, 1) := by decide +kernel
theorem dJ2_checkIndex_2214a_2 : decode cJ2_checkIndex_2214a 2 = .ok (.invokestatic 48, 3) := by decide +kernel
theorem dJ2_checkIndex_2214a_5 : decode cJ2_checkIndex_2214a 5 = .ok (.invokestatic 414, 3) := by decide +kernel
theorem dJ2_checkIndex_2214a_8 : decode cJ2_checkIndex_2214a 8 = .ok (.return_, 1) := by decide +kernel
theorem dJ7_fill_53178_0 : decode cJ7_fill_53178 0 = .ok (.iconst 0, 1) := by decide +kernel
theorem dJ7_fill_53178_1 : decode cJ7_fill_53178 1 = .ok (.istore_n 2, 1) := by decide +kernel
theorem dJ7_fill_53178_2 : decode cJ7_fill_53178 2 = .ok (.aload_n 0, 1) := by decide +kernel
theorem dJ7_fill_53178_3 : decode cJ7_fill_53178 3 = .ok (.arraylength, 1) := by decide +kernel
theorem dJ7_fill_53178_4 : decode cJ7_fill_53178 4 = .ok (.istore_n 3, 1) := by decide +kernel
theorem dJ7_fill_53178_5 : decode cJ7_fill_53178 5 = .ok (.iload_n 2, 1) := by decide +kernel
theorem dJ7_fill_53178_6 : decode cJ7_fill_53178 6 = .ok (.iload_n 3, 1) := by decide +kernel
theorem dJ7_fill_53178_7 : decode cJ7_fill_53178 7 = .ok (.if_icmp .ge 13, 3) := by decide +kernel
theorem dJ7_fill_53178_10 : decode cJ7_fill_53178 10 = .ok (.aload_n 0, 1) := by decide +kernel
theorem dJ7_fill_53178_11 : decode cJ7_fill_53178 11 = .ok (.iload_n 2, 1) := by decide +kernel
theorem dJ7_fill_53178_12 : decode cJ7_fill_53178 12 = .ok (.iload_n 1, 1) := by decide +kernel
theorem dJ7_fill_53178_13 : decode cJ7_fill_53178 13 = .ok (.iastore, 1) := by decide +kernel
theorem dJ7_fill_53178_14 : decode cJ7_fill_53178 14 = .ok (.iinc 2 1, 3) := by decide +kernel
theorem dJ7_fill_53178_17 : decode cJ7_fill_53178 17 = .ok (.goto (-12), 3) := by decide +kernel
theorem dJ7_fill_53178_20 : decode cJ7_fill_53178 20 = .ok (.return_, 1) := by decide +kernel
theorem dJ3_checkIndex_8e157_0 : decode cJ3_checkIndex_8e157 0 = .ok (.iload_n 0, 1) := by decide +kernel
theorem dJ3_checkIndex_8e157_1 : decode cJ3_checkIndex_8e157 1 = .ok (.ifCond .lt 8, 3) := by decide +kernel
theorem dJ3_checkIndex_8e157_4 : decode cJ3_checkIndex_8e157 4 = .ok (.iload_n 0, 1) := by decide +kernel
theorem dJ3_checkIndex_8e157_5 : decode cJ3_checkIndex_8e157 5 = .ok (.iload_n 1, 1) := by decide +kernel
theorem dJ3_checkIndex_8e157_6 : decode cJ3_checkIndex_8e157 6 = .ok (.if_icmp .lt 10, 3) := by decide +kernel
theorem dJ3_checkIndex_8e157_9 : decode cJ3_checkIndex_8e157 9 = .ok (.aload_n 2, 1) := by decide +kernel
theorem dJ3_checkIndex_8e157_10 : decode cJ3_checkIndex_8e157 10 = .ok (.iload_n 0, 1) := by decide +kernel
theorem dJ3_checkIndex_8e157_11 : decode cJ3_checkIndex_8e157 11 = .ok (.iload_n 1, 1) := by decide +kernel
theorem dJ3_checkIndex_8e157_12 : decode cJ3_checkIndex_8e157 12 = .ok (.invokestatic 95, 3) := by decide +kernel
theorem dJ3_checkIndex_8e157_15 : decode cJ3_checkIndex_8e157 15 = .ok (.athrow, 1) := by decide +kernel
theorem dJ3_checkIndex_8e157_16 : decode cJ3_checkIndex_8e157 16 = .ok (.iload_n 0, 1) := by decide +kernel
theorem dJ3_checkIndex_8e157_17 : decode cJ3_checkIndex_8e157 17 = .ok (.ireturn, 1) := by decide +kernel
end
section
theorem dX10_init_0 : decode cX10_init 0 = .ok (.aload_n 0, 1) := by decide +kernel
theorem dX10_init_1 : decode cX10_init 1 = .ok (.invokespecial 1, 3) := by decide +kernel
theorem dX10_init_4 : decode cX10_init 4 = .ok (.aload_n 0, 1) := by decide +kernel
theorem dX10_init_5 : decode cX10_init 5 = .ok (.sipush 400, 3) := by decide +kernel
theorem dX10_init_8 : decode cX10_init 8 = .ok (.newarray .int, 2) := by decide +kernel
theorem dX10_init_10 : decode cX10_init 10 = .ok (.putfield 7, 3) := by decide +kernel
theorem dX10_init_13 : decode cX10_init 13 = .ok (.aload_n 0, 1) := by decide +kernel
theorem dX10_init_14 : decode cX10_init 14 = .ok (.iconst (-1), 1) := by decide +kernel
theorem dX10_init_15 : decode cX10_init 15 = .ok (.putfield 13, 3) := by decide +kernel
theorem dX10_init_18 : decode cX10_init 18 = .ok (.aload_n 0, 1) := by decide +kernel
theorem dX10_init_19 : decode cX10_init 19 = .ok (.iconst 3, 1) := by decide +kernel
theorem dX10_init_20 : decode cX10_init 20 = .ok (.newarray .char, 2) := by decide +kernel
theorem dX10_init_22 : decode cX10_init 22 = .ok (.dup, 1) := by decide +kernel
theorem dX10_init_23 : decode cX10_init 23 = .ok (.iconst 0, 1) := by decide +kernel
theorem dX10_init_24 : decode cX10_init 24 = .ok (.bipush 98, 2) := by decide +kernel
theorem dX10_init_26 : decode cX10_init 26 = .ok (.castore, 1) := by decide +kernel
theorem dX10_init_27 : decode cX10_init 27 = .ok (.dup, 1) := by decide +kernel
theorem dX10_init_28 : decode cX10_init 28 = .ok (.iconst 1, 1) := by decide +kernel
theorem dX10_init_29 : decode cX10_init 29 = .ok (.bipush 111, 2) := by decide +kernel
theorem dX10_init_31 : decode cX10_init 31 = .ok (.castore, 1) := by decide +kernel
theorem dX10_init_32 : decode cX10_init 32 = .ok (.dup, 1) := by decide +kernel
theorem dX10_init_33 : decode cX10_init 33 = .ok (.iconst 2, 1) := by decide +kernel
theorem dX10_init_34 : decode cX10_init 34 = .ok (.bipush 120, 2) := by decide +kernel
theorem dX10_init_36 : decode cX10_init 36 = .ok (.castore, 1) := by decide +kernel
theorem dX10_init_37 : decode cX10_init 37 = .ok (.putfield 17, 3) := by decide +kernel
theorem dX10_init_40 : decode cX10_init 40 = .ok (.aload_n 0, 1) := by decide +kernel
theorem dX10_init_41 : decode cX10_init 41 = .ok (.iconst 4, 1) := by decide +kernel
theorem dX10_init_42 : decode cX10_init 42 = .ok (.newarray .char, 2) := by decide +kernel
theorem dX10_init_44 : decode cX10_init 44 = .ok (.dup, 1) := by decide +kernel
theorem dX10_init_45 : decode cX10_init 45 = .ok (.iconst 0, 1) := by decide +kernel
theorem dX10_init_46 : decode cX10_init 46 = .ok (.bipush 104, 2) := by decide +kernel
theorem dX10_init_48 : decode cX10_init 48 = .ok (.castore, 1) := by decide +kernel
theorem dX10_init_49 : decode cX10_init 49 = .ok (.dup, 1) := by decide +kernel
theorem dX10_init_50 : decode cX10_init 50 = .ok (.iconst 1, 1) := by decide +kernel
theorem dX10_init_51 : decode cX10_init 51 = .ok (.bipush 111, 2) := by decide +kernel
theorem dX10_init_53 : decode cX10_init 53 = .ok (.castore, 1) := by decide +kernel
theorem dX10_init_54 : decode cX10_init 54 = .ok (.dup, 1) := by decide +kernel
theorem dX10_init_55 : decode cX10_init 55 = .ok (.iconst 2, 1) := by decide +kernel
theorem dX10_init_56 : decode cX10_init 56 = .ok (.bipush 108, 2) := by decide +kernel
theorem dX10_init_58 : decode cX10_init 58 = .ok (.castore, 1) := by decide +kernel
theorem dX10_init_59 : decode cX10_init 59 = .ok (.dup, 1) := by decide +kernel
theorem dX10_init_60 : decode cX10_init 60 = .ok (.iconst 3, 1) := by decide +kernel
theorem dX10_init_61 : decode cX10_init 61 = .ok (.bipush 101, 2) := by decide +kernel
theorem dX10_init_63 : decode cX10_init 63 = .ok (.castore, 1) := by decide +kernel
theorem dX10_init_64 : decode cX10_init 64 = .ok (.putfield 21, 3) := by decide +kernel
theorem dX10_init_67 : decode cX10_init 67 = .ok (.aload_n 0, 1) := by decide +kernel
theorem dX10_init_68 : decode cX10_init 68 = .ok (.bipush 6, 2) := by decide +kernel
theorem dX10_init_70 : decode cX10_init 70 = .ok (.newarray .char, 2) := by decide +kernel
theorem dX10_init_72 : decode cX10_init 72 = .ok (.dup, 1) := by decide +kernel
theorem dX10_init_73 : decode cX10_init 73 = .ok (.iconst 0, 1) := by decide +kernel
theorem dX10_init_74 : decode cX10_init 74 = .ok (.bipush 109, 2) := by decide +kernel
theorem dX10_init_76 : decode cX10_init 76 = .ok (.castore, 1) := by decide +kernel
theorem dX10_init_77 : decode cX10_init 77 = .ok (.dup, 1) := by decide +kernel
theorem dX10_init_78 : decode cX10_init 78 = .ok (.iconst 1, 1) := by decide +kernel
theorem dX10_init_79 : decode cX10_init 79 = .ok (.bipush 105, 2) := by decide +kernel
theorem dX10_init_81 : decode cX10_init 81 = .ok (.castore, 1) := by decide +kernel
theorem dX10_init_82 : decode cX10_init 82 = .ok (.dup, 1) := by decide +kernel
theorem dX10_init_83 : decode cX10_init 83 = .ok (.iconst 2, 1) := by decide +kernel
theorem dX10_init_84 : decode cX10_init 84 = .ok (.bipush 114, 2) := by decide +kernel
theorem dX10_init_86 : decode cX10_init 86 = .ok (.castore, 1) := by decide +kernel
theorem dX10_init_87 : decode cX10_init 87 = .ok (.dup, 1) := by decide +kernel
theorem dX10_init_88 : decode cX10_init 88 = .ok (.iconst 3, 1) := by decide +kernel
theorem dX10_init_89 : decode cX10_init 89 = .ok (.bipush 114, 2) := by decide +kernel
theorem dX10_init_91 : decode cX10_init 91 = .ok (.castore, 1) := by decide +kernel
theorem dX10_init_92 : decode cX10_init 92 = .ok (.dup, 1) := by decide +kernel
theorem dX10_init_93 : decode cX10_init 93 = .ok (.iconst 4, 1) := by decide +kernel
theorem dX10_init_94 : decode cX10_init 94 = .ok (.bipush 111, 2) := by decide +kernel
theorem dX10_init_96 : decode cX10_init 96 = .ok (.castore, 1) := by decide +kernel
theorem dX10_init_97 : decode cX10_init 97 = .ok (.dup, 1) := by decide +kernel
theorem dX10_init_98 : decode cX10_init 98 = .ok (.iconst 5, 1) := by decide +kernel
theorem dX10_init_99 : decode cX10_init 99 = .ok (.bipush 114, 2) := by decide +kernel
theorem dX10_init_101 : decode cX10_init 101 = .ok (.castore, 1) := by decide +kernel
theorem dX10_init_102 : decode cX10_init 102 = .ok (.putfield 24, 3) := by decide +kernel
theorem dX10_init_105 : decode cX10_init 105 = .ok (.aload_n 0, 1) := by decide +kernel
theorem dX10_init_106 : decode cX10_init 106 = .ok (.iconst 4, 1) := by decide +kernel
theorem dX10_init_107 : decode cX10_init 107 = .ok (.newarray .char, 2) := by decide +kernel
theorem dX10_init_109 : decode cX10_init 109 = .ok (.dup, 1) := by decide +kernel
theorem dX10_init_110 : decode cX10_init 110 = .ok (.iconst 0, 1) := by decide +kernel
theorem dX10_init_111 : decode cX10_init 111 = .ok (.bipush 116, 2) := by decide +kernel
theorem dX10_init_113 : decode cX10_init 113 = .ok (.castore, 1) := by decide +kernel
theorem dX10_init_114 : decode cX10_init 114 = .ok (.dup, 1) := by decide +kernel
theorem dX10_init_115 : decode cX10_init 115 = .ok (.iconst 1, 1) := by decide +kernel
theorem dX10_init_116 : decode cX10_init 116 = .ok (.bipush 117, 2) := by decide +kernel
theorem dX10_init_118 : decode cX10_init 118 = .ok (.castore, 1) := by decide +kernel
theorem dX10_init_119 : decode cX10_init 119 = .ok (.dup, 1) := by decide +kernel
theorem dX10_init_120 : decode cX10_init 120 = .ok (.iconst 2, 1) := by decide +kernel
theorem dX10_init_121 : decode cX10_init 121 = .ok (.bipush 114, 2) := by decide +kernel
theorem dX10_init_123 : decode cX10_init 123 = .ok (.castore, 1) := by decide +kernel
theorem dX10_init_124 : decode cX10_init 124 = .ok (.dup, 1) := by decide +kernel
theorem dX10_init_125 : decode cX10_init 125 = .ok (.iconst 3, 1) := by decide +kernel
theorem dX10_init_126 : decode cX10_init 126 = .ok (.bipush 110, 2) := by decide +kernel
theorem dX10_init_128 : decode cX10_init 128 = .ok (.castore, 1) := by decide +kernel
theorem dX10_init_129 : decode cX10_init 129 = .ok (.putfield 27, 3) := by decide +kernel
theorem dX10_init_132 : decode cX10_init 132 = .ok (.aload_n 0, 1) := by decide +kernel
theorem dX10_init_133 : decode cX10_init 133 = .ok (.sipush 512, 3) := by decide +kernel
theorem dX10_init_136 : decode cX10_init 136 = .ok (.newarray .boolean, 2) := by decide +kernel
theorem dX10_init_138 : decode cX10_init 138 = .ok (.putfield 30, 3) := by decide +kernel
theorem dX10_init_141 : decode cX10_init 141 = .ok (.aload_n 0, 1) := by decide +kernel
theorem dX10_init_142 : decode cX10_init 142 = .ok (.sipush 512, 3) := by decide +kernel
theorem dX10_init_145 : decode cX10_init 145 = .ok (.newarray .boolean, 2) := by decide +kernel
theorem dX10_init_147 : decode cX10_init 147 = .ok (.putfield 34, 3) := by decide +kernel
theorem dX10_init_150 : decode cX10_init 150 = .ok (.aload_n 0, 1) := by decide +kernel
theorem dX10_init_151 : decode cX10_init 151 = .ok (.bipush 6, 2) := by decide +kernel
theorem dX10_init_153 : decode cX10_init 153 = .ok (.newarray .int, 2) := by decide +kernel
theorem dX10_init_155 : decode cX10_init 155 = .ok (.putfield 37, 3) := by decide +kernel
theorem dX10_init_158 : decode cX10_init 158 = .ok (.aload_n 0, 1) := by decide +kernel
theorem dX10_init_159 : decode cX10_init 159 = .ok (.sipush 1000, 3) := by decide +kernel
theorem dX10_init_162 : decode cX10_init 162 = .ok (.newarray .boolean, 2) := by decide +kernel
theorem dX10_init_164 : decode cX10_init 164 = .ok (.putfield 40, 3) := by decide +kernel
theorem dX10_init_167 : decode cX10_init 167 = .ok (.aload_n 0, 1) := by decide +kernel
theorem dX10_init_168 : decode cX10_init 168 = .ok (.sipush 1000, 3) := by decide +kernel
theorem dX10_init_171 : decode cX10_init 171 = .ok (.newarray .int, 2) := by decide +kernel
theorem dX10_init_173 : decode cX10_init 173 = .ok (.putfield 43, 3) := by decide +kernel
theorem dX10_init_176 : decode cX10_init 176 = .ok (.aload_n 0, 1) := by decide +kernel
theorem dX10_init_177 : decode cX10_init 177 = .ok (.bipush 6, 2) := by decide +kernel
theorem dX10_init_179 : decode cX10_init 179 = .ok (.newarray .int, 2) := by decide +kernel
theorem dX10_init_181 : decode cX10_init 181 = .ok (.putfield 46, 3) := by decide +kernel
theorem dX10_init_184 : decode cX10_init 184 = .ok (.aload_n 0, 1) := by decide +kernel
theorem dX10_init_185 : decode cX10_init 185 = .ok (.bipush 6, 2) := by decide +kernel
theorem dX10_init_187 : decode cX10_init 187 = .ok (.newarray .int, 2) := by decide +kernel
theorem dX10_init_189 : decode cX10_init 189 = .ok (.putfield 49, 3) := by decide +kernel
theorem dX10_init_192 : decode cX10_init 192 = .ok (.aload_n 0, 1) := by decide +kernel
theorem dX10_init_193 : decode cX10_init 193 = .ok (.sipush 1000, 3) := by decide +kernel
theorem dX10_init_196 : decode cX10_init 196 = .ok (.newarray .int, 2) := by decide +kernel
theorem dX10_init_198 : decode cX10_init 198 = .ok (.putfield 52, 3) := by decide +kernel
theorem dX10_init_201 : decode cX10_init 201 = .ok (.aload_n 0, 1) := by decide +kernel
theorem dX10_init_202 : decode cX10_init 202 = .ok (.sipush 1000, 3) := by decide +kernel
theorem dX10_init_205 : decode cX10_init 205 = .ok (.newarray .int, 2) := by decide +kernel
theorem dX10_init_207 : decode cX10_init 207 = .ok (.putfield 55, 3) := by decide +kernel
theorem dX10_init_210 : decode cX10_init 210 = .ok (.aload_n 0, 1) := by decide +kernel
theorem dX10_init_211 : decode cX10_init 211 = .ok (.sipush 1000, 3) := by decide +kernel
theorem dX10_init_214 : decode cX10_init 214 = .ok (.newarray .int, 2) := by decide +kernel
theorem dX10_init_216 : decode cX10_init 216 = .ok (.putfield 58, 3) := by decide +kernel
theorem dX10_init_219 : decode cX10_init 219 = .ok (.aload_n 0, 1) := by decide +kernel
theorem dX10_init_220 : decode cX10_init 220 = .ok (.sipush 1000, 3) := by decide +kernel
theorem dX10_init_223 : decode cX10_init 223 = .ok (.newarray .int, 2) := by decide +kernel
theorem dX10_init_225 : decode cX10_init 225 = .ok (.putfield 61, 3) := by decide +kernel
theorem dX10_init_228 : decode cX10_init 228 = .ok (.aload_n 0, 1) := by decide +kernel
theorem dX10_init_229 : decode cX10_init 229 = .ok (.sipush 1000, 3) := by decide +kernel
theorem dX10_init_232 : decode cX10_init 232 = .ok (.newarray .int, 2) := by decide +kernel
theorem dX10_init_234 : decode cX10_init 234 = .ok (.putfield 64, 3) := by decide +kernel
theorem dX10_init_237 : decode cX10_init 237 = .ok (.aload_n 0, 1) := by decide +kernel
theorem dX10_init_238 : decode cX10_init 238 = .ok (.sipush 1000, 3) := by decide +kernel
theorem dX10_init_241 : decode cX10_init 241 = .ok (.newarray .int, 2) := by decide +kernel
theorem dX10_init_243 : decode cX10_init 243 = .ok (.putfield 67, 3) := by decide +kernel
theorem dX10_init_246 : decode cX10_init 246 = .ok (.aload_n 0, 1) := by decide +kernel
theorem dX10_init_247 : decode cX10_init 247 = .ok (.bipush 20, 2) := by decide +kernel
theorem dX10_init_249 : decode cX10_init 249 = .ok (.putfield 70, 3) := by decide +kernel
theorem dX10_init_252 : decode cX10_init 252 = .ok (.aload_n 0, 1) := by decide +kernel
theorem dX10_init_253 : decode cX10_init 253 = .ok (.iconst 1, 1) := by decide +kernel
theorem dX10_init_254 : decode cX10_init 254 = .ok (.putfield 73, 3) := by decide +kernel
theorem dX10_init_257 : decode cX10_init 257 = .ok (.aload_n 0, 1) := by decide +kernel
theorem dX10_init_258 : decode cX10_init 258 = .ok (.iconst 2, 1) := by decide +kernel
theorem dX10_init_259 : decode cX10_init 259 = .ok (.putfield 76, 3) := by decide +kernel
theorem dX10_init_262 : decode cX10_init 262 = .ok (.aload_n 0, 1) := by decide +kernel
theorem dX10_init_263 : decode cX10_init 263 = .ok (.bipush 10, 2) := by decide +kernel
theorem dX10_init_265 : decode cX10_init 265 = .ok (.newarray .boolean, 2) := by decide +kernel
theorem dX10_init_267 : decode cX10_init 267 = .ok (.putfield 79, 3) := by decide +kernel
theorem dX10_init_270 : decode cX10_init 270 = .ok (.aload_n 0, 1) := by decide +kernel
theorem dX10_init_271 : decode cX10_init 271 = .ok (.bipush 10, 2) := by decide +kernel
theorem dX10_init_273 : decode cX10_init 273 = .ok (.newarray .int, 2) := by decide +kernel
theorem dX10_init_275 : decode cX10_init 275 = .ok (.putfield 82, 3) := by decide +kernel
theorem dX10_init_278 : decode cX10_init 278 = .ok (.aload_n 0, 1) := by decide +kernel
theorem dX10_init_279 : decode cX10_init 279 = .ok (.bipush 10, 2) := by decide +kernel
theorem dX10_init_281 : decode cX10_init 281 = .ok (.newarray .int, 2) := by decide +kernel
theorem dX10_init_283 : decode cX10_init 283 = .ok (.putfield 85, 3) := by decide +kernel
theorem dX10_init_286 : decode cX10_init 286 = .ok (.aload_n 0, 1) := by decide +kernel
theorem dX10_init_287 : decode cX10_init 287 = .ok (.bipush 10, 2) := by decide +kernel
theorem dX10_init_289 : decode cX10_init 289 = .ok (.newarray .int, 2) := by decide +kernel
theorem dX10_init_291 : decode cX10_init 291 = .ok (.putfield 88, 3) := by decide +kernel
theorem dX10_init_294 : decode cX10_init 294 = .ok (.aload_n 0, 1) := by decide +kernel
theorem dX10_init_295 : decode cX10_init 295 = .ok (.sipush 1024, 3) := by decide +kernel
theorem dX10_init_298 : decode cX10_init 298 = .ok (.newarray .int, 2) := by decide +kernel
theorem dX10_init_300 : decode cX10_init 300 = .ok (.putfield 91, 3) := by decide +kernel
theorem dX10_init_303 : decode cX10_init 303 = .ok (.aload_n 0, 1) := by decide +kernel
theorem dX10_init_304 : decode cX10_init 304 = .ok (.bipush 10, 2) := by decide +kernel
theorem dX10_init_306 : decode cX10_init 306 = .ok (.newarray .int, 2) := by decide +kernel
theorem dX10_init_308 : decode cX10_init 308 = .ok (.putfield 94, 3) := by decide +kernel
theorem dX10_init_311 : decode cX10_init 311 = .ok (.aload_n 0, 1) := by decide +kernel
theorem dX10_init_312 : decode cX10_init 312 = .ok (.bipush 10, 2) := by decide +kernel
theorem dX10_init_314 : decode cX10_init 314 = .ok (.newarray .int, 2) := by decide +kernel
theorem dX10_init_316 : decode cX10_init 316 = .ok (.putfield 97, 3) := by decide +kernel
theorem dX10_init_319 : decode cX10_init 319 = .ok (.aload_n 0, 1) := by decide +kernel
theorem dX10_init_320 : decode cX10_init 320 = .ok (.bipush 12, 2) := by decide +kernel
theorem dX10_init_322 : decode cX10_init 322 = .ok (.newarray .int, 2) := by decide +kernel
theorem dX10_init_324 : decode cX10_init 324 = .ok (.putfield 100, 3) := by decide +kernel
theorem dX10_init_327 : decode cX10_init 327 = .ok (.aload_n 0, 1) := by decide +kernel
theorem dX10_init_328 : decode cX10_init 328 = .ok (.bipush 12, 2) := by decide +kernel
theorem dX10_init_330 : decode cX10_init 330 = .ok (.newarray .int, 2) := by decide +kernel
theorem dX10_init_332 : decode cX10_init 332 = .ok (.putfield 103, 3) := by decide +kernel
theorem dX10_init_335 : decode cX10_init 335 = .ok (.aload_n 0, 1) := by decide +kernel
theorem dX10_init_336 : decode cX10_init 336 = .ok (.sipush 990, 3) := by decide +kernel
theorem dX10_init_339 : decode cX10_init 339 = .ok (.putfield 106, 3) := by decide +kernel
theorem dX10_init_342 : decode cX10_init 342 = .ok (.aload_n 0, 1) := by decide +kernel
theorem dX10_init_343 : decode cX10_init 343 = .ok (.sipush 950, 3) := by decide +kernel
theorem dX10_init_346 : decode cX10_init 346 = .ok (.putfield 109, 3) := by decide +kernel
theorem dX10_init_349 : decode cX10_init 349 = .ok (.aload_n 0, 1) := by decide +kernel
theorem dX10_init_350 : decode cX10_init 350 = .ok (.bipush 50, 2) := by decide +kernel
theorem dX10_init_352 : decode cX10_init 352 = .ok (.putfield 112, 3) := by decide +kernel
theorem dX10_init_355 : decode cX10_init 355 = .ok (.return_, 1) := by decide +kernel
theorem dX10_feed_0 : decode cX10_feed 0 = .ok (.aload_n 0, 1) := by decide +kernel
theorem dX10_feed_1 : decode cX10_feed 1 = .ok (.getfield 115, 3) := by decide +kernel
theorem dX10_feed_4 : decode cX10_feed 4 = .ok (.bipush 20, 2) := by decide +kernel
theorem dX10_feed_6 : decode cX10_feed 6 = .ok (.iadd, 1) := by decide +kernel
theorem dX10_feed_7 : decode cX10_feed 7 = .ok (.sipush 400, 3) := by decide +kernel
theorem dX10_feed_10 : decode cX10_feed 10 = .ok (.if_icmp .le 5, 3) := by decide +kernel
theorem dX10_feed_13 : decode cX10_feed 13 = .ok (.iconst (-1), 1) := by decide +kernel
theorem dX10_feed_14 : decode cX10_feed 14 = .ok (.ireturn, 1) := by decide +kernel
theorem dX10_feed_15 : decode cX10_feed 15 = .ok (.iconst 0, 1) := by decide +kernel
theorem dX10_feed_16 : decode cX10_feed 16 = .ok (.istore 6, 2) := by decide +kernel
theorem dX10_feed_18 : decode cX10_feed 18 = .ok (.iload 6, 2) := by decide +kernel
theorem dX10_feed_20 : decode cX10_feed 20 = .ok (.bipush 20, 2) := by decide +kernel
theorem dX10_feed_22 : decode cX10_feed 22 = .ok (.if_icmp .ge 92, 3) := by decide +kernel
theorem dX10_feed_25 : decode cX10_feed 25 = .ok (.iload 6, 2) := by decide +kernel
theorem dX10_feed_27 : decode cX10_feed 27 = .ok (.iconst 4, 1) := by decide +kernel
theorem dX10_feed_28 : decode cX10_feed 28 = .ok (.if_icmp .ge 7, 3) := by decide +kernel
theorem dX10_feed_31 : decode cX10_feed 31 = .ok (.iload_n 1, 1) := by decide +kernel
theorem dX10_feed_32 : decode cX10_feed 32 = .ok (.goto 39, 3) := by decide +kernel
theorem dX10_feed_35 : decode cX10_feed 35 = .ok (.iload 6, 2) := by decide +kernel
theorem dX10_feed_37 : decode cX10_feed 37 = .ok (.bipush 8, 2) := by decide +kernel
theorem dX10_feed_39 : decode cX10_feed 39 = .ok (.if_icmp .ge 7, 3) := by decide +kernel
theorem dX10_feed_42 : decode cX10_feed 42 = .ok (.iload_n 2, 1) := by decide +kernel
theorem dX10_feed_43 : decode cX10_feed 43 = .ok (.goto 28, 3) := by decide +kernel
theorem dX10_feed_46 : decode cX10_feed 46 = .ok (.iload 6, 2) := by decide +kernel
theorem dX10_feed_48 : decode cX10_feed 48 = .ok (.bipush 12, 2) := by decide +kernel
theorem dX10_feed_50 : decode cX10_feed 50 = .ok (.if_icmp .ge 7, 3) := by decide +kernel
theorem dX10_feed_53 : decode cX10_feed 53 = .ok (.iload_n 3, 1) := by decide +kernel
theorem dX10_feed_54 : decode cX10_feed 54 = .ok (.goto 17, 3) := by decide +kernel
theorem dX10_feed_57 : decode cX10_feed 57 = .ok (.iload 6, 2) := by decide +kernel
theorem dX10_feed_59 : decode cX10_feed 59 = .ok (.bipush 16, 2) := by decide +kernel
theorem dX10_feed_61 : decode cX10_feed 61 = .ok (.if_icmp .ge 8, 3) := by decide +kernel
theorem dX10_feed_64 : decode cX10_feed 64 = .ok (.iload 4, 2) := by decide +kernel
theorem dX10_feed_66 : decode cX10_feed 66 = .ok (.goto 5, 3) := by decide +kernel
theorem dX10_feed_69 : decode cX10_feed 69 = .ok (.iload 5, 2) := by decide +kernel
theorem dX10_feed_71 : decode cX10_feed 71 = .ok (.istore 7, 2) := by decide +kernel
theorem dX10_feed_73 : decode cX10_feed 73 = .ok (.aload_n 0, 1) := by decide +kernel
theorem dX10_feed_74 : decode cX10_feed 74 = .ok (.getfield 7, 3) := by decide +kernel
theorem dX10_feed_77 : decode cX10_feed 77 = .ok (.aload_n 0, 1) := by decide +kernel
theorem dX10_feed_78 : decode cX10_feed 78 = .ok (.getfield 115, 3) := by decide +kernel
theorem dX10_feed_81 : decode cX10_feed 81 = .ok (.iload 7, 2) := by decide +kernel
theorem dX10_feed_83 : decode cX10_feed 83 = .ok (.bipush 8, 2) := by decide +kernel
theorem dX10_feed_85 : decode cX10_feed 85 = .ok (.iconst 3, 1) := by decide +kernel
theorem dX10_feed_86 : decode cX10_feed 86 = .ok (.iload 6, 2) := by decide +kernel
theorem dX10_feed_88 : decode cX10_feed 88 = .ok (.iconst 4, 1) := by decide +kernel
theorem dX10_feed_89 : decode cX10_feed 89 = .ok (.irem, 1) := by decide +kernel
theorem dX10_feed_90 : decode cX10_feed 90 = .ok (.isub, 1) := by decide +kernel
theorem dX10_feed_91 : decode cX10_feed 91 = .ok (.imul, 1) := by decide +kernel
theorem dX10_feed_92 : decode cX10_feed 92 = .ok (.ishr, 1) := by decide +kernel
theorem dX10_feed_93 : decode cX10_feed 93 = .ok (.sipush 255, 3) := by decide +kernel
theorem dX10_feed_96 : decode cX10_feed 96 = .ok (.iand, 1) := by decide +kernel
theorem dX10_feed_97 : decode cX10_feed 97 = .ok (.iastore, 1) := by decide +kernel
theorem dX10_feed_98 : decode cX10_feed 98 = .ok (.aload_n 0, 1) := by decide +kernel
theorem dX10_feed_99 : decode cX10_feed 99 = .ok (.dup, 1) := by decide +kernel
theorem dX10_feed_100 : decode cX10_feed 100 = .ok (.getfield 115, 3) := by decide +kernel
theorem dX10_feed_103 : decode cX10_feed 103 = .ok (.iconst 1, 1) := by decide +kernel
theorem dX10_feed_104 : decode cX10_feed 104 = .ok (.iadd, 1) := by decide +kernel
theorem dX10_feed_105 : decode cX10_feed 105 = .ok (.putfield 115, 3) := by decide +kernel
theorem dX10_feed_108 : decode cX10_feed 108 = .ok (.iinc 6 1, 3) := by decide +kernel
theorem dX10_feed_111 : decode cX10_feed 111 = .ok (.goto (-93), 3) := by decide +kernel
theorem dX10_feed_114 : decode cX10_feed 114 = .ok (.aload_n 0, 1) := by decide +kernel
theorem dX10_feed_115 : decode cX10_feed 115 = .ok (.getfield 115, 3) := by decide +kernel
theorem dX10_feed_118 : decode cX10_feed 118 = .ok (.ireturn, 1) := by decide +kernel
theorem dX10_end_0 : decode cX10_end 0 = .ok (.iload_n 1, 1) := by decide +kernel
theorem dX10_end_1 : decode cX10_end 1 = .ok (.ifCond .lt 11, 3) := by decide +kernel
theorem dX10_end_4 : decode cX10_end 4 = .ok (.iload_n 1, 1) := by decide +kernel
theorem dX10_end_5 : decode cX10_end 5 = .ok (.aload_n 0, 1) := by decide +kernel
theorem dX10_end_6 : decode cX10_end 6 = .ok (.getfield 115, 3) := by decide +kernel
theorem dX10_end_9 : decode cX10_end 9 = .ok (.if_icmp .le 5, 3) := by decide +kernel
theorem dX10_end_12 : decode cX10_end 12 = .ok (.iconst 0, 1) := by decide +kernel
theorem dX10_end_13 : decode cX10_end 13 = .ok (.ireturn, 1) := by decide +kernel
theorem dX10_end_14 : decode cX10_end 14 = .ok (.aload_n 0, 1) := by decide +kernel
theorem dX10_end_15 : decode cX10_end 15 = .ok (.iload_n 1, 1) := by decide +kernel
theorem dX10_end_16 : decode cX10_end 16 = .ok (.putfield 115, 3) := by decide +kernel
theorem dX10_end_19 : decode cX10_end 19 = .ok (.iconst 1, 1) := by decide +kernel
theorem dX10_end_20 : decode cX10_end 20 = .ok (.ireturn, 1) := by decide +kernel
theorem dX10_fail_0 : decode cX10_fail 0 = .ok (.aload_n 0, 1) := by decide +kernel
theorem dX10_fail_1 : decode cX10_fail 1 = .ok (.getfield 118, 3) := by decide +kernel
theorem dX10_fail_4 : decode cX10_fail 4 = .ok (.ifCond .eq 4, 3) := by decide +kernel
theorem dX10_fail_7 : decode cX10_fail 7 = .ok (.return_, 1) := by decide +kernel
theorem dX10_fail_8 : decode cX10_fail 8 = .ok (.aload_n 0, 1) := by decide +kernel
theorem dX10_fail_9 : decode cX10_fail 9 = .ok (.iload_n 1, 1) := by decide +kernel
theorem dX10_fail_10 : decode cX10_fail 10 = .ok (.putfield 118, 3) := by decide +kernel
theorem dX10_fail_13 : decode cX10_fail 13 = .ok (.aload_n 0, 1) := by decide +kernel
theorem dX10_fail_14 : decode cX10_fail 14 = .ok (.iload_n 2, 1) := by decide +kernel
theorem dX10_fail_15 : decode cX10_fail 15 = .ok (.putfield 121, 3) := by decide +kernel
theorem dX10_fail_18 : decode cX10_fail 18 = .ok (.return_, 1) := by decide +kernel
theorem dX10_isLetter_0 : decode cX10_isLetter 0 = .ok (.iload_n 0, 1) := by decide +kernel
theorem dX10_isLetter_1 : decode cX10_isLetter 1 = .ok (.bipush 97, 2) := by decide +kernel
theorem dX10_isLetter_3 : decode cX10_isLetter 3 = .ok (.if_icmp .lt 13, 3) := by decide +kernel
theorem dX10_isLetter_6 : decode cX10_isLetter 6 = .ok (.iload_n 0, 1) := by decide +kernel
theorem dX10_isLetter_7 : decode cX10_isLetter 7 = .ok (.bipush 122, 2) := by decide +kernel
theorem dX10_isLetter_9 : decode cX10_isLetter 9 = .ok (.if_icmp .gt 7, 3) := by decide +kernel
theorem dX10_isLetter_12 : decode cX10_isLetter 12 = .ok (.iconst 1, 1) := by decide +kernel
theorem dX10_isLetter_13 : decode cX10_isLetter 13 = .ok (.goto 4, 3) := by decide +kernel
theorem dX10_isLetter_16 : decode cX10_isLetter 16 = .ok (.iconst 0, 1) := by decide +kernel
theorem dX10_isLetter_17 : decode cX10_isLetter 17 = .ok (.ireturn, 1) := by decide +kernel
theorem dX10_isDigit_0 : decode cX10_isDigit 0 = .ok (.iload_n 0, 1) := by decide +kernel
theorem dX10_isDigit_1 : decode cX10_isDigit 1 = .ok (.bipush 48, 2) := by decide +kernel
theorem dX10_isDigit_3 : decode cX10_isDigit 3 = .ok (.if_icmp .lt 13, 3) := by decide +kernel
theorem dX10_isDigit_6 : decode cX10_isDigit 6 = .ok (.iload_n 0, 1) := by decide +kernel
theorem dX10_isDigit_7 : decode cX10_isDigit 7 = .ok (.bipush 57, 2) := by decide +kernel
theorem dX10_isDigit_9 : decode cX10_isDigit 9 = .ok (.if_icmp .gt 7, 3) := by decide +kernel
theorem dX10_isDigit_12 : decode cX10_isDigit 12 = .ok (.iconst 1, 1) := by decide +kernel
theorem dX10_isDigit_13 : decode cX10_isDigit 13 = .ok (.goto 4, 3) := by decide +kernel
theorem dX10_isDigit_16 : decode cX10_isDigit 16 = .ok (.iconst 0, 1) := by decide +kernel
theorem dX10_isDigit_17 : decode cX10_isDigit 17 = .ok (.ireturn, 1) := by decide +kernel
theorem dX10_next_0 : decode cX10_next 0 = .ok (.aload_n 0, 1) := by decide +kernel
theorem dX10_next_1 : decode cX10_next 1 = .ok (.getfield 124, 3) := by decide +kernel
theorem dX10_next_4 : decode cX10_next 4 = .ok (.aload_n 0, 1) := by decide +kernel
theorem dX10_next_5 : decode cX10_next 5 = .ok (.getfield 127, 3) := by decide +kernel
theorem dX10_next_8 : decode cX10_next 8 = .ok (.if_icmp .ge 44, 3) := by decide +kernel
theorem dX10_next_11 : decode cX10_next 11 = .ok (.aload_n 0, 1) := by decide +kernel
theorem dX10_next_12 : decode cX10_next 12 = .ok (.getfield 7, 3) := by decide +kernel
theorem dX10_next_15 : decode cX10_next 15 = .ok (.aload_n 0, 1) := by decide +kernel
theorem dX10_next_16 : decode cX10_next 16 = .ok (.getfield 124, 3) := by decide +kernel
theorem dX10_next_19 : decode cX10_next 19 = .ok (.iaload, 1) := by decide +kernel
theorem dX10_next_20 : decode cX10_next 20 = .ok (.bipush 10, 2) := by decide +kernel
theorem dX10_next_22 : decode cX10_next 22 = .ok (.if_icmp .eq 17, 3) := by decide +kernel
theorem dX10_next_25 : decode cX10_next 25 = .ok (.aload_n 0, 1) := by decide +kernel
theorem dX10_next_26 : decode cX10_next 26 = .ok (.getfield 7, 3) := by decide +kernel
theorem dX10_next_29 : decode cX10_next 29 = .ok (.aload_n 0, 1) := by decide +kernel
theorem dX10_next_30 : decode cX10_next 30 = .ok (.getfield 124, 3) := by decide +kernel
theorem dX10_next_33 : decode cX10_next 33 = .ok (.iaload, 1) := by decide +kernel
theorem dX10_next_34 : decode cX10_next 34 = .ok (.bipush 32, 2) := by decide +kernel
theorem dX10_next_36 : decode cX10_next 36 = .ok (.if_icmp .ne 16, 3) := by decide +kernel
theorem dX10_next_39 : decode cX10_next 39 = .ok (.aload_n 0, 1) := by decide +kernel
theorem dX10_next_40 : decode cX10_next 40 = .ok (.dup, 1) := by decide +kernel
theorem dX10_next_41 : decode cX10_next 41 = .ok (.getfield 124, 3) := by decide +kernel
theorem dX10_next_44 : decode cX10_next 44 = .ok (.iconst 1, 1) := by decide +kernel
theorem dX10_next_45 : decode cX10_next 45 = .ok (.iadd, 1) := by decide +kernel
theorem dX10_next_46 : decode cX10_next 46 = .ok (.putfield 124, 3) := by decide +kernel
theorem dX10_next_49 : decode cX10_next 49 = .ok (.goto (-49), 3) := by decide +kernel
theorem dX10_next_52 : decode cX10_next 52 = .ok (.aload_n 0, 1) := by decide +kernel
theorem dX10_next_53 : decode cX10_next 53 = .ok (.aload_n 0, 1) := by decide +kernel
theorem dX10_next_54 : decode cX10_next 54 = .ok (.getfield 124, 3) := by decide +kernel
theorem dX10_next_57 : decode cX10_next 57 = .ok (.putfield 130, 3) := by decide +kernel
theorem dX10_next_60 : decode cX10_next 60 = .ok (.aload_n 0, 1) := by decide +kernel
theorem dX10_next_61 : decode cX10_next 61 = .ok (.getfield 124, 3) := by decide +kernel
theorem dX10_next_64 : decode cX10_next 64 = .ok (.aload_n 0, 1) := by decide +kernel
theorem dX10_next_65 : decode cX10_next 65 = .ok (.getfield 127, 3) := by decide +kernel
theorem dX10_next_68 : decode cX10_next 68 = .ok (.if_icmp .ge 15, 3) := by decide +kernel
theorem dX10_next_71 : decode cX10_next 71 = .ok (.aload_n 0, 1) := by decide +kernel
theorem dX10_next_72 : decode cX10_next 72 = .ok (.getfield 7, 3) := by decide +kernel
theorem dX10_next_75 : decode cX10_next 75 = .ok (.aload_n 0, 1) := by decide +kernel
theorem dX10_next_76 : decode cX10_next 76 = .ok (.getfield 124, 3) := by decide +kernel
theorem dX10_next_79 : decode cX10_next 79 = .ok (.iaload, 1) := by decide +kernel
theorem dX10_next_80 : decode cX10_next 80 = .ok (.goto 4, 3) := by decide +kernel
theorem dX10_next_83 : decode cX10_next 83 = .ok (.iconst (-1), 1) := by decide +kernel
theorem dX10_next_84 : decode cX10_next 84 = .ok (.ireturn, 1) := by decide +kernel
theorem dX10_number_0 : decode cX10_number 0 = .ok (.aload_n 0, 1) := by decide +kernel
theorem dX10_number_1 : decode cX10_number 1 = .ok (.invokevirtual 133, 3) := by decide +kernel
theorem dX10_number_4 : decode cX10_number 4 = .ok (.invokestatic 137, 3) := by decide +kernel
theorem dX10_number_7 : decode cX10_number 7 = .ok (.ifCond .eq 14, 3) := by decide +kernel
theorem dX10_number_10 : decode cX10_number 10 = .ok (.aload_n 0, 1) := by decide +kernel
theorem dX10_number_11 : decode cX10_number 11 = .ok (.getfield 124, 3) := by decide +kernel
theorem dX10_number_14 : decode cX10_number 14 = .ok (.aload_n 0, 1) := by decide +kernel
theorem dX10_number_15 : decode cX10_number 15 = .ok (.getfield 141, 3) := by decide +kernel
theorem dX10_number_18 : decode cX10_number 18 = .ok (.if_icmp .ne 14, 3) := by decide +kernel
theorem dX10_number_21 : decode cX10_number 21 = .ok (.aload_n 0, 1) := by decide +kernel
theorem dX10_number_22 : decode cX10_number 22 = .ok (.iconst 1, 1) := by decide +kernel
theorem dX10_number_23 : decode cX10_number 23 = .ok (.aload_n 0, 1) := by decide +kernel
theorem dX10_number_24 : decode cX10_number 24 = .ok (.getfield 124, 3) := by decide +kernel
theorem dX10_number_27 : decode cX10_number 27 = .ok (.invokevirtual 144, 3) := by decide +kernel
theorem dX10_number_30 : decode cX10_number 30 = .ok (.iconst 0, 1) := by decide +kernel
theorem dX10_number_31 : decode cX10_number 31 = .ok (.ireturn, 1) := by decide +kernel
theorem dX10_number_32 : decode cX10_number 32 = .ok (.aload_n 0, 1) := by decide +kernel
theorem dX10_number_33 : decode cX10_number 33 = .ok (.getfield 7, 3) := by decide +kernel
theorem dX10_number_36 : decode cX10_number 36 = .ok (.aload_n 0, 1) := by decide +kernel
theorem dX10_number_37 : decode cX10_number 37 = .ok (.getfield 124, 3) := by decide +kernel
theorem dX10_number_40 : decode cX10_number 40 = .ok (.iaload, 1) := by decide +kernel
theorem dX10_number_41 : decode cX10_number 41 = .ok (.bipush 48, 2) := by decide +kernel
theorem dX10_number_43 : decode cX10_number 43 = .ok (.isub, 1) := by decide +kernel
theorem dX10_number_44 : decode cX10_number 44 = .ok (.istore_n 2, 1) := by decide +kernel
theorem dX10_number_45 : decode cX10_number 45 = .ok (.iload_n 2, 1) := by decide +kernel
theorem dX10_number_46 : decode cX10_number 46 = .ok (.iload_n 1, 1) := by decide +kernel
theorem dX10_number_47 : decode cX10_number 47 = .ok (.if_icmp .ge 12, 3) := by decide +kernel
theorem dX10_number_50 : decode cX10_number 50 = .ok (.aload_n 0, 1) := by decide +kernel
theorem dX10_number_51 : decode cX10_number 51 = .ok (.iconst 2, 1) := by decide +kernel
theorem dX10_number_52 : decode cX10_number 52 = .ok (.aload_n 0, 1) := by decide +kernel
theorem dX10_number_53 : decode cX10_number 53 = .ok (.getfield 124, 3) := by decide +kernel
theorem dX10_number_56 : decode cX10_number 56 = .ok (.invokevirtual 144, 3) := by decide +kernel
theorem dX10_number_59 : decode cX10_number 59 = .ok (.aload_n 0, 1) := by decide +kernel
theorem dX10_number_60 : decode cX10_number 60 = .ok (.dup, 1) := by decide +kernel
theorem dX10_number_61 : decode cX10_number 61 = .ok (.getfield 124, 3) := by decide +kernel
theorem dX10_number_64 : decode cX10_number 64 = .ok (.iconst 1, 1) := by decide +kernel
theorem dX10_number_65 : decode cX10_number 65 = .ok (.iadd, 1) := by decide +kernel
theorem dX10_number_66 : decode cX10_number 66 = .ok (.putfield 124, 3) := by decide +kernel
theorem dX10_number_69 : decode cX10_number 69 = .ok (.aload_n 0, 1) := by decide +kernel
theorem dX10_number_70 : decode cX10_number 70 = .ok (.getfield 124, 3) := by decide +kernel
theorem dX10_number_73 : decode cX10_number 73 = .ok (.aload_n 0, 1) := by decide +kernel
theorem dX10_number_74 : decode cX10_number 74 = .ok (.getfield 127, 3) := by decide +kernel
theorem dX10_number_77 : decode cX10_number 77 = .ok (.if_icmp .ge 27, 3) := by decide +kernel
theorem dX10_number_80 : decode cX10_number 80 = .ok (.aload_n 0, 1) := by decide +kernel
theorem dX10_number_81 : decode cX10_number 81 = .ok (.getfield 7, 3) := by decide +kernel
theorem dX10_number_84 : decode cX10_number 84 = .ok (.aload_n 0, 1) := by decide +kernel
theorem dX10_number_85 : decode cX10_number 85 = .ok (.getfield 124, 3) := by decide +kernel
theorem dX10_number_88 : decode cX10_number 88 = .ok (.iaload, 1) := by decide +kernel
theorem dX10_number_89 : decode cX10_number 89 = .ok (.invokestatic 137, 3) := by decide +kernel
theorem dX10_number_92 : decode cX10_number 92 = .ok (.ifCond .eq 12, 3) := by decide +kernel
theorem dX10_number_95 : decode cX10_number 95 = .ok (.aload_n 0, 1) := by decide +kernel
theorem dX10_number_96 : decode cX10_number 96 = .ok (.iconst 1, 1) := by decide +kernel
theorem dX10_number_97 : decode cX10_number 97 = .ok (.aload_n 0, 1) := by decide +kernel
theorem dX10_number_98 : decode cX10_number 98 = .ok (.getfield 124, 3) := by decide +kernel
theorem dX10_number_101 : decode cX10_number 101 = .ok (.invokevirtual 144, 3) := by decide +kernel
theorem dX10_number_104 : decode cX10_number 104 = .ok (.aload_n 0, 1) := by decide +kernel
theorem dX10_number_105 : decode cX10_number 105 = .ok (.aload_n 0, 1) := by decide +kernel
theorem dX10_number_106 : decode cX10_number 106 = .ok (.getfield 124, 3) := by decide +kernel
theorem dX10_number_109 : decode cX10_number 109 = .ok (.putfield 141, 3) := by decide +kernel
theorem dX10_number_112 : decode cX10_number 112 = .ok (.iload_n 2, 1) := by decide +kernel
theorem dX10_number_113 : decode cX10_number 113 = .ok (.ireturn, 1) := by decide +kernel
theorem dX10_isWord_0 : decode cX10_isWord 0 = .ok (.aload_n 0, 1) := by decide +kernel
theorem dX10_isWord_1 : decode cX10_isWord 1 = .ok (.invokevirtual 133, 3) := by decide +kernel
theorem dX10_isWord_4 : decode cX10_isWord 4 = .ok (.iconst (-1), 1) := by decide +kernel
theorem dX10_isWord_5 : decode cX10_isWord 5 = .ok (.if_icmp .eq 14, 3) := by decide +kernel
theorem dX10_isWord_8 : decode cX10_isWord 8 = .ok (.aload_n 0, 1) := by decide +kernel
theorem dX10_isWord_9 : decode cX10_isWord 9 = .ok (.getfield 124, 3) := by decide +kernel
theorem dX10_isWord_12 : decode cX10_isWord 12 = .ok (.aload_n 0, 1) := by decide +kernel
theorem dX10_isWord_13 : decode cX10_isWord 13 = .ok (.getfield 141, 3) := by decide +kernel
theorem dX10_isWord_16 : decode cX10_isWord 16 = .ok (.if_icmp .ne 5, 3) := by decide +kernel
theorem dX10_isWord_19 : decode cX10_isWord 19 = .ok (.iconst 0, 1) := by decide +kernel
theorem dX10_isWord_20 : decode cX10_isWord 20 = .ok (.ireturn, 1) := by decide +kernel
theorem dX10_isWord_21 : decode cX10_isWord 21 = .ok (.aload_n 0, 1) := by decide +kernel
theorem dX10_isWord_22 : decode cX10_isWord 22 = .ok (.getfield 124, 3) := by decide +kernel
theorem dX10_isWord_25 : decode cX10_isWord 25 = .ok (.istore_n 2, 1) := by decide +kernel
theorem dX10_isWord_26 : decode cX10_isWord 26 = .ok (.iload_n 2, 1) := by decide +kernel
theorem dX10_isWord_27 : decode cX10_isWord 27 = .ok (.aload_n 0, 1) := by decide +kernel
theorem dX10_isWord_28 : decode cX10_isWord 28 = .ok (.getfield 127, 3) := by decide +kernel
theorem dX10_isWord_31 : decode cX10_isWord 31 = .ok (.if_icmp .ge 21, 3) := by decide +kernel
theorem dX10_isWord_34 : decode cX10_isWord 34 = .ok (.aload_n 0, 1) := by decide +kernel
theorem dX10_isWord_35 : decode cX10_isWord 35 = .ok (.getfield 7, 3) := by decide +kernel
theorem dX10_isWord_38 : decode cX10_isWord 38 = .ok (.iload_n 2, 1) := by decide +kernel
theorem dX10_isWord_39 : decode cX10_isWord 39 = .ok (.iaload, 1) := by decide +kernel
theorem dX10_isWord_40 : decode cX10_isWord 40 = .ok (.invokestatic 148, 3) := by decide +kernel
theorem dX10_isWord_43 : decode cX10_isWord 43 = .ok (.ifCond .eq 9, 3) := by decide +kernel
theorem dX10_isWord_46 : decode cX10_isWord 46 = .ok (.iinc 2 1, 3) := by decide +kernel
theorem dX10_isWord_49 : decode cX10_isWord 49 = .ok (.goto (-23), 3) := by decide +kernel
theorem dX10_isWord_52 : decode cX10_isWord 52 = .ok (.iload_n 2, 1) := by decide +kernel
theorem dX10_isWord_53 : decode cX10_isWord 53 = .ok (.aload_n 0, 1) := by decide +kernel
theorem dX10_isWord_54 : decode cX10_isWord 54 = .ok (.getfield 124, 3) := by decide +kernel
theorem dX10_isWord_57 : decode cX10_isWord 57 = .ok (.isub, 1) := by decide +kernel
theorem dX10_isWord_58 : decode cX10_isWord 58 = .ok (.aload_n 1, 1) := by decide +kernel
theorem dX10_isWord_59 : decode cX10_isWord 59 = .ok (.arraylength, 1) := by decide +kernel
theorem dX10_isWord_60 : decode cX10_isWord 60 = .ok (.if_icmp .eq 5, 3) := by decide +kernel
theorem dX10_isWord_63 : decode cX10_isWord 63 = .ok (.iconst 0, 1) := by decide +kernel
theorem dX10_isWord_64 : decode cX10_isWord 64 = .ok (.ireturn, 1) := by decide +kernel
theorem dX10_isWord_65 : decode cX10_isWord 65 = .ok (.iconst 0, 1) := by decide +kernel
theorem dX10_isWord_66 : decode cX10_isWord 66 = .ok (.istore_n 3, 1) := by decide +kernel
theorem dX10_isWord_67 : decode cX10_isWord 67 = .ok (.iload_n 3, 1) := by decide +kernel
theorem dX10_isWord_68 : decode cX10_isWord 68 = .ok (.aload_n 1, 1) := by decide +kernel
theorem dX10_isWord_69 : decode cX10_isWord 69 = .ok (.arraylength, 1) := by decide +kernel
theorem dX10_isWord_70 : decode cX10_isWord 70 = .ok (.if_icmp .ge 28, 3) := by decide +kernel
theorem dX10_isWord_73 : decode cX10_isWord 73 = .ok (.aload_n 0, 1) := by decide +kernel
theorem dX10_isWord_74 : decode cX10_isWord 74 = .ok (.getfield 7, 3) := by decide +kernel
theorem dX10_isWord_77 : decode cX10_isWord 77 = .ok (.aload_n 0, 1) := by decide +kernel
theorem dX10_isWord_78 : decode cX10_isWord 78 = .ok (.getfield 124, 3) := by decide +kernel
theorem dX10_isWord_81 : decode cX10_isWord 81 = .ok (.iload_n 3, 1) := by decide +kernel
theorem dX10_isWord_82 : decode cX10_isWord 82 = .ok (.iadd, 1) := by decide +kernel
theorem dX10_isWord_83 : decode cX10_isWord 83 = .ok (.iaload, 1) := by decide +kernel
theorem dX10_isWord_84 : decode cX10_isWord 84 = .ok (.aload_n 1, 1) := by decide +kernel
theorem dX10_isWord_85 : decode cX10_isWord 85 = .ok (.iload_n 3, 1) := by decide +kernel
theorem dX10_isWord_86 : decode cX10_isWord 86 = .ok (.caload, 1) := by decide +kernel
theorem dX10_isWord_87 : decode cX10_isWord 87 = .ok (.if_icmp .eq 5, 3) := by decide +kernel
theorem dX10_isWord_90 : decode cX10_isWord 90 = .ok (.iconst 0, 1) := by decide +kernel
theorem dX10_isWord_91 : decode cX10_isWord 91 = .ok (.ireturn, 1) := by decide +kernel
theorem dX10_isWord_92 : decode cX10_isWord 92 = .ok (.iinc 3 1, 3) := by decide +kernel
theorem dX10_isWord_95 : decode cX10_isWord 95 = .ok (.goto (-28), 3) := by decide +kernel
theorem dX10_isWord_98 : decode cX10_isWord 98 = .ok (.aload_n 0, 1) := by decide +kernel
theorem dX10_isWord_99 : decode cX10_isWord 99 = .ok (.iload_n 2, 1) := by decide +kernel
theorem dX10_isWord_100 : decode cX10_isWord 100 = .ok (.putfield 124, 3) := by decide +kernel
theorem dX10_isWord_103 : decode cX10_isWord 103 = .ok (.aload_n 0, 1) := by decide +kernel
theorem dX10_isWord_104 : decode cX10_isWord 104 = .ok (.iload_n 2, 1) := by decide +kernel
theorem dX10_isWord_105 : decode cX10_isWord 105 = .ok (.putfield 141, 3) := by decide +kernel
theorem dX10_isWord_108 : decode cX10_isWord 108 = .ok (.iconst 1, 1) := by decide +kernel
theorem dX10_isWord_109 : decode cX10_isWord 109 = .ok (.ireturn, 1) := by decide +kernel
theorem dX10_cell_0 : decode cX10_cell 0 = .ok (.iload_n 2, 1) := by decide +kernel
theorem dX10_cell_1 : decode cX10_cell 1 = .ok (.bipush 8, 2) := by decide +kernel
theorem dX10_cell_3 : decode cX10_cell 3 = .ok (.imul, 1) := by decide +kernel
theorem dX10_cell_4 : decode cX10_cell 4 = .ok (.iload_n 1, 1) := by decide +kernel
theorem dX10_cell_5 : decode cX10_cell 5 = .ok (.iadd, 1) := by decide +kernel
theorem dX10_cell_6 : decode cX10_cell 6 = .ok (.bipush 8, 2) := by decide +kernel
theorem dX10_cell_8 : decode cX10_cell 8 = .ok (.imul, 1) := by decide +kernel
theorem dX10_cell_9 : decode cX10_cell 9 = .ok (.iload_n 0, 1) := by decide +kernel
theorem dX10_cell_10 : decode cX10_cell 10 = .ok (.iadd, 1) := by decide +kernel
theorem dX10_cell_11 : decode cX10_cell 11 = .ok (.ireturn, 1) := by decide +kernel
theorem dX10_boxes_0 : decode cX10_boxes 0 = .ok (.iconst 0, 1) := by decide +kernel
theorem dX10_boxes_1 : decode cX10_boxes 1 = .ok (.istore_n 2, 1) := by decide +kernel
theorem dX10_boxes_2 : decode cX10_boxes 2 = .ok (.iload_n 2, 1) := by decide +kernel
theorem dX10_boxes_3 : decode cX10_boxes 3 = .ok (.bipush 6, 2) := by decide +kernel
theorem dX10_boxes_5 : decode cX10_boxes 5 = .ok (.if_icmp .ge 36, 3) := by decide +kernel
theorem dX10_boxes_8 : decode cX10_boxes 8 = .ok (.aload_n 0, 1) := by decide +kernel
theorem dX10_boxes_9 : decode cX10_boxes 9 = .ok (.getfield 118, 3) := by decide +kernel
theorem dX10_boxes_12 : decode cX10_boxes 12 = .ok (.ifCond .ne 29, 3) := by decide +kernel
theorem dX10_boxes_15 : decode cX10_boxes 15 = .ok (.aload_n 0, 1) := by decide +kernel
theorem dX10_boxes_16 : decode cX10_boxes 16 = .ok (.getfield 37, 3) := by decide +kernel
theorem dX10_boxes_19 : decode cX10_boxes 19 = .ok (.iload_n 2, 1) := by decide +kernel
theorem dX10_boxes_20 : decode cX10_boxes 20 = .ok (.aload_n 0, 1) := by decide +kernel
theorem dX10_boxes_21 : decode cX10_boxes 21 = .ok (.iload_n 2, 1) := by decide +kernel
theorem dX10_boxes_22 : decode cX10_boxes 22 = .ok (.iconst 2, 1) := by decide +kernel
theorem dX10_boxes_23 : decode cX10_boxes 23 = .ok (.if_icmp .le 7, 3) := by decide +kernel
theorem dX10_boxes_26 : decode cX10_boxes 26 = .ok (.iconst 1, 1) := by decide +kernel
theorem dX10_boxes_27 : decode cX10_boxes 27 = .ok (.goto 4, 3) := by decide +kernel
theorem dX10_boxes_30 : decode cX10_boxes 30 = .ok (.iconst 0, 1) := by decide +kernel
theorem dX10_boxes_31 : decode cX10_boxes 31 = .ok (.invokevirtual 151, 3) := by decide +kernel
theorem dX10_boxes_34 : decode cX10_boxes 34 = .ok (.iastore, 1) := by decide +kernel
theorem dX10_boxes_35 : decode cX10_boxes 35 = .ok (.iinc 2 1, 3) := by decide +kernel
theorem dX10_boxes_38 : decode cX10_boxes 38 = .ok (.goto (-36), 3) := by decide +kernel
theorem dX10_boxes_41 : decode cX10_boxes 41 = .ok (.aload_n 0, 1) := by decide +kernel
theorem dX10_boxes_42 : decode cX10_boxes 42 = .ok (.getfield 118, 3) := by decide +kernel
theorem dX10_boxes_45 : decode cX10_boxes 45 = .ok (.ifCond .eq 4, 3) := by decide +kernel
theorem dX10_boxes_48 : decode cX10_boxes 48 = .ok (.return_, 1) := by decide +kernel
theorem dX10_boxes_49 : decode cX10_boxes 49 = .ok (.aload_n 0, 1) := by decide +kernel
theorem dX10_boxes_50 : decode cX10_boxes 50 = .ok (.getfield 37, 3) := by decide +kernel
theorem dX10_boxes_53 : decode cX10_boxes 53 = .ok (.iconst 2, 1) := by decide +kernel
theorem dX10_boxes_54 : decode cX10_boxes 54 = .ok (.iaload, 1) := by decide +kernel
theorem dX10_boxes_55 : decode cX10_boxes 55 = .ok (.istore_n 2, 1) := by decide +kernel
theorem dX10_boxes_56 : decode cX10_boxes 56 = .ok (.iload_n 2, 1) := by decide +kernel
theorem dX10_boxes_57 : decode cX10_boxes 57 = .ok (.aload_n 0, 1) := by decide +kernel
theorem dX10_boxes_58 : decode cX10_boxes 58 = .ok (.getfield 37, 3) := by decide +kernel
theorem dX10_boxes_61 : decode cX10_boxes 61 = .ok (.iconst 2, 1) := by decide +kernel
theorem dX10_boxes_62 : decode cX10_boxes 62 = .ok (.iaload, 1) := by decide +kernel
theorem dX10_boxes_63 : decode cX10_boxes 63 = .ok (.aload_n 0, 1) := by decide +kernel
theorem dX10_boxes_64 : decode cX10_boxes 64 = .ok (.getfield 37, 3) := by decide +kernel
theorem dX10_boxes_67 : decode cX10_boxes 67 = .ok (.iconst 5, 1) := by decide +kernel
theorem dX10_boxes_68 : decode cX10_boxes 68 = .ok (.iaload, 1) := by decide +kernel
theorem dX10_boxes_69 : decode cX10_boxes 69 = .ok (.iadd, 1) := by decide +kernel
theorem dX10_boxes_70 : decode cX10_boxes 70 = .ok (.if_icmp .ge 109, 3) := by decide +kernel
theorem dX10_boxes_73 : decode cX10_boxes 73 = .ok (.iload_n 2, 1) := by decide +kernel
theorem dX10_boxes_74 : decode cX10_boxes 74 = .ok (.aload_n 0, 1) := by decide +kernel
theorem dX10_boxes_75 : decode cX10_boxes 75 = .ok (.getfield 155, 3) := by decide +kernel
theorem dX10_boxes_78 : decode cX10_boxes 78 = .ok (.if_icmp .ge 101, 3) := by decide +kernel
theorem dX10_boxes_81 : decode cX10_boxes 81 = .ok (.aload_n 0, 1) := by decide +kernel
theorem dX10_boxes_82 : decode cX10_boxes 82 = .ok (.getfield 37, 3) := by decide +kernel
theorem dX10_boxes_85 : decode cX10_boxes 85 = .ok (.iconst 1, 1) := by decide +kernel
theorem dX10_boxes_86 : decode cX10_boxes 86 = .ok (.iaload, 1) := by decide +kernel
theorem dX10_boxes_87 : decode cX10_boxes 87 = .ok (.istore_n 3, 1) := by decide +kernel
theorem dX10_boxes_88 : decode cX10_boxes 88 = .ok (.iload_n 3, 1) := by decide +kernel
theorem dX10_boxes_89 : decode cX10_boxes 89 = .ok (.aload_n 0, 1) := by decide +kernel
theorem dX10_boxes_90 : decode cX10_boxes 90 = .ok (.getfield 37, 3) := by decide +kernel
theorem dX10_boxes_93 : decode cX10_boxes 93 = .ok (.iconst 1, 1) := by decide +kernel
theorem dX10_boxes_94 : decode cX10_boxes 94 = .ok (.iaload, 1) := by decide +kernel
theorem dX10_boxes_95 : decode cX10_boxes 95 = .ok (.aload_n 0, 1) := by decide +kernel
theorem dX10_boxes_96 : decode cX10_boxes 96 = .ok (.getfield 37, 3) := by decide +kernel
theorem dX10_boxes_99 : decode cX10_boxes 99 = .ok (.iconst 4, 1) := by decide +kernel
theorem dX10_boxes_100 : decode cX10_boxes 100 = .ok (.iaload, 1) := by decide +kernel
theorem dX10_boxes_101 : decode cX10_boxes 101 = .ok (.iadd, 1) := by decide +kernel
theorem dX10_boxes_102 : decode cX10_boxes 102 = .ok (.if_icmp .ge 71, 3) := by decide +kernel
theorem dX10_boxes_105 : decode cX10_boxes 105 = .ok (.iload_n 3, 1) := by decide +kernel
theorem dX10_boxes_106 : decode cX10_boxes 106 = .ok (.aload_n 0, 1) := by decide +kernel
theorem dX10_boxes_107 : decode cX10_boxes 107 = .ok (.getfield 158, 3) := by decide +kernel
theorem dX10_boxes_110 : decode cX10_boxes 110 = .ok (.if_icmp .ge 63, 3) := by decide +kernel
theorem dX10_boxes_113 : decode cX10_boxes 113 = .ok (.aload_n 0, 1) := by decide +kernel
theorem dX10_boxes_114 : decode cX10_boxes 114 = .ok (.getfield 37, 3) := by decide +kernel
theorem dX10_boxes_117 : decode cX10_boxes 117 = .ok (.iconst 0, 1) := by decide +kernel
theorem dX10_boxes_118 : decode cX10_boxes 118 = .ok (.iaload, 1) := by decide +kernel
theorem dX10_boxes_119 : decode cX10_boxes 119 = .ok (.istore 4, 2) := by decide +kernel
theorem dX10_boxes_121 : decode cX10_boxes 121 = .ok (.iload 4, 2) := by decide +kernel
theorem dX10_boxes_123 : decode cX10_boxes 123 = .ok (.aload_n 0, 1) := by decide +kernel
theorem dX10_boxes_124 : decode cX10_boxes 124 = .ok (.getfield 37, 3) := by decide +kernel
theorem dX10_boxes_127 : decode cX10_boxes 127 = .ok (.iconst 0, 1) := by decide +kernel
theorem dX10_boxes_128 : decode cX10_boxes 128 = .ok (.iaload, 1) := by decide +kernel
theorem dX10_boxes_129 : decode cX10_boxes 129 = .ok (.aload_n 0, 1) := by decide +kernel
theorem dX10_boxes_130 : decode cX10_boxes 130 = .ok (.getfield 37, 3) := by decide +kernel
theorem dX10_boxes_133 : decode cX10_boxes 133 = .ok (.iconst 3, 1) := by decide +kernel
theorem dX10_boxes_134 : decode cX10_boxes 134 = .ok (.iaload, 1) := by decide +kernel
theorem dX10_boxes_135 : decode cX10_boxes 135 = .ok (.iadd, 1) := by decide +kernel
theorem dX10_boxes_136 : decode cX10_boxes 136 = .ok (.if_icmp .ge 31, 3) := by decide +kernel
theorem dX10_boxes_139 : decode cX10_boxes 139 = .ok (.iload 4, 2) := by decide +kernel
theorem dX10_boxes_141 : decode cX10_boxes 141 = .ok (.aload_n 0, 1) := by decide +kernel
theorem dX10_boxes_142 : decode cX10_boxes 142 = .ok (.getfield 161, 3) := by decide +kernel
theorem dX10_boxes_145 : decode cX10_boxes 145 = .ok (.if_icmp .ge 22, 3) := by decide +kernel
theorem dX10_boxes_148 : decode cX10_boxes 148 = .ok (.aload_n 0, 1) := by decide +kernel
theorem dX10_boxes_149 : decode cX10_boxes 149 = .ok (.getfield 30, 3) := by decide +kernel
theorem dX10_boxes_152 : decode cX10_boxes 152 = .ok (.iload 4, 2) := by decide +kernel
theorem dX10_boxes_154 : decode cX10_boxes 154 = .ok (.iload_n 3, 1) := by decide +kernel
theorem dX10_boxes_155 : decode cX10_boxes 155 = .ok (.iload_n 2, 1) := by decide +kernel
theorem dX10_boxes_156 : decode cX10_boxes 156 = .ok (.invokestatic 164, 3) := by decide +kernel
theorem dX10_boxes_159 : decode cX10_boxes 159 = .ok (.iload_n 1, 1) := by decide +kernel
theorem dX10_boxes_160 : decode cX10_boxes 160 = .ok (.bastore, 1) := by decide +kernel
theorem dX10_boxes_161 : decode cX10_boxes 161 = .ok (.iinc 4 1, 3) := by decide +kernel
theorem dX10_boxes_164 : decode cX10_boxes 164 = .ok (.goto (-43), 3) := by decide +kernel
theorem dX10_boxes_167 : decode cX10_boxes 167 = .ok (.iinc 3 1, 3) := by decide +kernel
theorem dX10_boxes_170 : decode cX10_boxes 170 = .ok (.goto (-82), 3) := by decide +kernel
theorem dX10_boxes_173 : decode cX10_boxes 173 = .ok (.iinc 2 1, 3) := by decide +kernel
theorem dX10_boxes_176 : decode cX10_boxes 176 = .ok (.goto (-120), 3) := by decide +kernel
theorem dX10_boxes_179 : decode cX10_boxes 179 = .ok (.return_, 1) := by decide +kernel
theorem dX10_mirrors_0 : decode cX10_mirrors 0 = .ok (.aload_n 0, 1) := by decide +kernel
theorem dX10_mirrors_1 : decode cX10_mirrors 1 = .ok (.invokevirtual 133, 3) := by decide +kernel
theorem dX10_mirrors_4 : decode cX10_mirrors 4 = .ok (.istore_n 1, 1) := by decide +kernel
theorem dX10_mirrors_5 : decode cX10_mirrors 5 = .ok (.iload_n 1, 1) := by decide +kernel
theorem dX10_mirrors_6 : decode cX10_mirrors 6 = .ok (.bipush 120, 2) := by decide +kernel
theorem dX10_mirrors_8 : decode cX10_mirrors 8 = .ok (.if_icmp .eq 15, 3) := by decide +kernel
theorem dX10_mirrors_11 : decode cX10_mirrors 11 = .ok (.iload_n 1, 1) := by decide +kernel
theorem dX10_mirrors_12 : decode cX10_mirrors 12 = .ok (.bipush 121, 2) := by decide +kernel
theorem dX10_mirrors_14 : decode cX10_mirrors 14 = .ok (.if_icmp .eq 9, 3) := by decide +kernel
theorem dX10_mirrors_17 : decode cX10_mirrors 17 = .ok (.iload_n 1, 1) := by decide +kernel
theorem dX10_mirrors_18 : decode cX10_mirrors 18 = .ok (.bipush 122, 2) := by decide +kernel
theorem dX10_mirrors_20 : decode cX10_mirrors 20 = .ok (.if_icmp .ne 44, 3) := by decide +kernel
theorem dX10_mirrors_23 : decode cX10_mirrors 23 = .ok (.aload_n 0, 1) := by decide +kernel
theorem dX10_mirrors_24 : decode cX10_mirrors 24 = .ok (.getfield 124, 3) := by decide +kernel
theorem dX10_mirrors_27 : decode cX10_mirrors 27 = .ok (.aload_n 0, 1) := by decide +kernel
theorem dX10_mirrors_28 : decode cX10_mirrors 28 = .ok (.getfield 141, 3) := by decide +kernel
theorem dX10_mirrors_31 : decode cX10_mirrors 31 = .ok (.if_icmp .eq 33, 3) := by decide +kernel
theorem dX10_mirrors_34 : decode cX10_mirrors 34 = .ok (.aload_n 0, 1) := by decide +kernel
theorem dX10_mirrors_35 : decode cX10_mirrors 35 = .ok (.getfield 124, 3) := by decide +kernel
theorem dX10_mirrors_38 : decode cX10_mirrors 38 = .ok (.iconst 1, 1) := by decide +kernel
theorem dX10_mirrors_39 : decode cX10_mirrors 39 = .ok (.iadd, 1) := by decide +kernel
theorem dX10_mirrors_40 : decode cX10_mirrors 40 = .ok (.aload_n 0, 1) := by decide +kernel
theorem dX10_mirrors_41 : decode cX10_mirrors 41 = .ok (.getfield 127, 3) := by decide +kernel
theorem dX10_mirrors_44 : decode cX10_mirrors 44 = .ok (.if_icmp .ge 30, 3) := by decide +kernel
theorem dX10_mirrors_47 : decode cX10_mirrors 47 = .ok (.aload_n 0, 1) := by decide +kernel
theorem dX10_mirrors_48 : decode cX10_mirrors 48 = .ok (.getfield 7, 3) := by decide +kernel
theorem dX10_mirrors_51 : decode cX10_mirrors 51 = .ok (.aload_n 0, 1) := by decide +kernel
theorem dX10_mirrors_52 : decode cX10_mirrors 52 = .ok (.getfield 124, 3) := by decide +kernel
theorem dX10_mirrors_55 : decode cX10_mirrors 55 = .ok (.iconst 1, 1) := by decide +kernel
theorem dX10_mirrors_56 : decode cX10_mirrors 56 = .ok (.iadd, 1) := by decide +kernel
theorem dX10_mirrors_57 : decode cX10_mirrors 57 = .ok (.iaload, 1) := by decide +kernel
theorem dX10_mirrors_58 : decode cX10_mirrors 58 = .ok (.invokestatic 148, 3) := by decide +kernel
theorem dX10_mirrors_61 : decode cX10_mirrors 61 = .ok (.ifCond .eq 13, 3) := by decide +kernel
theorem dX10_mirrors_64 : decode cX10_mirrors 64 = .ok (.aload_n 0, 1) := by decide +kernel
theorem dX10_mirrors_65 : decode cX10_mirrors 65 = .ok (.iconst 1, 1) := by decide +kernel
theorem dX10_mirrors_66 : decode cX10_mirrors 66 = .ok (.aload_n 0, 1) := by decide +kernel
theorem dX10_mirrors_67 : decode cX10_mirrors 67 = .ok (.getfield 124, 3) := by decide +kernel
theorem dX10_mirrors_70 : decode cX10_mirrors 70 = .ok (.invokevirtual 144, 3) := by decide +kernel
theorem dX10_mirrors_73 : decode cX10_mirrors 73 = .ok (.return_, 1) := by decide +kernel
theorem dX10_mirrors_74 : decode cX10_mirrors 74 = .ok (.aload_n 0, 1) := by decide +kernel
theorem dX10_mirrors_75 : decode cX10_mirrors 75 = .ok (.dup, 1) := by decide +kernel
theorem dX10_mirrors_76 : decode cX10_mirrors 76 = .ok (.getfield 124, 3) := by decide +kernel
theorem dX10_mirrors_79 : decode cX10_mirrors 79 = .ok (.iconst 1, 1) := by decide +kernel
theorem dX10_mirrors_80 : decode cX10_mirrors 80 = .ok (.iadd, 1) := by decide +kernel
theorem dX10_mirrors_81 : decode cX10_mirrors 81 = .ok (.putfield 124, 3) := by decide +kernel
theorem dX10_mirrors_84 : decode cX10_mirrors 84 = .ok (.aload_n 0, 1) := by decide +kernel
theorem dX10_mirrors_85 : decode cX10_mirrors 85 = .ok (.aload_n 0, 1) := by decide +kernel
theorem dX10_mirrors_86 : decode cX10_mirrors 86 = .ok (.getfield 124, 3) := by decide +kernel
theorem dX10_mirrors_89 : decode cX10_mirrors 89 = .ok (.putfield 141, 3) := by decide +kernel
theorem dX10_mirrors_92 : decode cX10_mirrors 92 = .ok (.iconst 0, 1) := by decide +kernel
theorem dX10_mirrors_93 : decode cX10_mirrors 93 = .ok (.istore_n 2, 1) := by decide +kernel
theorem dX10_mirrors_94 : decode cX10_mirrors 94 = .ok (.iload_n 2, 1) := by decide +kernel
theorem dX10_mirrors_95 : decode cX10_mirrors 95 = .ok (.sipush 512, 3) := by decide +kernel
theorem dX10_mirrors_98 : decode cX10_mirrors 98 = .ok (.if_icmp .ge 21, 3) := by decide +kernel
theorem dX10_mirrors_101 : decode cX10_mirrors 101 = .ok (.aload_n 0, 1) := by decide +kernel
theorem dX10_mirrors_102 : decode cX10_mirrors 102 = .ok (.getfield 34, 3) := by decide +kernel
theorem dX10_mirrors_105 : decode cX10_mirrors 105 = .ok (.iload_n 2, 1) := by decide +kernel
theorem dX10_mirrors_106 : decode cX10_mirrors 106 = .ok (.aload_n 0, 1) := by decide +kernel
theorem dX10_mirrors_107 : decode cX10_mirrors 107 = .ok (.getfield 30, 3) := by decide +kernel
theorem dX10_mirrors_110 : decode cX10_mirrors 110 = .ok (.iload_n 2, 1) := by decide +kernel
theorem dX10_mirrors_111 : decode cX10_mirrors 111 = .ok (.baload, 1) := by decide +kernel
theorem dX10_mirrors_112 : decode cX10_mirrors 112 = .ok (.bastore, 1) := by decide +kernel
theorem dX10_mirrors_113 : decode cX10_mirrors 113 = .ok (.iinc 2 1, 3) := by decide +kernel
theorem dX10_mirrors_116 : decode cX10_mirrors 116 = .ok (.goto (-22), 3) := by decide +kernel
theorem dX10_mirrors_119 : decode cX10_mirrors 119 = .ok (.iconst 0, 1) := by decide +kernel
theorem dX10_mirrors_120 : decode cX10_mirrors 120 = .ok (.istore_n 2, 1) := by decide +kernel
theorem dX10_mirrors_121 : decode cX10_mirrors 121 = .ok (.iload_n 2, 1) := by decide +kernel
theorem dX10_mirrors_122 : decode cX10_mirrors 122 = .ok (.aload_n 0, 1) := by decide +kernel
theorem dX10_mirrors_123 : decode cX10_mirrors 123 = .ok (.getfield 155, 3) := by decide +kernel
theorem dX10_mirrors_126 : decode cX10_mirrors 126 = .ok (.if_icmp .ge 126, 3) := by decide +kernel
theorem dX10_mirrors_129 : decode cX10_mirrors 129 = .ok (.iconst 0, 1) := by decide +kernel
theorem dX10_mirrors_130 : decode cX10_mirrors 130 = .ok (.istore_n 3, 1) := by decide +kernel
theorem dX10_mirrors_131 : decode cX10_mirrors 131 = .ok (.iload_n 3, 1) := by decide +kernel
theorem dX10_mirrors_132 : decode cX10_mirrors 132 = .ok (.aload_n 0, 1) := by decide +kernel
theorem dX10_mirrors_133 : decode cX10_mirrors 133 = .ok (.getfield 158, 3) := by decide +kernel
theorem dX10_mirrors_136 : decode cX10_mirrors 136 = .ok (.if_icmp .ge 110, 3) := by decide +kernel
theorem dX10_mirrors_139 : decode cX10_mirrors 139 = .ok (.iconst 0, 1) := by decide +kernel
theorem dX10_mirrors_140 : decode cX10_mirrors 140 = .ok (.istore 4, 2) := by decide +kernel
theorem dX10_mirrors_142 : decode cX10_mirrors 142 = .ok (.iload 4, 2) := by decide +kernel
theorem dX10_mirrors_144 : decode cX10_mirrors 144 = .ok (.aload_n 0, 1) := by decide +kernel
theorem dX10_mirrors_145 : decode cX10_mirrors 145 = .ok (.getfield 161, 3) := by decide +kernel
theorem dX10_mirrors_148 : decode cX10_mirrors 148 = .ok (.if_icmp .ge 92, 3) := by decide +kernel
theorem dX10_mirrors_151 : decode cX10_mirrors 151 = .ok (.aload_n 0, 1) := by decide +kernel
theorem dX10_mirrors_152 : decode cX10_mirrors 152 = .ok (.getfield 34, 3) := by decide +kernel
theorem dX10_mirrors_155 : decode cX10_mirrors 155 = .ok (.iload 4, 2) := by decide +kernel
theorem dX10_mirrors_157 : decode cX10_mirrors 157 = .ok (.iload_n 3, 1) := by decide +kernel
theorem dX10_mirrors_158 : decode cX10_mirrors 158 = .ok (.iload_n 2, 1) := by decide +kernel
theorem dX10_mirrors_159 : decode cX10_mirrors 159 = .ok (.invokestatic 164, 3) := by decide +kernel
theorem dX10_mirrors_162 : decode cX10_mirrors 162 = .ok (.baload, 1) := by decide +kernel
theorem dX10_mirrors_163 : decode cX10_mirrors 163 = .ok (.ifCond .ne 6, 3) := by decide +kernel
theorem dX10_mirrors_166 : decode cX10_mirrors 166 = .ok (.goto 68, 3) := by decide +kernel
theorem dX10_mirrors_169 : decode cX10_mirrors 169 = .ok (.aload_n 0, 1) := by decide +kernel
theorem dX10_mirrors_170 : decode cX10_mirrors 170 = .ok (.getfield 30, 3) := by decide +kernel
theorem dX10_mirrors_173 : decode cX10_mirrors 173 = .ok (.iload_n 1, 1) := by decide +kernel
theorem dX10_mirrors_174 : decode cX10_mirrors 174 = .ok (.bipush 120, 2) := by decide +kernel
theorem dX10_mirrors_176 : decode cX10_mirrors 176 = .ok (.if_icmp .ne 15, 3) := by decide +kernel
theorem dX10_mirrors_179 : decode cX10_mirrors 179 = .ok (.aload_n 0, 1) := by decide +kernel
theorem dX10_mirrors_180 : decode cX10_mirrors 180 = .ok (.getfield 161, 3) := by decide +kernel
theorem dX10_mirrors_183 : decode cX10_mirrors 183 = .ok (.iconst 1, 1) := by decide +kernel
theorem dX10_mirrors_184 : decode cX10_mirrors 184 = .ok (.isub, 1) := by decide +kernel
theorem dX10_mirrors_185 : decode cX10_mirrors 185 = .ok (.iload 4, 2) := by decide +kernel
theorem dX10_mirrors_187 : decode cX10_mirrors 187 = .ok (.isub, 1) := by decide +kernel
theorem dX10_mirrors_188 : decode cX10_mirrors 188 = .ok (.goto 5, 3) := by decide +kernel
theorem dX10_mirrors_191 : decode cX10_mirrors 191 = .ok (.iload 4, 2) := by decide +kernel
theorem dX10_mirrors_193 : decode cX10_mirrors 193 = .ok (.iload_n 1, 1) := by decide +kernel
theorem dX10_mirrors_194 : decode cX10_mirrors 194 = .ok (.bipush 121, 2) := by decide +kernel
theorem dX10_mirrors_196 : decode cX10_mirrors 196 = .ok (.if_icmp .ne 14, 3) := by decide +kernel
theorem dX10_mirrors_199 : decode cX10_mirrors 199 = .ok (.aload_n 0, 1) := by decide +kernel
theorem dX10_mirrors_200 : decode cX10_mirrors 200 = .ok (.getfield 158, 3) := by decide +kernel
theorem dX10_mirrors_203 : decode cX10_mirrors 203 = .ok (.iconst 1, 1) := by decide +kernel
theorem dX10_mirrors_204 : decode cX10_mirrors 204 = .ok (.isub, 1) := by decide +kernel
theorem dX10_mirrors_205 : decode cX10_mirrors 205 = .ok (.iload_n 3, 1) := by decide +kernel
theorem dX10_mirrors_206 : decode cX10_mirrors 206 = .ok (.isub, 1) := by decide +kernel
theorem dX10_mirrors_207 : decode cX10_mirrors 207 = .ok (.goto 4, 3) := by decide +kernel
theorem dX10_mirrors_210 : decode cX10_mirrors 210 = .ok (.iload_n 3, 1) := by decide +kernel
theorem dX10_mirrors_211 : decode cX10_mirrors 211 = .ok (.iload_n 1, 1) := by decide +kernel
theorem dX10_mirrors_212 : decode cX10_mirrors 212 = .ok (.bipush 122, 2) := by decide +kernel
theorem dX10_mirrors_214 : decode cX10_mirrors 214 = .ok (.if_icmp .ne 14, 3) := by decide +kernel
theorem dX10_mirrors_217 : decode cX10_mirrors 217 = .ok (.aload_n 0, 1) := by decide +kernel
theorem dX10_mirrors_218 : decode cX10_mirrors 218 = .ok (.getfield 155, 3) := by decide +kernel
theorem dX10_mirrors_221 : decode cX10_mirrors 221 = .ok (.iconst 1, 1) := by decide +kernel
theorem dX10_mirrors_222 : decode cX10_mirrors 222 = .ok (.isub, 1) := by decide +kernel
theorem dX10_mirrors_223 : decode cX10_mirrors 223 = .ok (.iload_n 2, 1) := by decide +kernel
theorem dX10_mirrors_224 : decode cX10_mirrors 224 = .ok (.isub, 1) := by decide +kernel
theorem dX10_mirrors_225 : decode cX10_mirrors 225 = .ok (.goto 4, 3) := by decide +kernel
theorem dX10_mirrors_228 : decode cX10_mirrors 228 = .ok (.iload_n 2, 1) := by decide +kernel
theorem dX10_mirrors_229 : decode cX10_mirrors 229 = .ok (.invokestatic 164, 3) := by decide +kernel
theorem dX10_mirrors_232 : decode cX10_mirrors 232 = .ok (.iconst 1, 1) := by decide +kernel
theorem dX10_mirrors_233 : decode cX10_mirrors 233 = .ok (.bastore, 1) := by decide +kernel
theorem dX10_mirrors_234 : decode cX10_mirrors 234 = .ok (.iinc 4 1, 3) := by decide +kernel
theorem dX10_mirrors_237 : decode cX10_mirrors 237 = .ok (.goto (-95), 3) := by decide +kernel
theorem dX10_mirrors_240 : decode cX10_mirrors 240 = .ok (.iinc 3 1, 3) := by decide +kernel
theorem dX10_mirrors_243 : decode cX10_mirrors 243 = .ok (.goto (-112), 3) := by decide +kernel
theorem dX10_mirrors_246 : decode cX10_mirrors 246 = .ok (.iinc 2 1, 3) := by decide +kernel
theorem dX10_mirrors_249 : decode cX10_mirrors 249 = .ok (.goto (-128), 3) := by decide +kernel
theorem dX10_mirrors_252 : decode cX10_mirrors 252 = .ok (.return_, 1) := by decide +kernel
theorem dX10_turns_0 : decode cX10_turns 0 = .ok (.aload_n 0, 1) := by decide +kernel
theorem dX10_turns_1 : decode cX10_turns 1 = .ok (.getfield 161, 3) := by decide +kernel
theorem dX10_turns_4 : decode cX10_turns 4 = .ok (.aload_n 0, 1) := by decide +kernel
theorem dX10_turns_5 : decode cX10_turns 5 = .ok (.getfield 158, 3) := by decide +kernel
theorem dX10_turns_8 : decode cX10_turns 8 = .ok (.if_icmp .eq 10, 3) := by decide +kernel
theorem dX10_turns_11 : decode cX10_turns 11 = .ok (.aload_n 0, 1) := by decide +kernel
theorem dX10_turns_12 : decode cX10_turns 12 = .ok (.iconst 2, 1) := by decide +kernel
theorem dX10_turns_13 : decode cX10_turns 13 = .ok (.iload_n 1, 1) := by decide +kernel
theorem dX10_turns_14 : decode cX10_turns 14 = .ok (.invokevirtual 144, 3) := by decide +kernel
theorem dX10_turns_17 : decode cX10_turns 17 = .ok (.return_, 1) := by decide +kernel
theorem dX10_turns_18 : decode cX10_turns 18 = .ok (.iconst 0, 1) := by decide +kernel
theorem dX10_turns_19 : decode cX10_turns 19 = .ok (.istore_n 2, 1) := by decide +kernel
theorem dX10_turns_20 : decode cX10_turns 20 = .ok (.iload_n 2, 1) := by decide +kernel
theorem dX10_turns_21 : decode cX10_turns 21 = .ok (.sipush 512, 3) := by decide +kernel
theorem dX10_turns_24 : decode cX10_turns 24 = .ok (.if_icmp .ge 21, 3) := by decide +kernel
theorem dX10_turns_27 : decode cX10_turns 27 = .ok (.aload_n 0, 1) := by decide +kernel
theorem dX10_turns_28 : decode cX10_turns 28 = .ok (.getfield 34, 3) := by decide +kernel
theorem dX10_turns_31 : decode cX10_turns 31 = .ok (.iload_n 2, 1) := by decide +kernel
theorem dX10_turns_32 : decode cX10_turns 32 = .ok (.aload_n 0, 1) := by decide +kernel
theorem dX10_turns_33 : decode cX10_turns 33 = .ok (.getfield 30, 3) := by decide +kernel
theorem dX10_turns_36 : decode cX10_turns 36 = .ok (.iload_n 2, 1) := by decide +kernel
theorem dX10_turns_37 : decode cX10_turns 37 = .ok (.baload, 1) := by decide +kernel
theorem dX10_turns_38 : decode cX10_turns 38 = .ok (.bastore, 1) := by decide +kernel
theorem dX10_turns_39 : decode cX10_turns 39 = .ok (.iinc 2 1, 3) := by decide +kernel
theorem dX10_turns_42 : decode cX10_turns 42 = .ok (.goto (-22), 3) := by decide +kernel
theorem dX10_turns_45 : decode cX10_turns 45 = .ok (.iconst 0, 1) := by decide +kernel
theorem dX10_turns_46 : decode cX10_turns 46 = .ok (.istore_n 2, 1) := by decide +kernel
theorem dX10_turns_47 : decode cX10_turns 47 = .ok (.iload_n 2, 1) := by decide +kernel
theorem dX10_turns_48 : decode cX10_turns 48 = .ok (.aload_n 0, 1) := by decide +kernel
theorem dX10_turns_49 : decode cX10_turns 49 = .ok (.getfield 155, 3) := by decide +kernel
theorem dX10_turns_52 : decode cX10_turns 52 = .ok (.if_icmp .ge 74, 3) := by decide +kernel
theorem dX10_turns_55 : decode cX10_turns 55 = .ok (.iconst 0, 1) := by decide +kernel
theorem dX10_turns_56 : decode cX10_turns 56 = .ok (.istore_n 3, 1) := by decide +kernel
theorem dX10_turns_57 : decode cX10_turns 57 = .ok (.iload_n 3, 1) := by decide +kernel
theorem dX10_turns_58 : decode cX10_turns 58 = .ok (.aload_n 0, 1) := by decide +kernel
theorem dX10_turns_59 : decode cX10_turns 59 = .ok (.getfield 158, 3) := by decide +kernel
theorem dX10_turns_62 : decode cX10_turns 62 = .ok (.if_icmp .ge 58, 3) := by decide +kernel
theorem dX10_turns_65 : decode cX10_turns 65 = .ok (.iconst 0, 1) := by decide +kernel
theorem dX10_turns_66 : decode cX10_turns 66 = .ok (.istore 4, 2) := by decide +kernel
theorem dX10_turns_68 : decode cX10_turns 68 = .ok (.iload 4, 2) := by decide +kernel
theorem dX10_turns_70 : decode cX10_turns 70 = .ok (.aload_n 0, 1) := by decide +kernel
theorem dX10_turns_71 : decode cX10_turns 71 = .ok (.getfield 161, 3) := by decide +kernel
theorem dX10_turns_74 : decode cX10_turns 74 = .ok (.if_icmp .ge 40, 3) := by decide +kernel
theorem dX10_turns_77 : decode cX10_turns 77 = .ok (.aload_n 0, 1) := by decide +kernel
theorem dX10_turns_78 : decode cX10_turns 78 = .ok (.getfield 30, 3) := by decide +kernel
theorem dX10_turns_81 : decode cX10_turns 81 = .ok (.iload_n 3, 1) := by decide +kernel
theorem dX10_turns_82 : decode cX10_turns 82 = .ok (.aload_n 0, 1) := by decide +kernel
theorem dX10_turns_83 : decode cX10_turns 83 = .ok (.getfield 161, 3) := by decide +kernel
theorem dX10_turns_86 : decode cX10_turns 86 = .ok (.iconst 1, 1) := by decide +kernel
theorem dX10_turns_87 : decode cX10_turns 87 = .ok (.isub, 1) := by decide +kernel
theorem dX10_turns_88 : decode cX10_turns 88 = .ok (.iload 4, 2) := by decide +kernel
theorem dX10_turns_90 : decode cX10_turns 90 = .ok (.isub, 1) := by decide +kernel
theorem dX10_turns_91 : decode cX10_turns 91 = .ok (.iload_n 2, 1) := by decide +kernel
theorem dX10_turns_92 : decode cX10_turns 92 = .ok (.invokestatic 164, 3) := by decide +kernel
theorem dX10_turns_95 : decode cX10_turns 95 = .ok (.aload_n 0, 1) := by decide +kernel
theorem dX10_turns_96 : decode cX10_turns 96 = .ok (.getfield 34, 3) := by decide +kernel
theorem dX10_turns_99 : decode cX10_turns 99 = .ok (.iload 4, 2) := by decide +kernel
theorem dX10_turns_101 : decode cX10_turns 101 = .ok (.iload_n 3, 1) := by decide +kernel
theorem dX10_turns_102 : decode cX10_turns 102 = .ok (.iload_n 2, 1) := by decide +kernel
theorem dX10_turns_103 : decode cX10_turns 103 = .ok (.invokestatic 164, 3) := by decide +kernel
theorem dX10_turns_106 : decode cX10_turns 106 = .ok (.baload, 1) := by decide +kernel
theorem dX10_turns_107 : decode cX10_turns 107 = .ok (.bastore, 1) := by decide +kernel
theorem dX10_turns_108 : decode cX10_turns 108 = .ok (.iinc 4 1, 3) := by decide +kernel
theorem dX10_turns_111 : decode cX10_turns 111 = .ok (.goto (-43), 3) := by decide +kernel
theorem dX10_turns_114 : decode cX10_turns 114 = .ok (.iinc 3 1, 3) := by decide +kernel
theorem dX10_turns_117 : decode cX10_turns 117 = .ok (.goto (-60), 3) := by decide +kernel
theorem dX10_turns_120 : decode cX10_turns 120 = .ok (.iinc 2 1, 3) := by decide +kernel
theorem dX10_turns_123 : decode cX10_turns 123 = .ok (.goto (-76), 3) := by decide +kernel
theorem dX10_turns_126 : decode cX10_turns 126 = .ok (.return_, 1) := by decide +kernel
theorem dX10_reads_0 : decode cX10_reads 0 = .ok (.aload_n 0, 1) := by decide +kernel
theorem dX10_reads_1 : decode cX10_reads 1 = .ok (.getfield 118, 3) := by decide +kernel
theorem dX10_reads_4 : decode cX10_reads 4 = .ok (.ifCond .ne 138, 3) := by decide +kernel
theorem dX10_reads_7 : decode cX10_reads 7 = .ok (.aload_n 0, 1) := by decide +kernel
theorem dX10_reads_8 : decode cX10_reads 8 = .ok (.invokevirtual 133, 3) := by decide +kernel
theorem dX10_reads_11 : decode cX10_reads 11 = .ok (.iconst (-1), 1) := by decide +kernel
theorem dX10_reads_12 : decode cX10_reads 12 = .ok (.if_icmp .eq 130, 3) := by decide +kernel
theorem dX10_reads_15 : decode cX10_reads 15 = .ok (.aload_n 0, 1) := by decide +kernel
theorem dX10_reads_16 : decode cX10_reads 16 = .ok (.getfield 124, 3) := by decide +kernel
theorem dX10_reads_19 : decode cX10_reads 19 = .ok (.istore_n 1, 1) := by decide +kernel
theorem dX10_reads_20 : decode cX10_reads 20 = .ok (.aload_n 0, 1) := by decide +kernel
theorem dX10_reads_21 : decode cX10_reads 21 = .ok (.aload_n 0, 1) := by decide +kernel
theorem dX10_reads_22 : decode cX10_reads 22 = .ok (.getfield 17, 3) := by decide +kernel
theorem dX10_reads_25 : decode cX10_reads 25 = .ok (.invokevirtual 168, 3) := by decide +kernel
theorem dX10_reads_28 : decode cX10_reads 28 = .ok (.ifCond .eq 11, 3) := by decide +kernel
theorem dX10_reads_31 : decode cX10_reads 31 = .ok (.aload_n 0, 1) := by decide +kernel
theorem dX10_reads_32 : decode cX10_reads 32 = .ok (.iconst 1, 1) := by decide +kernel
theorem dX10_reads_33 : decode cX10_reads 33 = .ok (.invokevirtual 172, 3) := by decide +kernel
theorem dX10_reads_36 : decode cX10_reads 36 = .ok (.goto 68, 3) := by decide +kernel
theorem dX10_reads_39 : decode cX10_reads 39 = .ok (.aload_n 0, 1) := by decide +kernel
theorem dX10_reads_40 : decode cX10_reads 40 = .ok (.aload_n 0, 1) := by decide +kernel
theorem dX10_reads_41 : decode cX10_reads 41 = .ok (.getfield 21, 3) := by decide +kernel
theorem dX10_reads_44 : decode cX10_reads 44 = .ok (.invokevirtual 168, 3) := by decide +kernel
theorem dX10_reads_47 : decode cX10_reads 47 = .ok (.ifCond .eq 11, 3) := by decide +kernel
theorem dX10_reads_50 : decode cX10_reads 50 = .ok (.aload_n 0, 1) := by decide +kernel
theorem dX10_reads_51 : decode cX10_reads 51 = .ok (.iconst 0, 1) := by decide +kernel
theorem dX10_reads_52 : decode cX10_reads 52 = .ok (.invokevirtual 172, 3) := by decide +kernel
theorem dX10_reads_55 : decode cX10_reads 55 = .ok (.goto 49, 3) := by decide +kernel
theorem dX10_reads_58 : decode cX10_reads 58 = .ok (.aload_n 0, 1) := by decide +kernel
theorem dX10_reads_59 : decode cX10_reads 59 = .ok (.aload_n 0, 1) := by decide +kernel
theorem dX10_reads_60 : decode cX10_reads 60 = .ok (.getfield 24, 3) := by decide +kernel
theorem dX10_reads_63 : decode cX10_reads 63 = .ok (.invokevirtual 168, 3) := by decide +kernel
theorem dX10_reads_66 : decode cX10_reads 66 = .ok (.ifCond .eq 10, 3) := by decide +kernel
theorem dX10_reads_69 : decode cX10_reads 69 = .ok (.aload_n 0, 1) := by decide +kernel
theorem dX10_reads_70 : decode cX10_reads 70 = .ok (.invokevirtual 176, 3) := by decide +kernel
theorem dX10_reads_73 : decode cX10_reads 73 = .ok (.goto 31, 3) := by decide +kernel
theorem dX10_reads_76 : decode cX10_reads 76 = .ok (.aload_n 0, 1) := by decide +kernel
theorem dX10_reads_77 : decode cX10_reads 77 = .ok (.aload_n 0, 1) := by decide +kernel
theorem dX10_reads_78 : decode cX10_reads 78 = .ok (.getfield 27, 3) := by decide +kernel
theorem dX10_reads_81 : decode cX10_reads 81 = .ok (.invokevirtual 168, 3) := by decide +kernel
theorem dX10_reads_84 : decode cX10_reads 84 = .ok (.ifCond .eq 11, 3) := by decide +kernel
theorem dX10_reads_87 : decode cX10_reads 87 = .ok (.aload_n 0, 1) := by decide +kernel
theorem dX10_reads_88 : decode cX10_reads 88 = .ok (.iload_n 1, 1) := by decide +kernel
theorem dX10_reads_89 : decode cX10_reads 89 = .ok (.invokevirtual 179, 3) := by decide +kernel
theorem dX10_reads_92 : decode cX10_reads 92 = .ok (.goto 12, 3) := by decide +kernel
theorem dX10_reads_95 : decode cX10_reads 95 = .ok (.aload_n 0, 1) := by decide +kernel
theorem dX10_reads_96 : decode cX10_reads 96 = .ok (.iconst 1, 1) := by decide +kernel
theorem dX10_reads_97 : decode cX10_reads 97 = .ok (.aload_n 0, 1) := by decide +kernel
theorem dX10_reads_98 : decode cX10_reads 98 = .ok (.getfield 124, 3) := by decide +kernel
theorem dX10_reads_101 : decode cX10_reads 101 = .ok (.invokevirtual 144, 3) := by decide +kernel
theorem dX10_reads_104 : decode cX10_reads 104 = .ok (.aload_n 0, 1) := by decide +kernel
theorem dX10_reads_105 : decode cX10_reads 105 = .ok (.getfield 118, 3) := by decide +kernel
theorem dX10_reads_108 : decode cX10_reads 108 = .ok (.ifCond .ne 21, 3) := by decide +kernel
theorem dX10_reads_111 : decode cX10_reads 111 = .ok (.aload_n 0, 1) := by decide +kernel
theorem dX10_reads_112 : decode cX10_reads 112 = .ok (.invokevirtual 133, 3) := by decide +kernel
theorem dX10_reads_115 : decode cX10_reads 115 = .ok (.bipush 59, 2) := by decide +kernel
theorem dX10_reads_117 : decode cX10_reads 117 = .ok (.if_icmp .eq 12, 3) := by decide +kernel
theorem dX10_reads_120 : decode cX10_reads 120 = .ok (.aload_n 0, 1) := by decide +kernel
theorem dX10_reads_121 : decode cX10_reads 121 = .ok (.iconst 1, 1) := by decide +kernel
theorem dX10_reads_122 : decode cX10_reads 122 = .ok (.aload_n 0, 1) := by decide +kernel
theorem dX10_reads_123 : decode cX10_reads 123 = .ok (.getfield 124, 3) := by decide +kernel
theorem dX10_reads_126 : decode cX10_reads 126 = .ok (.invokevirtual 144, 3) := by decide +kernel
theorem dX10_reads_129 : decode cX10_reads 129 = .ok (.aload_n 0, 1) := by decide +kernel
theorem dX10_reads_130 : decode cX10_reads 130 = .ok (.dup, 1) := by decide +kernel
theorem dX10_reads_131 : decode cX10_reads 131 = .ok (.getfield 124, 3) := by decide +kernel
theorem dX10_reads_134 : decode cX10_reads 134 = .ok (.iconst 1, 1) := by decide +kernel
theorem dX10_reads_135 : decode cX10_reads 135 = .ok (.iadd, 1) := by decide +kernel
theorem dX10_reads_136 : decode cX10_reads 136 = .ok (.putfield 124, 3) := by decide +kernel
theorem dX10_reads_139 : decode cX10_reads 139 = .ok (.goto (-139), 3) := by decide +kernel
theorem dX10_reads_142 : decode cX10_reads 142 = .ok (.return_, 1) := by decide +kernel
theorem dX10_isIn_0 : decode cX10_isIn 0 = .ok (.iload_n 0, 1) := by decide +kernel
theorem dX10_isIn_1 : decode cX10_isIn 1 = .ok (.iload_n 1, 1) := by decide +kernel
theorem dX10_isIn_2 : decode cX10_isIn 2 = .ok (.if_icmp .lt 12, 3) := by decide +kernel
theorem dX10_isIn_5 : decode cX10_isIn 5 = .ok (.iload_n 0, 1) := by decide +kernel
theorem dX10_isIn_6 : decode cX10_isIn 6 = .ok (.iload_n 2, 1) := by decide +kernel
theorem dX10_isIn_7 : decode cX10_isIn 7 = .ok (.if_icmp .gt 7, 3) := by decide +kernel
theorem dX10_isIn_10 : decode cX10_isIn 10 = .ok (.iconst 1, 1) := by decide +kernel
theorem dX10_isIn_11 : decode cX10_isIn 11 = .ok (.goto 4, 3) := by decide +kernel
theorem dX10_isIn_14 : decode cX10_isIn 14 = .ok (.iconst 0, 1) := by decide +kernel
theorem dX10_isIn_15 : decode cX10_isIn 15 = .ok (.ireturn, 1) := by decide +kernel
theorem dX10_place_0 : decode cX10_place 0 = .ok (.iload_n 2, 1) := by decide +kernel
theorem dX10_place_1 : decode cX10_place 1 = .ok (.iconst 1, 1) := by decide +kernel
theorem dX10_place_2 : decode cX10_place 2 = .ok (.iadd, 1) := by decide +kernel
theorem dX10_place_3 : decode cX10_place 3 = .ok (.bipush 10, 2) := by decide +kernel
theorem dX10_place_5 : decode cX10_place 5 = .ok (.imul, 1) := by decide +kernel
theorem dX10_place_6 : decode cX10_place 6 = .ok (.iload_n 1, 1) := by decide +kernel
theorem dX10_place_7 : decode cX10_place 7 = .ok (.iadd, 1) := by decide +kernel
theorem dX10_place_8 : decode cX10_place 8 = .ok (.iconst 1, 1) := by decide +kernel
theorem dX10_place_9 : decode cX10_place 9 = .ok (.iadd, 1) := by decide +kernel
theorem dX10_place_10 : decode cX10_place 10 = .ok (.bipush 10, 2) := by decide +kernel
theorem dX10_place_12 : decode cX10_place 12 = .ok (.imul, 1) := by decide +kernel
theorem dX10_place_13 : decode cX10_place 13 = .ok (.iload_n 0, 1) := by decide +kernel
theorem dX10_place_14 : decode cX10_place 14 = .ok (.iadd, 1) := by decide +kernel
theorem dX10_place_15 : decode cX10_place 15 = .ok (.iconst 1, 1) := by decide +kernel
theorem dX10_place_16 : decode cX10_place 16 = .ok (.iadd, 1) := by decide +kernel
theorem dX10_place_17 : decode cX10_place 17 = .ok (.ireturn, 1) := by decide +kernel
theorem dX10_isMould_0 : decode cX10_isMould 0 = .ok (.aload_n 0, 1) := by decide +kernel
theorem dX10_isMould_1 : decode cX10_isMould 1 = .ok (.getfield 183, 3) := by decide +kernel
theorem dX10_isMould_4 : decode cX10_isMould 4 = .ok (.ifCond .eq 46, 3) := by decide +kernel
theorem dX10_isMould_7 : decode cX10_isMould 7 = .ok (.iload_n 1, 1) := by decide +kernel
theorem dX10_isMould_8 : decode cX10_isMould 8 = .ok (.iconst (-1), 1) := by decide +kernel
theorem dX10_isMould_9 : decode cX10_isMould 9 = .ok (.if_icmp .lt 41, 3) := by decide +kernel
theorem dX10_isMould_12 : decode cX10_isMould 12 = .ok (.iload_n 1, 1) := by decide +kernel
theorem dX10_isMould_13 : decode cX10_isMould 13 = .ok (.aload_n 0, 1) := by decide +kernel
theorem dX10_isMould_14 : decode cX10_isMould 14 = .ok (.getfield 187, 3) := by decide +kernel
theorem dX10_isMould_17 : decode cX10_isMould 17 = .ok (.if_icmp .gt 33, 3) := by decide +kernel
theorem dX10_isMould_20 : decode cX10_isMould 20 = .ok (.iload_n 2, 1) := by decide +kernel
theorem dX10_isMould_21 : decode cX10_isMould 21 = .ok (.iconst (-1), 1) := by decide +kernel
theorem dX10_isMould_22 : decode cX10_isMould 22 = .ok (.if_icmp .lt 28, 3) := by decide +kernel
theorem dX10_isMould_25 : decode cX10_isMould 25 = .ok (.iload_n 2, 1) := by decide +kernel
theorem dX10_isMould_26 : decode cX10_isMould 26 = .ok (.aload_n 0, 1) := by decide +kernel
theorem dX10_isMould_27 : decode cX10_isMould 27 = .ok (.getfield 190, 3) := by decide +kernel
theorem dX10_isMould_30 : decode cX10_isMould 30 = .ok (.if_icmp .gt 20, 3) := by decide +kernel
theorem dX10_isMould_33 : decode cX10_isMould 33 = .ok (.iload_n 3, 1) := by decide +kernel
theorem dX10_isMould_34 : decode cX10_isMould 34 = .ok (.iconst (-1), 1) := by decide +kernel
theorem dX10_isMould_35 : decode cX10_isMould 35 = .ok (.if_icmp .lt 15, 3) := by decide +kernel
theorem dX10_isMould_38 : decode cX10_isMould 38 = .ok (.iload_n 3, 1) := by decide +kernel
theorem dX10_isMould_39 : decode cX10_isMould 39 = .ok (.aload_n 0, 1) := by decide +kernel
theorem dX10_isMould_40 : decode cX10_isMould 40 = .ok (.getfield 193, 3) := by decide +kernel
theorem dX10_isMould_43 : decode cX10_isMould 43 = .ok (.if_icmp .gt 7, 3) := by decide +kernel
theorem dX10_isMould_46 : decode cX10_isMould 46 = .ok (.iconst 1, 1) := by decide +kernel
theorem dX10_isMould_47 : decode cX10_isMould 47 = .ok (.goto 4, 3) := by decide +kernel
theorem dX10_isMould_50 : decode cX10_isMould 50 = .ok (.iconst 0, 1) := by decide +kernel
theorem dX10_isMould_51 : decode cX10_isMould 51 = .ok (.ireturn, 1) := by decide +kernel
theorem dX10_form_0 : decode cX10_form 0 = .ok (.iload_n 1, 1) := by decide +kernel
theorem dX10_form_1 : decode cX10_form 1 = .ok (.iconst 1, 1) := by decide +kernel
theorem dX10_form_2 : decode cX10_form 2 = .ok (.bipush 8, 2) := by decide +kernel
theorem dX10_form_4 : decode cX10_form 4 = .ok (.invokestatic 196, 3) := by decide +kernel
theorem dX10_form_7 : decode cX10_form 7 = .ok (.ifCond .eq 23, 3) := by decide +kernel
theorem dX10_form_10 : decode cX10_form 10 = .ok (.iload_n 2, 1) := by decide +kernel
theorem dX10_form_11 : decode cX10_form 11 = .ok (.iconst 1, 1) := by decide +kernel
theorem dX10_form_12 : decode cX10_form 12 = .ok (.bipush 8, 2) := by decide +kernel
theorem dX10_form_14 : decode cX10_form 14 = .ok (.invokestatic 196, 3) := by decide +kernel
theorem dX10_form_17 : decode cX10_form 17 = .ok (.ifCond .eq 13, 3) := by decide +kernel
theorem dX10_form_20 : decode cX10_form 20 = .ok (.iload_n 3, 1) := by decide +kernel
theorem dX10_form_21 : decode cX10_form 21 = .ok (.iconst 1, 1) := by decide +kernel
theorem dX10_form_22 : decode cX10_form 22 = .ok (.bipush 8, 2) := by decide +kernel
theorem dX10_form_24 : decode cX10_form 24 = .ok (.invokestatic 196, 3) := by decide +kernel
theorem dX10_form_27 : decode cX10_form 27 = .ok (.ifCond .ne 6, 3) := by decide +kernel
theorem dX10_form_30 : decode cX10_form 30 = .ok (.bipush (-2), 2) := by decide +kernel
theorem dX10_form_32 : decode cX10_form 32 = .ok (.ireturn, 1) := by decide +kernel
theorem dX10_form_33 : decode cX10_form 33 = .ok (.aload_n 0, 1) := by decide +kernel
theorem dX10_form_34 : decode cX10_form 34 = .ok (.iconst 0, 1) := by decide +kernel
theorem dX10_form_35 : decode cX10_form 35 = .ok (.putfield 124, 3) := by decide +kernel
theorem dX10_form_38 : decode cX10_form 38 = .ok (.aload_n 0, 1) := by decide +kernel
theorem dX10_form_39 : decode cX10_form 39 = .ok (.iconst (-1), 1) := by decide +kernel
theorem dX10_form_40 : decode cX10_form 40 = .ok (.putfield 141, 3) := by decide +kernel
theorem dX10_form_43 : decode cX10_form 43 = .ok (.aload_n 0, 1) := by decide +kernel
theorem dX10_form_44 : decode cX10_form 44 = .ok (.aload_n 0, 1) := by decide +kernel
theorem dX10_form_45 : decode cX10_form 45 = .ok (.getfield 115, 3) := by decide +kernel
theorem dX10_form_48 : decode cX10_form 48 = .ok (.putfield 127, 3) := by decide +kernel
theorem dX10_form_51 : decode cX10_form 51 = .ok (.aload_n 0, 1) := by decide +kernel
theorem dX10_form_52 : decode cX10_form 52 = .ok (.iconst 0, 1) := by decide +kernel
theorem dX10_form_53 : decode cX10_form 53 = .ok (.putfield 115, 3) := by decide +kernel
theorem dX10_form_56 : decode cX10_form 56 = .ok (.aload_n 0, 1) := by decide +kernel
theorem dX10_form_57 : decode cX10_form 57 = .ok (.iconst 0, 1) := by decide +kernel
theorem dX10_form_58 : decode cX10_form 58 = .ok (.putfield 118, 3) := by decide +kernel
theorem dX10_form_61 : decode cX10_form 61 = .ok (.aload_n 0, 1) := by decide +kernel
theorem dX10_form_62 : decode cX10_form 62 = .ok (.iconst (-1), 1) := by decide +kernel
theorem dX10_form_63 : decode cX10_form 63 = .ok (.putfield 121, 3) := by decide +kernel
theorem dX10_form_66 : decode cX10_form 66 = .ok (.aload_n 0, 1) := by decide +kernel
theorem dX10_form_67 : decode cX10_form 67 = .ok (.iload_n 1, 1) := by decide +kernel
theorem dX10_form_68 : decode cX10_form 68 = .ok (.putfield 161, 3) := by decide +kernel
theorem dX10_form_71 : decode cX10_form 71 = .ok (.aload_n 0, 1) := by decide +kernel
theorem dX10_form_72 : decode cX10_form 72 = .ok (.iload_n 2, 1) := by decide +kernel
theorem dX10_form_73 : decode cX10_form 73 = .ok (.putfield 158, 3) := by decide +kernel
theorem dX10_form_76 : decode cX10_form 76 = .ok (.aload_n 0, 1) := by decide +kernel
theorem dX10_form_77 : decode cX10_form 77 = .ok (.iload_n 3, 1) := by decide +kernel
theorem dX10_form_78 : decode cX10_form 78 = .ok (.putfield 155, 3) := by decide +kernel
theorem dX10_form_81 : decode cX10_form 81 = .ok (.iconst 0, 1) := by decide +kernel
theorem dX10_form_82 : decode cX10_form 82 = .ok (.istore 4, 2) := by decide +kernel
theorem dX10_form_84 : decode cX10_form 84 = .ok (.iload 4, 2) := by decide +kernel
theorem dX10_form_86 : decode cX10_form 86 = .ok (.sipush 512, 3) := by decide +kernel
theorem dX10_form_89 : decode cX10_form 89 = .ok (.if_icmp .ge 17, 3) := by decide +kernel
theorem dX10_form_92 : decode cX10_form 92 = .ok (.aload_n 0, 1) := by decide +kernel
theorem dX10_form_93 : decode cX10_form 93 = .ok (.getfield 30, 3) := by decide +kernel
theorem dX10_form_96 : decode cX10_form 96 = .ok (.iload 4, 2) := by decide +kernel
theorem dX10_form_98 : decode cX10_form 98 = .ok (.iconst 0, 1) := by decide +kernel
theorem dX10_form_99 : decode cX10_form 99 = .ok (.bastore, 1) := by decide +kernel
theorem dX10_form_100 : decode cX10_form 100 = .ok (.iinc 4 1, 3) := by decide +kernel
theorem dX10_form_103 : decode cX10_form 103 = .ok (.goto (-19), 3) := by decide +kernel
theorem dX10_form_106 : decode cX10_form 106 = .ok (.aload_n 0, 1) := by decide +kernel
theorem dX10_form_107 : decode cX10_form 107 = .ok (.invokevirtual 200, 3) := by decide +kernel
theorem dX10_form_110 : decode cX10_form 110 = .ok (.aload_n 0, 1) := by decide +kernel
theorem dX10_form_111 : decode cX10_form 111 = .ok (.aload_n 0, 1) := by decide +kernel
theorem dX10_form_112 : decode cX10_form 112 = .ok (.getfield 118, 3) := by decide +kernel
theorem dX10_form_115 : decode cX10_form 115 = .ok (.putfield 203, 3) := by decide +kernel
theorem dX10_form_118 : decode cX10_form 118 = .ok (.aload_n 0, 1) := by decide +kernel
theorem dX10_form_119 : decode cX10_form 119 = .ok (.aload_n 0, 1) := by decide +kernel
theorem dX10_form_120 : decode cX10_form 120 = .ok (.getfield 121, 3) := by decide +kernel
theorem dX10_form_123 : decode cX10_form 123 = .ok (.putfield 13, 3) := by decide +kernel
theorem dX10_form_126 : decode cX10_form 126 = .ok (.aload_n 0, 1) := by decide +kernel
theorem dX10_form_127 : decode cX10_form 127 = .ok (.getfield 118, 3) := by decide +kernel
theorem dX10_form_130 : decode cX10_form 130 = .ok (.ifCond .eq 5, 3) := by decide +kernel
theorem dX10_form_133 : decode cX10_form 133 = .ok (.iconst (-1), 1) := by decide +kernel
theorem dX10_form_134 : decode cX10_form 134 = .ok (.ireturn, 1) := by decide +kernel
theorem dX10_form_135 : decode cX10_form 135 = .ok (.aload_n 0, 1) := by decide +kernel
theorem dX10_form_136 : decode cX10_form 136 = .ok (.iconst 1, 1) := by decide +kernel
theorem dX10_form_137 : decode cX10_form 137 = .ok (.putfield 183, 3) := by decide +kernel
theorem dX10_form_140 : decode cX10_form 140 = .ok (.aload_n 0, 1) := by decide +kernel
theorem dX10_form_141 : decode cX10_form 141 = .ok (.iconst 0, 1) := by decide +kernel
theorem dX10_form_142 : decode cX10_form 142 = .ok (.putfield 206, 3) := by decide +kernel
theorem dX10_form_145 : decode cX10_form 145 = .ok (.aload_n 0, 1) := by decide +kernel
theorem dX10_form_146 : decode cX10_form 146 = .ok (.iload_n 1, 1) := by decide +kernel
theorem dX10_form_147 : decode cX10_form 147 = .ok (.putfield 187, 3) := by decide +kernel
theorem dX10_form_150 : decode cX10_form 150 = .ok (.aload_n 0, 1) := by decide +kernel
theorem dX10_form_151 : decode cX10_form 151 = .ok (.iload_n 2, 1) := by decide +kernel
theorem dX10_form_152 : decode cX10_form 152 = .ok (.putfield 190, 3) := by decide +kernel
theorem dX10_form_155 : decode cX10_form 155 = .ok (.aload_n 0, 1) := by decide +kernel
theorem dX10_form_156 : decode cX10_form 156 = .ok (.iload_n 3, 1) := by decide +kernel
theorem dX10_form_157 : decode cX10_form 157 = .ok (.putfield 193, 3) := by decide +kernel
theorem dX10_form_160 : decode cX10_form 160 = .ok (.iconst 0, 1) := by decide +kernel
theorem dX10_form_161 : decode cX10_form 161 = .ok (.istore 4, 2) := by decide +kernel
theorem dX10_form_163 : decode cX10_form 163 = .ok (.iconst 0, 1) := by decide +kernel
theorem dX10_form_164 : decode cX10_form 164 = .ok (.istore 5, 2) := by decide +kernel
theorem dX10_form_166 : decode cX10_form 166 = .ok (.iload 5, 2) := by decide +kernel
theorem dX10_form_168 : decode cX10_form 168 = .ok (.sipush 1000, 3) := by decide +kernel
theorem dX10_form_171 : decode cX10_form 171 = .ok (.if_icmp .ge 17, 3) := by decide +kernel
theorem dX10_form_174 : decode cX10_form 174 = .ok (.aload_n 0, 1) := by decide +kernel
theorem dX10_form_175 : decode cX10_form 175 = .ok (.getfield 40, 3) := by decide +kernel
theorem dX10_form_178 : decode cX10_form 178 = .ok (.iload 5, 2) := by decide +kernel
theorem dX10_form_180 : decode cX10_form 180 = .ok (.iconst 0, 1) := by decide +kernel
theorem dX10_form_181 : decode cX10_form 181 = .ok (.bastore, 1) := by decide +kernel
theorem dX10_form_182 : decode cX10_form 182 = .ok (.iinc 5 1, 3) := by decide +kernel
theorem dX10_form_185 : decode cX10_form 185 = .ok (.goto (-19), 3) := by decide +kernel
theorem dX10_form_188 : decode cX10_form 188 = .ok (.iconst 0, 1) := by decide +kernel
theorem dX10_form_189 : decode cX10_form 189 = .ok (.istore 5, 2) := by decide +kernel
theorem dX10_form_191 : decode cX10_form 191 = .ok (.iload 5, 2) := by decide +kernel
theorem dX10_form_193 : decode cX10_form 193 = .ok (.iload_n 3, 1) := by decide +kernel
theorem dX10_form_194 : decode cX10_form 194 = .ok (.if_icmp .ge 87, 3) := by decide +kernel
theorem dX10_form_197 : decode cX10_form 197 = .ok (.iconst 0, 1) := by decide +kernel
theorem dX10_form_198 : decode cX10_form 198 = .ok (.istore 6, 2) := by decide +kernel
theorem dX10_form_200 : decode cX10_form 200 = .ok (.iload 6, 2) := by decide +kernel
theorem dX10_form_202 : decode cX10_form 202 = .ok (.iload_n 2, 1) := by decide +kernel
theorem dX10_form_203 : decode cX10_form 203 = .ok (.if_icmp .ge 72, 3) := by decide +kernel
theorem dX10_form_206 : decode cX10_form 206 = .ok (.iconst 0, 1) := by decide +kernel
theorem dX10_form_207 : decode cX10_form 207 = .ok (.istore 7, 2) := by decide +kernel
theorem dX10_form_209 : decode cX10_form 209 = .ok (.iload 7, 2) := by decide +kernel
theorem dX10_form_211 : decode cX10_form 211 = .ok (.iload_n 1, 1) := by decide +kernel
theorem dX10_form_212 : decode cX10_form 212 = .ok (.if_icmp .ge 57, 3) := by decide +kernel
theorem dX10_form_215 : decode cX10_form 215 = .ok (.aload_n 0, 1) := by decide +kernel
theorem dX10_form_216 : decode cX10_form 216 = .ok (.getfield 40, 3) := by decide +kernel
theorem dX10_form_219 : decode cX10_form 219 = .ok (.iload 7, 2) := by decide +kernel
theorem dX10_form_221 : decode cX10_form 221 = .ok (.iload 6, 2) := by decide +kernel
theorem dX10_form_223 : decode cX10_form 223 = .ok (.iload 5, 2) := by decide +kernel
theorem dX10_form_225 : decode cX10_form 225 = .ok (.invokestatic 209, 3) := by decide +kernel
theorem dX10_form_228 : decode cX10_form 228 = .ok (.aload_n 0, 1) := by decide +kernel
theorem dX10_form_229 : decode cX10_form 229 = .ok (.getfield 30, 3) := by decide +kernel
theorem dX10_form_232 : decode cX10_form 232 = .ok (.iload 7, 2) := by decide +kernel
theorem dX10_form_234 : decode cX10_form 234 = .ok (.iload 6, 2) := by decide +kernel
theorem dX10_form_236 : decode cX10_form 236 = .ok (.iload 5, 2) := by decide +kernel
theorem dX10_form_238 : decode cX10_form 238 = .ok (.invokestatic 164, 3) := by decide +kernel
theorem dX10_form_241 : decode cX10_form 241 = .ok (.baload, 1) := by decide +kernel
theorem dX10_form_242 : decode cX10_form 242 = .ok (.bastore, 1) := by decide +kernel
theorem dX10_form_243 : decode cX10_form 243 = .ok (.aload_n 0, 1) := by decide +kernel
theorem dX10_form_244 : decode cX10_form 244 = .ok (.getfield 30, 3) := by decide +kernel
theorem dX10_form_247 : decode cX10_form 247 = .ok (.iload 7, 2) := by decide +kernel
theorem dX10_form_249 : decode cX10_form 249 = .ok (.iload 6, 2) := by decide +kernel
theorem dX10_form_251 : decode cX10_form 251 = .ok (.iload 5, 2) := by decide +kernel
theorem dX10_form_253 : decode cX10_form 253 = .ok (.invokestatic 164, 3) := by decide +kernel
theorem dX10_form_256 : decode cX10_form 256 = .ok (.baload, 1) := by decide +kernel
theorem dX10_form_257 : decode cX10_form 257 = .ok (.ifCond .eq 6, 3) := by decide +kernel
theorem dX10_form_260 : decode cX10_form 260 = .ok (.iinc 4 1, 3) := by decide +kernel
theorem dX10_form_263 : decode cX10_form 263 = .ok (.iinc 7 1, 3) := by decide +kernel
theorem dX10_form_266 : decode cX10_form 266 = .ok (.goto (-57), 3) := by decide +kernel
theorem dX10_form_269 : decode cX10_form 269 = .ok (.iinc 6 1, 3) := by decide +kernel
theorem dX10_form_272 : decode cX10_form 272 = .ok (.goto (-72), 3) := by decide +kernel
theorem dX10_form_275 : decode cX10_form 275 = .ok (.iinc 5 1, 3) := by decide +kernel
theorem dX10_form_278 : decode cX10_form 278 = .ok (.goto (-87), 3) := by decide +kernel
theorem dX10_form_281 : decode cX10_form 281 = .ok (.iconst (-1), 1) := by decide +kernel
theorem dX10_form_282 : decode cX10_form 282 = .ok (.istore 5, 2) := by decide +kernel
theorem dX10_form_284 : decode cX10_form 284 = .ok (.iload 5, 2) := by decide +kernel
theorem dX10_form_286 : decode cX10_form 286 = .ok (.iload_n 3, 1) := by decide +kernel
theorem dX10_form_287 : decode cX10_form 287 = .ok (.if_icmp .gt 84, 3) := by decide +kernel
theorem dX10_form_290 : decode cX10_form 290 = .ok (.iconst (-1), 1) := by decide +kernel
theorem dX10_form_291 : decode cX10_form 291 = .ok (.istore 6, 2) := by decide +kernel
theorem dX10_form_293 : decode cX10_form 293 = .ok (.iload 6, 2) := by decide +kernel
theorem dX10_form_295 : decode cX10_form 295 = .ok (.iload_n 2, 1) := by decide +kernel
theorem dX10_form_296 : decode cX10_form 296 = .ok (.if_icmp .gt 69, 3) := by decide +kernel
theorem dX10_form_299 : decode cX10_form 299 = .ok (.iconst (-1), 1) := by decide +kernel
theorem dX10_form_300 : decode cX10_form 300 = .ok (.istore 7, 2) := by decide +kernel
theorem dX10_form_302 : decode cX10_form 302 = .ok (.iload 7, 2) := by decide +kernel
theorem dX10_form_304 : decode cX10_form 304 = .ok (.iload_n 1, 1) := by decide +kernel
theorem dX10_form_305 : decode cX10_form 305 = .ok (.if_icmp .gt 54, 3) := by decide +kernel
theorem dX10_form_308 : decode cX10_form 308 = .ok (.aload_n 0, 1) := by decide +kernel
theorem dX10_form_309 : decode cX10_form 309 = .ok (.getfield 43, 3) := by decide +kernel
theorem dX10_form_312 : decode cX10_form 312 = .ok (.iload 7, 2) := by decide +kernel
theorem dX10_form_314 : decode cX10_form 314 = .ok (.iload 6, 2) := by decide +kernel
theorem dX10_form_316 : decode cX10_form 316 = .ok (.iload 5, 2) := by decide +kernel
theorem dX10_form_318 : decode cX10_form 318 = .ok (.invokestatic 209, 3) := by decide +kernel
theorem dX10_form_321 : decode cX10_form 321 = .ok (.aload_n 0, 1) := by decide +kernel
theorem dX10_form_322 : decode cX10_form 322 = .ok (.getfield 40, 3) := by decide +kernel
theorem dX10_form_325 : decode cX10_form 325 = .ok (.iload 7, 2) := by decide +kernel
theorem dX10_form_327 : decode cX10_form 327 = .ok (.iload 6, 2) := by decide +kernel
theorem dX10_form_329 : decode cX10_form 329 = .ok (.iload 5, 2) := by decide +kernel
theorem dX10_form_331 : decode cX10_form 331 = .ok (.invokestatic 209, 3) := by decide +kernel
theorem dX10_form_334 : decode cX10_form 334 = .ok (.baload, 1) := by decide +kernel
theorem dX10_form_335 : decode cX10_form 335 = .ok (.ifCond .eq 7, 3) := by decide +kernel
theorem dX10_form_338 : decode cX10_form 338 = .ok (.iconst 0, 1) := by decide +kernel
theorem dX10_form_339 : decode cX10_form 339 = .ok (.goto 13, 3) := by decide +kernel
theorem dX10_form_342 : decode cX10_form 342 = .ok (.aload_n 0, 1) := by decide +kernel
theorem dX10_form_343 : decode cX10_form 343 = .ok (.iload 7, 2) := by decide +kernel
theorem dX10_form_345 : decode cX10_form 345 = .ok (.iload 6, 2) := by decide +kernel
theorem dX10_form_347 : decode cX10_form 347 = .ok (.iload 5, 2) := by decide +kernel
theorem dX10_form_349 : decode cX10_form 349 = .ok (.invokevirtual 212, 3) := by decide +kernel
theorem dX10_form_352 : decode cX10_form 352 = .ok (.iastore, 1) := by decide +kernel
theorem dX10_form_353 : decode cX10_form 353 = .ok (.iinc 7 1, 3) := by decide +kernel
theorem dX10_form_356 : decode cX10_form 356 = .ok (.goto (-54), 3) := by decide +kernel
theorem dX10_form_359 : decode cX10_form 359 = .ok (.iinc 6 1, 3) := by decide +kernel
theorem dX10_form_362 : decode cX10_form 362 = .ok (.goto (-69), 3) := by decide +kernel
theorem dX10_form_365 : decode cX10_form 365 = .ok (.iinc 5 1, 3) := by decide +kernel
theorem dX10_form_368 : decode cX10_form 368 = .ok (.goto (-84), 3) := by decide +kernel
theorem dX10_form_371 : decode cX10_form 371 = .ok (.iload 4, 2) := by decide +kernel
theorem dX10_form_373 : decode cX10_form 373 = .ok (.ireturn, 1) := by decide +kernel
theorem dX10_stepX_0 : decode cX10_stepX 0 = .ok (.iload_n 0, 1) := by decide +kernel
theorem dX10_stepX_1 : decode cX10_stepX 1 = .ok (.ifCond .ne 7, 3) := by decide +kernel
theorem dX10_stepX_4 : decode cX10_stepX 4 = .ok (.iconst 1, 1) := by decide +kernel
theorem dX10_stepX_5 : decode cX10_stepX 5 = .ok (.goto 13, 3) := by decide +kernel
theorem dX10_stepX_8 : decode cX10_stepX 8 = .ok (.iload_n 0, 1) := by decide +kernel
theorem dX10_stepX_9 : decode cX10_stepX 9 = .ok (.iconst 1, 1) := by decide +kernel
theorem dX10_stepX_10 : decode cX10_stepX 10 = .ok (.if_icmp .ne 7, 3) := by decide +kernel
theorem dX10_stepX_13 : decode cX10_stepX 13 = .ok (.iconst (-1), 1) := by decide +kernel
theorem dX10_stepX_14 : decode cX10_stepX 14 = .ok (.goto 4, 3) := by decide +kernel
theorem dX10_stepX_17 : decode cX10_stepX 17 = .ok (.iconst 0, 1) := by decide +kernel
theorem dX10_stepX_18 : decode cX10_stepX 18 = .ok (.ireturn, 1) := by decide +kernel
theorem dX10_stepY_0 : decode cX10_stepY 0 = .ok (.iload_n 0, 1) := by decide +kernel
theorem dX10_stepY_1 : decode cX10_stepY 1 = .ok (.iconst 2, 1) := by decide +kernel
theorem dX10_stepY_2 : decode cX10_stepY 2 = .ok (.if_icmp .ne 7, 3) := by decide +kernel
theorem dX10_stepY_5 : decode cX10_stepY 5 = .ok (.iconst 1, 1) := by decide +kernel
theorem dX10_stepY_6 : decode cX10_stepY 6 = .ok (.goto 13, 3) := by decide +kernel
theorem dX10_stepY_9 : decode cX10_stepY 9 = .ok (.iload_n 0, 1) := by decide +kernel
theorem dX10_stepY_10 : decode cX10_stepY 10 = .ok (.iconst 3, 1) := by decide +kernel
theorem dX10_stepY_11 : decode cX10_stepY 11 = .ok (.if_icmp .ne 7, 3) := by decide +kernel
theorem dX10_stepY_14 : decode cX10_stepY 14 = .ok (.iconst (-1), 1) := by decide +kernel
theorem dX10_stepY_15 : decode cX10_stepY 15 = .ok (.goto 4, 3) := by decide +kernel
theorem dX10_stepY_18 : decode cX10_stepY 18 = .ok (.iconst 0, 1) := by decide +kernel
theorem dX10_stepY_19 : decode cX10_stepY 19 = .ok (.ireturn, 1) := by decide +kernel
theorem dX10_stepZ_0 : decode cX10_stepZ 0 = .ok (.iload_n 0, 1) := by decide +kernel
theorem dX10_stepZ_1 : decode cX10_stepZ 1 = .ok (.iconst 4, 1) := by decide +kernel
theorem dX10_stepZ_2 : decode cX10_stepZ 2 = .ok (.if_icmp .ne 7, 3) := by decide +kernel
theorem dX10_stepZ_5 : decode cX10_stepZ 5 = .ok (.iconst 1, 1) := by decide +kernel
theorem dX10_stepZ_6 : decode cX10_stepZ 6 = .ok (.goto 13, 3) := by decide +kernel
theorem dX10_stepZ_9 : decode cX10_stepZ 9 = .ok (.iload_n 0, 1) := by decide +kernel
theorem dX10_stepZ_10 : decode cX10_stepZ 10 = .ok (.iconst 5, 1) := by decide +kernel
theorem dX10_stepZ_11 : decode cX10_stepZ 11 = .ok (.if_icmp .ne 7, 3) := by decide +kernel
theorem dX10_stepZ_14 : decode cX10_stepZ 14 = .ok (.iconst (-1), 1) := by decide +kernel
theorem dX10_stepZ_15 : decode cX10_stepZ 15 = .ok (.goto 4, 3) := by decide +kernel
theorem dX10_stepZ_18 : decode cX10_stepZ 18 = .ok (.iconst 0, 1) := by decide +kernel
theorem dX10_stepZ_19 : decode cX10_stepZ 19 = .ok (.ireturn, 1) := by decide +kernel
theorem dX10_waysOf_0 : decode cX10_waysOf 0 = .ok (.iconst 0, 1) := by decide +kernel
theorem dX10_waysOf_1 : decode cX10_waysOf 1 = .ok (.istore 4, 2) := by decide +kernel
theorem dX10_waysOf_3 : decode cX10_waysOf 3 = .ok (.iconst 0, 1) := by decide +kernel
theorem dX10_waysOf_4 : decode cX10_waysOf 4 = .ok (.istore 5, 2) := by decide +kernel
theorem dX10_waysOf_6 : decode cX10_waysOf 6 = .ok (.iload 5, 2) := by decide +kernel
theorem dX10_waysOf_8 : decode cX10_waysOf 8 = .ok (.bipush 6, 2) := by decide +kernel
theorem dX10_waysOf_10 : decode cX10_waysOf 10 = .ok (.if_icmp .ge 110, 3) := by decide +kernel
theorem dX10_waysOf_13 : decode cX10_waysOf 13 = .ok (.iconst 1, 1) := by decide +kernel
theorem dX10_waysOf_14 : decode cX10_waysOf 14 = .ok (.istore 6, 2) := by decide +kernel
theorem dX10_waysOf_16 : decode cX10_waysOf 16 = .ok (.iload_n 1, 1) := by decide +kernel
theorem dX10_waysOf_17 : decode cX10_waysOf 17 = .ok (.istore 7, 2) := by decide +kernel
theorem dX10_waysOf_19 : decode cX10_waysOf 19 = .ok (.iload_n 2, 1) := by decide +kernel
theorem dX10_waysOf_20 : decode cX10_waysOf 20 = .ok (.istore 8, 2) := by decide +kernel
theorem dX10_waysOf_22 : decode cX10_waysOf 22 = .ok (.iload_n 3, 1) := by decide +kernel
theorem dX10_waysOf_23 : decode cX10_waysOf 23 = .ok (.istore 9, 2) := by decide +kernel
theorem dX10_waysOf_25 : decode cX10_waysOf 25 = .ok (.aload_n 0, 1) := by decide +kernel
theorem dX10_waysOf_26 : decode cX10_waysOf 26 = .ok (.iload 7, 2) := by decide +kernel
theorem dX10_waysOf_28 : decode cX10_waysOf 28 = .ok (.iload 8, 2) := by decide +kernel
theorem dX10_waysOf_30 : decode cX10_waysOf 30 = .ok (.iload 9, 2) := by decide +kernel
theorem dX10_waysOf_32 : decode cX10_waysOf 32 = .ok (.invokevirtual 215, 3) := by decide +kernel
theorem dX10_waysOf_35 : decode cX10_waysOf 35 = .ok (.ifCond .eq 65, 3) := by decide +kernel
theorem dX10_waysOf_38 : decode cX10_waysOf 38 = .ok (.iload 6, 2) := by decide +kernel
theorem dX10_waysOf_40 : decode cX10_waysOf 40 = .ok (.ifCond .eq 24, 3) := by decide +kernel
theorem dX10_waysOf_43 : decode cX10_waysOf 43 = .ok (.aload_n 0, 1) := by decide +kernel
theorem dX10_waysOf_44 : decode cX10_waysOf 44 = .ok (.getfield 40, 3) := by decide +kernel
theorem dX10_waysOf_47 : decode cX10_waysOf 47 = .ok (.iload 7, 2) := by decide +kernel
theorem dX10_waysOf_49 : decode cX10_waysOf 49 = .ok (.iload 8, 2) := by decide +kernel
theorem dX10_waysOf_51 : decode cX10_waysOf 51 = .ok (.iload 9, 2) := by decide +kernel
theorem dX10_waysOf_53 : decode cX10_waysOf 53 = .ok (.invokestatic 209, 3) := by decide +kernel
theorem dX10_waysOf_56 : decode cX10_waysOf 56 = .ok (.baload, 1) := by decide +kernel
theorem dX10_waysOf_57 : decode cX10_waysOf 57 = .ok (.ifCond .ne 7, 3) := by decide +kernel
theorem dX10_waysOf_60 : decode cX10_waysOf 60 = .ok (.iconst 1, 1) := by decide +kernel
theorem dX10_waysOf_61 : decode cX10_waysOf 61 = .ok (.goto 4, 3) := by decide +kernel
theorem dX10_waysOf_64 : decode cX10_waysOf 64 = .ok (.iconst 0, 1) := by decide +kernel
theorem dX10_waysOf_65 : decode cX10_waysOf 65 = .ok (.istore 6, 2) := by decide +kernel
theorem dX10_waysOf_67 : decode cX10_waysOf 67 = .ok (.iload 7, 2) := by decide +kernel
theorem dX10_waysOf_69 : decode cX10_waysOf 69 = .ok (.iload 5, 2) := by decide +kernel
theorem dX10_waysOf_71 : decode cX10_waysOf 71 = .ok (.invokestatic 218, 3) := by decide +kernel
theorem dX10_waysOf_74 : decode cX10_waysOf 74 = .ok (.iadd, 1) := by decide +kernel
theorem dX10_waysOf_75 : decode cX10_waysOf 75 = .ok (.istore 7, 2) := by decide +kernel
theorem dX10_waysOf_77 : decode cX10_waysOf 77 = .ok (.iload 8, 2) := by decide +kernel
theorem dX10_waysOf_79 : decode cX10_waysOf 79 = .ok (.iload 5, 2) := by decide +kernel
theorem dX10_waysOf_81 : decode cX10_waysOf 81 = .ok (.invokestatic 221, 3) := by decide +kernel
theorem dX10_waysOf_84 : decode cX10_waysOf 84 = .ok (.iadd, 1) := by decide +kernel
theorem dX10_waysOf_85 : decode cX10_waysOf 85 = .ok (.istore 8, 2) := by decide +kernel
theorem dX10_waysOf_87 : decode cX10_waysOf 87 = .ok (.iload 9, 2) := by decide +kernel
theorem dX10_waysOf_89 : decode cX10_waysOf 89 = .ok (.iload 5, 2) := by decide +kernel
theorem dX10_waysOf_91 : decode cX10_waysOf 91 = .ok (.invokestatic 224, 3) := by decide +kernel
theorem dX10_waysOf_94 : decode cX10_waysOf 94 = .ok (.iadd, 1) := by decide +kernel
theorem dX10_waysOf_95 : decode cX10_waysOf 95 = .ok (.istore 9, 2) := by decide +kernel
theorem dX10_waysOf_97 : decode cX10_waysOf 97 = .ok (.goto (-72), 3) := by decide +kernel
theorem dX10_waysOf_100 : decode cX10_waysOf 100 = .ok (.iload 6, 2) := by decide +kernel
theorem dX10_waysOf_102 : decode cX10_waysOf 102 = .ok (.ifCond .eq 12, 3) := by decide +kernel
theorem dX10_waysOf_105 : decode cX10_waysOf 105 = .ok (.iload 4, 2) := by decide +kernel
theorem dX10_waysOf_107 : decode cX10_waysOf 107 = .ok (.iconst 1, 1) := by decide +kernel
theorem dX10_waysOf_108 : decode cX10_waysOf 108 = .ok (.iload 5, 2) := by decide +kernel
theorem dX10_waysOf_110 : decode cX10_waysOf 110 = .ok (.ishl, 1) := by decide +kernel
theorem dX10_waysOf_111 : decode cX10_waysOf 111 = .ok (.ior, 1) := by decide +kernel
theorem dX10_waysOf_112 : decode cX10_waysOf 112 = .ok (.istore 4, 2) := by decide +kernel
theorem dX10_waysOf_114 : decode cX10_waysOf 114 = .ok (.iinc 5 1, 3) := by decide +kernel
theorem dX10_waysOf_117 : decode cX10_waysOf 117 = .ok (.goto (-111), 3) := by decide +kernel
theorem dX10_waysOf_120 : decode cX10_waysOf 120 = .ok (.iload 4, 2) := by decide +kernel
theorem dX10_waysOf_122 : decode cX10_waysOf 122 = .ok (.ireturn, 1) := by decide +kernel
theorem dX10_fault_0 : decode cX10_fault 0 = .ok (.iload_n 1, 1) := by decide +kernel
theorem dX10_fault_1 : decode cX10_fault 1 = .ok (.ifCond .ne 10, 3) := by decide +kernel
theorem dX10_fault_4 : decode cX10_fault 4 = .ok (.aload_n 0, 1) := by decide +kernel
theorem dX10_fault_5 : decode cX10_fault 5 = .ok (.getfield 203, 3) := by decide +kernel
theorem dX10_fault_8 : decode cX10_fault 8 = .ok (.goto 16, 3) := by decide +kernel
theorem dX10_fault_11 : decode cX10_fault 11 = .ok (.iload_n 1, 1) := by decide +kernel
theorem dX10_fault_12 : decode cX10_fault 12 = .ok (.iconst 1, 1) := by decide +kernel
theorem dX10_fault_13 : decode cX10_fault 13 = .ok (.if_icmp .ne 10, 3) := by decide +kernel
theorem dX10_fault_16 : decode cX10_fault 16 = .ok (.aload_n 0, 1) := by decide +kernel
theorem dX10_fault_17 : decode cX10_fault 17 = .ok (.getfield 13, 3) := by decide +kernel
theorem dX10_fault_20 : decode cX10_fault 20 = .ok (.goto 4, 3) := by decide +kernel
theorem dX10_fault_23 : decode cX10_fault 23 = .ok (.iconst (-1), 1) := by decide +kernel
theorem dX10_fault_24 : decode cX10_fault 24 = .ok (.ireturn, 1) := by decide +kernel
theorem dX10_solid_0 : decode cX10_solid 0 = .ok (.aload_n 0, 1) := by decide +kernel
theorem dX10_solid_1 : decode cX10_solid 1 = .ok (.getfield 183, 3) := by decide +kernel
theorem dX10_solid_4 : decode cX10_solid 4 = .ok (.ifCond .eq 39, 3) := by decide +kernel
theorem dX10_solid_7 : decode cX10_solid 7 = .ok (.iload_n 1, 1) := by decide +kernel
theorem dX10_solid_8 : decode cX10_solid 8 = .ok (.ifCond .lt 35, 3) := by decide +kernel
theorem dX10_solid_11 : decode cX10_solid 11 = .ok (.iload_n 1, 1) := by decide +kernel
theorem dX10_solid_12 : decode cX10_solid 12 = .ok (.aload_n 0, 1) := by decide +kernel
theorem dX10_solid_13 : decode cX10_solid 13 = .ok (.getfield 187, 3) := by decide +kernel
theorem dX10_solid_16 : decode cX10_solid 16 = .ok (.if_icmp .ge 27, 3) := by decide +kernel
theorem dX10_solid_19 : decode cX10_solid 19 = .ok (.iload_n 2, 1) := by decide +kernel
theorem dX10_solid_20 : decode cX10_solid 20 = .ok (.ifCond .lt 23, 3) := by decide +kernel
theorem dX10_solid_23 : decode cX10_solid 23 = .ok (.iload_n 2, 1) := by decide +kernel
theorem dX10_solid_24 : decode cX10_solid 24 = .ok (.aload_n 0, 1) := by decide +kernel
theorem dX10_solid_25 : decode cX10_solid 25 = .ok (.getfield 190, 3) := by decide +kernel
theorem dX10_solid_28 : decode cX10_solid 28 = .ok (.if_icmp .ge 15, 3) := by decide +kernel
theorem dX10_solid_31 : decode cX10_solid 31 = .ok (.iload_n 3, 1) := by decide +kernel
theorem dX10_solid_32 : decode cX10_solid 32 = .ok (.ifCond .lt 11, 3) := by decide +kernel
theorem dX10_solid_35 : decode cX10_solid 35 = .ok (.iload_n 3, 1) := by decide +kernel
theorem dX10_solid_36 : decode cX10_solid 36 = .ok (.aload_n 0, 1) := by decide +kernel
theorem dX10_solid_37 : decode cX10_solid 37 = .ok (.getfield 193, 3) := by decide +kernel
theorem dX10_solid_40 : decode cX10_solid 40 = .ok (.if_icmp .lt 5, 3) := by decide +kernel
theorem dX10_solid_43 : decode cX10_solid 43 = .ok (.iconst (-1), 1) := by decide +kernel
theorem dX10_solid_44 : decode cX10_solid 44 = .ok (.ireturn, 1) := by decide +kernel
theorem dX10_solid_45 : decode cX10_solid 45 = .ok (.aload_n 0, 1) := by decide +kernel
theorem dX10_solid_46 : decode cX10_solid 46 = .ok (.getfield 40, 3) := by decide +kernel
theorem dX10_solid_49 : decode cX10_solid 49 = .ok (.iload_n 1, 1) := by decide +kernel
theorem dX10_solid_50 : decode cX10_solid 50 = .ok (.iload_n 2, 1) := by decide +kernel
theorem dX10_solid_51 : decode cX10_solid 51 = .ok (.iload_n 3, 1) := by decide +kernel
theorem dX10_solid_52 : decode cX10_solid 52 = .ok (.invokestatic 209, 3) := by decide +kernel
theorem dX10_solid_55 : decode cX10_solid 55 = .ok (.baload, 1) := by decide +kernel
theorem dX10_solid_56 : decode cX10_solid 56 = .ok (.ifCond .eq 7, 3) := by decide +kernel
theorem dX10_solid_59 : decode cX10_solid 59 = .ok (.iconst 1, 1) := by decide +kernel
theorem dX10_solid_60 : decode cX10_solid 60 = .ok (.goto 4, 3) := by decide +kernel
theorem dX10_solid_63 : decode cX10_solid 63 = .ok (.iconst 0, 1) := by decide +kernel
theorem dX10_solid_64 : decode cX10_solid 64 = .ok (.ireturn, 1) := by decide +kernel
theorem dX10_free_0 : decode cX10_free 0 = .ok (.aload_n 0, 1) := by decide +kernel
theorem dX10_free_1 : decode cX10_free 1 = .ok (.iload_n 1, 1) := by decide +kernel
theorem dX10_free_2 : decode cX10_free 2 = .ok (.iload_n 2, 1) := by decide +kernel
theorem dX10_free_3 : decode cX10_free 3 = .ok (.iload_n 3, 1) := by decide +kernel
theorem dX10_free_4 : decode cX10_free 4 = .ok (.invokevirtual 215, 3) := by decide +kernel
theorem dX10_free_7 : decode cX10_free 7 = .ok (.ifCond .eq 31, 3) := by decide +kernel
theorem dX10_free_10 : decode cX10_free 10 = .ok (.aload_n 0, 1) := by decide +kernel
theorem dX10_free_11 : decode cX10_free 11 = .ok (.getfield 40, 3) := by decide +kernel
theorem dX10_free_14 : decode cX10_free 14 = .ok (.iload_n 1, 1) := by decide +kernel
theorem dX10_free_15 : decode cX10_free 15 = .ok (.iload_n 2, 1) := by decide +kernel
theorem dX10_free_16 : decode cX10_free 16 = .ok (.iload_n 3, 1) := by decide +kernel
theorem dX10_free_17 : decode cX10_free 17 = .ok (.invokestatic 209, 3) := by decide +kernel
theorem dX10_free_20 : decode cX10_free 20 = .ok (.baload, 1) := by decide +kernel
theorem dX10_free_21 : decode cX10_free 21 = .ok (.ifCond .ne 17, 3) := by decide +kernel
theorem dX10_free_24 : decode cX10_free 24 = .ok (.aload_n 0, 1) := by decide +kernel
theorem dX10_free_25 : decode cX10_free 25 = .ok (.getfield 43, 3) := by decide +kernel
theorem dX10_free_28 : decode cX10_free 28 = .ok (.iload_n 1, 1) := by decide +kernel
theorem dX10_free_29 : decode cX10_free 29 = .ok (.iload_n 2, 1) := by decide +kernel
theorem dX10_free_30 : decode cX10_free 30 = .ok (.iload_n 3, 1) := by decide +kernel
theorem dX10_free_31 : decode cX10_free 31 = .ok (.invokestatic 209, 3) := by decide +kernel
theorem dX10_free_34 : decode cX10_free 34 = .ok (.iaload, 1) := by decide +kernel
theorem dX10_free_35 : decode cX10_free 35 = .ok (.goto 4, 3) := by decide +kernel
theorem dX10_free_38 : decode cX10_free 38 = .ok (.iconst (-1), 1) := by decide +kernel
theorem dX10_free_39 : decode cX10_free 39 = .ok (.ireturn, 1) := by decide +kernel
theorem dX10_shut_0 : decode cX10_shut 0 = .ok (.aload_n 0, 1) := by decide +kernel
theorem dX10_shut_1 : decode cX10_shut 1 = .ok (.getfield 183, 3) := by decide +kernel
theorem dX10_shut_4 : decode cX10_shut 4 = .ok (.ifCond .ne 5, 3) := by decide +kernel
theorem dX10_shut_7 : decode cX10_shut 7 = .ok (.iconst (-1), 1) := by decide +kernel
theorem dX10_shut_8 : decode cX10_shut 8 = .ok (.ireturn, 1) := by decide +kernel
theorem dX10_shut_9 : decode cX10_shut 9 = .ok (.iconst 0, 1) := by decide +kernel
theorem dX10_shut_10 : decode cX10_shut 10 = .ok (.istore_n 1, 1) := by decide +kernel
theorem dX10_shut_11 : decode cX10_shut 11 = .ok (.iconst 0, 1) := by decide +kernel
theorem dX10_shut_12 : decode cX10_shut 12 = .ok (.istore_n 2, 1) := by decide +kernel
theorem dX10_shut_13 : decode cX10_shut 13 = .ok (.iload_n 2, 1) := by decide +kernel
theorem dX10_shut_14 : decode cX10_shut 14 = .ok (.aload_n 0, 1) := by decide +kernel
theorem dX10_shut_15 : decode cX10_shut 15 = .ok (.getfield 193, 3) := by decide +kernel
theorem dX10_shut_18 : decode cX10_shut 18 = .ok (.if_icmp .ge 76, 3) := by decide +kernel
theorem dX10_shut_21 : decode cX10_shut 21 = .ok (.iconst 0, 1) := by decide +kernel
theorem dX10_shut_22 : decode cX10_shut 22 = .ok (.istore_n 3, 1) := by decide +kernel
theorem dX10_shut_23 : decode cX10_shut 23 = .ok (.iload_n 3, 1) := by decide +kernel
theorem dX10_shut_24 : decode cX10_shut 24 = .ok (.aload_n 0, 1) := by decide +kernel
theorem dX10_shut_25 : decode cX10_shut 25 = .ok (.getfield 190, 3) := by decide +kernel
theorem dX10_shut_28 : decode cX10_shut 28 = .ok (.if_icmp .ge 60, 3) := by decide +kernel
theorem dX10_shut_31 : decode cX10_shut 31 = .ok (.iconst 0, 1) := by decide +kernel
theorem dX10_shut_32 : decode cX10_shut 32 = .ok (.istore 4, 2) := by decide +kernel
theorem dX10_shut_34 : decode cX10_shut 34 = .ok (.iload 4, 2) := by decide +kernel
theorem dX10_shut_36 : decode cX10_shut 36 = .ok (.aload_n 0, 1) := by decide +kernel
theorem dX10_shut_37 : decode cX10_shut 37 = .ok (.getfield 187, 3) := by decide +kernel
theorem dX10_shut_40 : decode cX10_shut 40 = .ok (.if_icmp .ge 42, 3) := by decide +kernel
theorem dX10_shut_43 : decode cX10_shut 43 = .ok (.aload_n 0, 1) := by decide +kernel
theorem dX10_shut_44 : decode cX10_shut 44 = .ok (.getfield 40, 3) := by decide +kernel
theorem dX10_shut_47 : decode cX10_shut 47 = .ok (.iload 4, 2) := by decide +kernel
theorem dX10_shut_49 : decode cX10_shut 49 = .ok (.iload_n 3, 1) := by decide +kernel
theorem dX10_shut_50 : decode cX10_shut 50 = .ok (.iload_n 2, 1) := by decide +kernel
theorem dX10_shut_51 : decode cX10_shut 51 = .ok (.invokestatic 209, 3) := by decide +kernel
theorem dX10_shut_54 : decode cX10_shut 54 = .ok (.baload, 1) := by decide +kernel
theorem dX10_shut_55 : decode cX10_shut 55 = .ok (.ifCond .ne 21, 3) := by decide +kernel
theorem dX10_shut_58 : decode cX10_shut 58 = .ok (.aload_n 0, 1) := by decide +kernel
theorem dX10_shut_59 : decode cX10_shut 59 = .ok (.getfield 43, 3) := by decide +kernel
theorem dX10_shut_62 : decode cX10_shut 62 = .ok (.iload 4, 2) := by decide +kernel
theorem dX10_shut_64 : decode cX10_shut 64 = .ok (.iload_n 3, 1) := by decide +kernel
theorem dX10_shut_65 : decode cX10_shut 65 = .ok (.iload_n 2, 1) := by decide +kernel
theorem dX10_shut_66 : decode cX10_shut 66 = .ok (.invokestatic 209, 3) := by decide +kernel
theorem dX10_shut_69 : decode cX10_shut 69 = .ok (.iaload, 1) := by decide +kernel
theorem dX10_shut_70 : decode cX10_shut 70 = .ok (.ifCond .ne 6, 3) := by decide +kernel
theorem dX10_shut_73 : decode cX10_shut 73 = .ok (.iinc 1 1, 3) := by decide +kernel
theorem dX10_shut_76 : decode cX10_shut 76 = .ok (.iinc 4 1, 3) := by decide +kernel
theorem dX10_shut_79 : decode cX10_shut 79 = .ok (.goto (-45), 3) := by decide +kernel
theorem dX10_shut_82 : decode cX10_shut 82 = .ok (.iinc 3 1, 3) := by decide +kernel
theorem dX10_shut_85 : decode cX10_shut 85 = .ok (.goto (-62), 3) := by decide +kernel
theorem dX10_shut_88 : decode cX10_shut 88 = .ok (.iinc 2 1, 3) := by decide +kernel
theorem dX10_shut_91 : decode cX10_shut 91 = .ok (.goto (-78), 3) := by decide +kernel
theorem dX10_shut_94 : decode cX10_shut 94 = .ok (.iload_n 1, 1) := by decide +kernel
theorem dX10_shut_95 : decode cX10_shut 95 = .ok (.ireturn, 1) := by decide +kernel
theorem dX10_belongs_0 : decode cX10_belongs 0 = .ok (.iconst 0, 1) := by decide +kernel
theorem dX10_belongs_1 : decode cX10_belongs 1 = .ok (.istore 4, 2) := by decide +kernel
theorem dX10_belongs_3 : decode cX10_belongs 3 = .ok (.iload 4, 2) := by decide +kernel
theorem dX10_belongs_5 : decode cX10_belongs 5 = .ok (.iload_n 3, 1) := by decide +kernel
theorem dX10_belongs_6 : decode cX10_belongs 6 = .ok (.if_icmp .ge 29, 3) := by decide +kernel
theorem dX10_belongs_9 : decode cX10_belongs 9 = .ok (.aload_n 0, 1) := by decide +kernel
theorem dX10_belongs_10 : decode cX10_belongs 10 = .ok (.getfield 43, 3) := by decide +kernel
theorem dX10_belongs_13 : decode cX10_belongs 13 = .ok (.iload_n 1, 1) := by decide +kernel
theorem dX10_belongs_14 : decode cX10_belongs 14 = .ok (.iaload, 1) := by decide +kernel
theorem dX10_belongs_15 : decode cX10_belongs 15 = .ok (.aload_n 2, 1) := by decide +kernel
theorem dX10_belongs_16 : decode cX10_belongs 16 = .ok (.iload 4, 2) := by decide +kernel
theorem dX10_belongs_18 : decode cX10_belongs 18 = .ok (.iaload, 1) := by decide +kernel
theorem dX10_belongs_19 : decode cX10_belongs 19 = .ok (.ishr, 1) := by decide +kernel
theorem dX10_belongs_20 : decode cX10_belongs 20 = .ok (.iconst 1, 1) := by decide +kernel
theorem dX10_belongs_21 : decode cX10_belongs 21 = .ok (.iand, 1) := by decide +kernel
theorem dX10_belongs_22 : decode cX10_belongs 22 = .ok (.iconst 1, 1) := by decide +kernel
theorem dX10_belongs_23 : decode cX10_belongs 23 = .ok (.if_icmp .ne 6, 3) := by decide +kernel
theorem dX10_belongs_26 : decode cX10_belongs 26 = .ok (.iload 4, 2) := by decide +kernel
theorem dX10_belongs_28 : decode cX10_belongs 28 = .ok (.ireturn, 1) := by decide +kernel
theorem dX10_belongs_29 : decode cX10_belongs 29 = .ok (.iinc 4 1, 3) := by decide +kernel
theorem dX10_belongs_32 : decode cX10_belongs 32 = .ok (.goto (-29), 3) := by decide +kernel
theorem dX10_belongs_35 : decode cX10_belongs 35 = .ok (.iconst (-1), 1) := by decide +kernel
theorem dX10_belongs_36 : decode cX10_belongs 36 = .ok (.ireturn, 1) := by decide +kernel
theorem dX10_covers_0 : decode cX10_covers 0 = .ok (.iconst (-1), 1) := by decide +kernel
theorem dX10_covers_1 : decode cX10_covers 1 = .ok (.istore_n 2, 1) := by decide +kernel
theorem dX10_covers_2 : decode cX10_covers 2 = .ok (.iload_n 2, 1) := by decide +kernel
theorem dX10_covers_3 : decode cX10_covers 3 = .ok (.aload_n 0, 1) := by decide +kernel
theorem dX10_covers_4 : decode cX10_covers 4 = .ok (.getfield 193, 3) := by decide +kernel
theorem dX10_covers_7 : decode cX10_covers 7 = .ok (.if_icmp .gt 77, 3) := by decide +kernel
theorem dX10_covers_10 : decode cX10_covers 10 = .ok (.iconst (-1), 1) := by decide +kernel
theorem dX10_covers_11 : decode cX10_covers 11 = .ok (.istore_n 3, 1) := by decide +kernel
theorem dX10_covers_12 : decode cX10_covers 12 = .ok (.iload_n 3, 1) := by decide +kernel
theorem dX10_covers_13 : decode cX10_covers 13 = .ok (.aload_n 0, 1) := by decide +kernel
theorem dX10_covers_14 : decode cX10_covers 14 = .ok (.getfield 190, 3) := by decide +kernel
theorem dX10_covers_17 : decode cX10_covers 17 = .ok (.if_icmp .gt 61, 3) := by decide +kernel
theorem dX10_covers_20 : decode cX10_covers 20 = .ok (.iconst (-1), 1) := by decide +kernel
theorem dX10_covers_21 : decode cX10_covers 21 = .ok (.istore 4, 2) := by decide +kernel
theorem dX10_covers_23 : decode cX10_covers 23 = .ok (.iload 4, 2) := by decide +kernel
theorem dX10_covers_25 : decode cX10_covers 25 = .ok (.aload_n 0, 1) := by decide +kernel
theorem dX10_covers_26 : decode cX10_covers 26 = .ok (.getfield 187, 3) := by decide +kernel
theorem dX10_covers_29 : decode cX10_covers 29 = .ok (.if_icmp .gt 43, 3) := by decide +kernel
theorem dX10_covers_32 : decode cX10_covers 32 = .ok (.aload_n 0, 1) := by decide +kernel
theorem dX10_covers_33 : decode cX10_covers 33 = .ok (.getfield 40, 3) := by decide +kernel
theorem dX10_covers_36 : decode cX10_covers 36 = .ok (.iload 4, 2) := by decide +kernel
theorem dX10_covers_38 : decode cX10_covers 38 = .ok (.iload_n 3, 1) := by decide +kernel
theorem dX10_covers_39 : decode cX10_covers 39 = .ok (.iload_n 2, 1) := by decide +kernel
theorem dX10_covers_40 : decode cX10_covers 40 = .ok (.invokestatic 209, 3) := by decide +kernel
theorem dX10_covers_43 : decode cX10_covers 43 = .ok (.baload, 1) := by decide +kernel
theorem dX10_covers_44 : decode cX10_covers 44 = .ok (.ifCond .ne 22, 3) := by decide +kernel
theorem dX10_covers_47 : decode cX10_covers 47 = .ok (.aload_n 0, 1) := by decide +kernel
theorem dX10_covers_48 : decode cX10_covers 48 = .ok (.getfield 43, 3) := by decide +kernel
theorem dX10_covers_51 : decode cX10_covers 51 = .ok (.iload 4, 2) := by decide +kernel
theorem dX10_covers_53 : decode cX10_covers 53 = .ok (.iload_n 3, 1) := by decide +kernel
theorem dX10_covers_54 : decode cX10_covers 54 = .ok (.iload_n 2, 1) := by decide +kernel
theorem dX10_covers_55 : decode cX10_covers 55 = .ok (.invokestatic 209, 3) := by decide +kernel
theorem dX10_covers_58 : decode cX10_covers 58 = .ok (.iaload, 1) := by decide +kernel
theorem dX10_covers_59 : decode cX10_covers 59 = .ok (.iload_n 1, 1) := by decide +kernel
theorem dX10_covers_60 : decode cX10_covers 60 = .ok (.iand, 1) := by decide +kernel
theorem dX10_covers_61 : decode cX10_covers 61 = .ok (.ifCond .ne 5, 3) := by decide +kernel
theorem dX10_covers_64 : decode cX10_covers 64 = .ok (.iconst 0, 1) := by decide +kernel
theorem dX10_covers_65 : decode cX10_covers 65 = .ok (.ireturn, 1) := by decide +kernel
theorem dX10_covers_66 : decode cX10_covers 66 = .ok (.iinc 4 1, 3) := by decide +kernel
theorem dX10_covers_69 : decode cX10_covers 69 = .ok (.goto (-46), 3) := by decide +kernel
theorem dX10_covers_72 : decode cX10_covers 72 = .ok (.iinc 3 1, 3) := by decide +kernel
theorem dX10_covers_75 : decode cX10_covers 75 = .ok (.goto (-63), 3) := by decide +kernel
theorem dX10_covers_78 : decode cX10_covers 78 = .ok (.iinc 2 1, 3) := by decide +kernel
theorem dX10_covers_81 : decode cX10_covers 81 = .ok (.goto (-79), 3) := by decide +kernel
theorem dX10_covers_84 : decode cX10_covers 84 = .ok (.iconst 1, 1) := by decide +kernel
theorem dX10_covers_85 : decode cX10_covers 85 = .ok (.ireturn, 1) := by decide +kernel
theorem dX10_touches_0 : decode cX10_touches 0 = .ok (.iconst 0, 1) := by decide +kernel
theorem dX10_touches_1 : decode cX10_touches 1 = .ok (.istore 4, 2) := by decide +kernel
theorem dX10_touches_3 : decode cX10_touches 3 = .ok (.iload 4, 2) := by decide +kernel
theorem dX10_touches_5 : decode cX10_touches 5 = .ok (.bipush 6, 2) := by decide +kernel
theorem dX10_touches_7 : decode cX10_touches 7 = .ok (.if_icmp .ge 71, 3) := by decide +kernel
theorem dX10_touches_10 : decode cX10_touches 10 = .ok (.aload_n 0, 1) := by decide +kernel
theorem dX10_touches_11 : decode cX10_touches 11 = .ok (.iload_n 1, 1) := by decide +kernel
theorem dX10_touches_12 : decode cX10_touches 12 = .ok (.iload 4, 2) := by decide +kernel
theorem dX10_touches_14 : decode cX10_touches 14 = .ok (.invokestatic 218, 3) := by decide +kernel
theorem dX10_touches_17 : decode cX10_touches 17 = .ok (.iadd, 1) := by decide +kernel
theorem dX10_touches_18 : decode cX10_touches 18 = .ok (.iload_n 2, 1) := by decide +kernel
theorem dX10_touches_19 : decode cX10_touches 19 = .ok (.iload 4, 2) := by decide +kernel
theorem dX10_touches_21 : decode cX10_touches 21 = .ok (.invokestatic 221, 3) := by decide +kernel
theorem dX10_touches_24 : decode cX10_touches 24 = .ok (.iadd, 1) := by decide +kernel
theorem dX10_touches_25 : decode cX10_touches 25 = .ok (.iload_n 3, 1) := by decide +kernel
theorem dX10_touches_26 : decode cX10_touches 26 = .ok (.iload 4, 2) := by decide +kernel
theorem dX10_touches_28 : decode cX10_touches 28 = .ok (.invokestatic 224, 3) := by decide +kernel
theorem dX10_touches_31 : decode cX10_touches 31 = .ok (.iadd, 1) := by decide +kernel
theorem dX10_touches_32 : decode cX10_touches 32 = .ok (.invokevirtual 215, 3) := by decide +kernel
theorem dX10_touches_35 : decode cX10_touches 35 = .ok (.ifCond .eq 37, 3) := by decide +kernel
theorem dX10_touches_38 : decode cX10_touches 38 = .ok (.aload_n 0, 1) := by decide +kernel
theorem dX10_touches_39 : decode cX10_touches 39 = .ok (.getfield 40, 3) := by decide +kernel
theorem dX10_touches_42 : decode cX10_touches 42 = .ok (.iload_n 1, 1) := by decide +kernel
theorem dX10_touches_43 : decode cX10_touches 43 = .ok (.iload 4, 2) := by decide +kernel
theorem dX10_touches_45 : decode cX10_touches 45 = .ok (.invokestatic 218, 3) := by decide +kernel
theorem dX10_touches_48 : decode cX10_touches 48 = .ok (.iadd, 1) := by decide +kernel
theorem dX10_touches_49 : decode cX10_touches 49 = .ok (.iload_n 2, 1) := by decide +kernel
theorem dX10_touches_50 : decode cX10_touches 50 = .ok (.iload 4, 2) := by decide +kernel
theorem dX10_touches_52 : decode cX10_touches 52 = .ok (.invokestatic 221, 3) := by decide +kernel
theorem dX10_touches_55 : decode cX10_touches 55 = .ok (.iadd, 1) := by decide +kernel
theorem dX10_touches_56 : decode cX10_touches 56 = .ok (.iload_n 3, 1) := by decide +kernel
theorem dX10_touches_57 : decode cX10_touches 57 = .ok (.iload 4, 2) := by decide +kernel
theorem dX10_touches_59 : decode cX10_touches 59 = .ok (.invokestatic 224, 3) := by decide +kernel
theorem dX10_touches_62 : decode cX10_touches 62 = .ok (.iadd, 1) := by decide +kernel
theorem dX10_touches_63 : decode cX10_touches 63 = .ok (.invokestatic 209, 3) := by decide +kernel
theorem dX10_touches_66 : decode cX10_touches 66 = .ok (.baload, 1) := by decide +kernel
theorem dX10_touches_67 : decode cX10_touches 67 = .ok (.ifCond .eq 5, 3) := by decide +kernel
theorem dX10_touches_70 : decode cX10_touches 70 = .ok (.iconst 1, 1) := by decide +kernel
theorem dX10_touches_71 : decode cX10_touches 71 = .ok (.ireturn, 1) := by decide +kernel
theorem dX10_touches_72 : decode cX10_touches 72 = .ok (.iinc 4 1, 3) := by decide +kernel
theorem dX10_touches_75 : decode cX10_touches 75 = .ok (.goto (-72), 3) := by decide +kernel
theorem dX10_touches_78 : decode cX10_touches 78 = .ok (.iconst 0, 1) := by decide +kernel
theorem dX10_touches_79 : decode cX10_touches 79 = .ok (.ireturn, 1) := by decide +kernel
theorem dX10_parts_0 : decode cX10_parts 0 = .ok (.iconst 0, 1) := by decide +kernel
theorem dX10_parts_1 : decode cX10_parts 1 = .ok (.istore_n 3, 1) := by decide +kernel
theorem dX10_parts_2 : decode cX10_parts 2 = .ok (.iload_n 3, 1) := by decide +kernel
theorem dX10_parts_3 : decode cX10_parts 3 = .ok (.sipush 1000, 3) := by decide +kernel
theorem dX10_parts_6 : decode cX10_parts 6 = .ok (.if_icmp .ge 16, 3) := by decide +kernel
theorem dX10_parts_9 : decode cX10_parts 9 = .ok (.aload_n 0, 1) := by decide +kernel
theorem dX10_parts_10 : decode cX10_parts 10 = .ok (.getfield 52, 3) := by decide +kernel
theorem dX10_parts_13 : decode cX10_parts 13 = .ok (.iload_n 3, 1) := by decide +kernel
theorem dX10_parts_14 : decode cX10_parts 14 = .ok (.iconst (-1), 1) := by decide +kernel
theorem dX10_parts_15 : decode cX10_parts 15 = .ok (.iastore, 1) := by decide +kernel
theorem dX10_parts_16 : decode cX10_parts 16 = .ok (.iinc 3 1, 3) := by decide +kernel
theorem dX10_parts_19 : decode cX10_parts 19 = .ok (.goto (-17), 3) := by decide +kernel
theorem dX10_parts_22 : decode cX10_parts 22 = .ok (.aload_n 0, 1) := by decide +kernel
theorem dX10_parts_23 : decode cX10_parts 23 = .ok (.iconst 0, 1) := by decide +kernel
theorem dX10_parts_24 : decode cX10_parts 24 = .ok (.putfield 227, 3) := by decide +kernel
theorem dX10_parts_27 : decode cX10_parts 27 = .ok (.iconst 0, 1) := by decide +kernel
theorem dX10_parts_28 : decode cX10_parts 28 = .ok (.istore_n 3, 1) := by decide +kernel
theorem dX10_parts_29 : decode cX10_parts 29 = .ok (.iload_n 3, 1) := by decide +kernel
theorem dX10_parts_30 : decode cX10_parts 30 = .ok (.iload_n 2, 1) := by decide +kernel
theorem dX10_parts_31 : decode cX10_parts 31 = .ok (.if_icmp .ge 119, 3) := by decide +kernel
theorem dX10_parts_34 : decode cX10_parts 34 = .ok (.iconst (-1), 1) := by decide +kernel
theorem dX10_parts_35 : decode cX10_parts 35 = .ok (.istore 4, 2) := by decide +kernel
theorem dX10_parts_37 : decode cX10_parts 37 = .ok (.iload 4, 2) := by decide +kernel
theorem dX10_parts_39 : decode cX10_parts 39 = .ok (.aload_n 0, 1) := by decide +kernel
theorem dX10_parts_40 : decode cX10_parts 40 = .ok (.getfield 193, 3) := by decide +kernel
theorem dX10_parts_43 : decode cX10_parts 43 = .ok (.if_icmp .gt 101, 3) := by decide +kernel
theorem dX10_parts_46 : decode cX10_parts 46 = .ok (.iconst (-1), 1) := by decide +kernel
theorem dX10_parts_47 : decode cX10_parts 47 = .ok (.istore 5, 2) := by decide +kernel
theorem dX10_parts_49 : decode cX10_parts 49 = .ok (.iload 5, 2) := by decide +kernel
theorem dX10_parts_51 : decode cX10_parts 51 = .ok (.aload_n 0, 1) := by decide +kernel
theorem dX10_parts_52 : decode cX10_parts 52 = .ok (.getfield 190, 3) := by decide +kernel
theorem dX10_parts_55 : decode cX10_parts 55 = .ok (.if_icmp .gt 83, 3) := by decide +kernel
theorem dX10_parts_58 : decode cX10_parts 58 = .ok (.iconst (-1), 1) := by decide +kernel
theorem dX10_parts_59 : decode cX10_parts 59 = .ok (.istore 6, 2) := by decide +kernel
theorem dX10_parts_61 : decode cX10_parts 61 = .ok (.iload 6, 2) := by decide +kernel
theorem dX10_parts_63 : decode cX10_parts 63 = .ok (.aload_n 0, 1) := by decide +kernel
theorem dX10_parts_64 : decode cX10_parts 64 = .ok (.getfield 187, 3) := by decide +kernel
theorem dX10_parts_67 : decode cX10_parts 67 = .ok (.if_icmp .gt 65, 3) := by decide +kernel
theorem dX10_parts_70 : decode cX10_parts 70 = .ok (.iload 6, 2) := by decide +kernel
theorem dX10_parts_72 : decode cX10_parts 72 = .ok (.iload 5, 2) := by decide +kernel
theorem dX10_parts_74 : decode cX10_parts 74 = .ok (.iload 4, 2) := by decide +kernel
theorem dX10_parts_76 : decode cX10_parts 76 = .ok (.invokestatic 209, 3) := by decide +kernel
theorem dX10_parts_79 : decode cX10_parts 79 = .ok (.istore 7, 2) := by decide +kernel
theorem dX10_parts_81 : decode cX10_parts 81 = .ok (.aload_n 0, 1) := by decide +kernel
theorem dX10_parts_82 : decode cX10_parts 82 = .ok (.getfield 40, 3) := by decide +kernel
theorem dX10_parts_85 : decode cX10_parts 85 = .ok (.iload 7, 2) := by decide +kernel
theorem dX10_parts_87 : decode cX10_parts 87 = .ok (.baload, 1) := by decide +kernel
theorem dX10_parts_88 : decode cX10_parts 88 = .ok (.ifCond .ne 38, 3) := by decide +kernel
theorem dX10_parts_91 : decode cX10_parts 91 = .ok (.aload_n 0, 1) := by decide +kernel
theorem dX10_parts_92 : decode cX10_parts 92 = .ok (.getfield 52, 3) := by decide +kernel
theorem dX10_parts_95 : decode cX10_parts 95 = .ok (.iload 7, 2) := by decide +kernel
theorem dX10_parts_97 : decode cX10_parts 97 = .ok (.iaload, 1) := by decide +kernel
theorem dX10_parts_98 : decode cX10_parts 98 = .ok (.iconst (-1), 1) := by decide +kernel
theorem dX10_parts_99 : decode cX10_parts 99 = .ok (.if_icmp .ne 27, 3) := by decide +kernel
theorem dX10_parts_102 : decode cX10_parts 102 = .ok (.aload_n 0, 1) := by decide +kernel
theorem dX10_parts_103 : decode cX10_parts 103 = .ok (.iload 7, 2) := by decide +kernel
theorem dX10_parts_105 : decode cX10_parts 105 = .ok (.aload_n 1, 1) := by decide +kernel
theorem dX10_parts_106 : decode cX10_parts 106 = .ok (.iload_n 2, 1) := by decide +kernel
theorem dX10_parts_107 : decode cX10_parts 107 = .ok (.invokevirtual 230, 3) := by decide +kernel
theorem dX10_parts_110 : decode cX10_parts 110 = .ok (.iload_n 3, 1) := by decide +kernel
theorem dX10_parts_111 : decode cX10_parts 111 = .ok (.if_icmp .eq 6, 3) := by decide +kernel
theorem dX10_parts_114 : decode cX10_parts 114 = .ok (.goto 12, 3) := by decide +kernel
theorem dX10_parts_117 : decode cX10_parts 117 = .ok (.aload_n 0, 1) := by decide +kernel
theorem dX10_parts_118 : decode cX10_parts 118 = .ok (.iload 7, 2) := by decide +kernel
theorem dX10_parts_120 : decode cX10_parts 120 = .ok (.aload_n 1, 1) := by decide +kernel
theorem dX10_parts_121 : decode cX10_parts 121 = .ok (.iload_n 2, 1) := by decide +kernel
theorem dX10_parts_122 : decode cX10_parts 122 = .ok (.iload_n 3, 1) := by decide +kernel
theorem dX10_parts_123 : decode cX10_parts 123 = .ok (.invokevirtual 234, 3) := by decide +kernel
theorem dX10_parts_126 : decode cX10_parts 126 = .ok (.iinc 6 1, 3) := by decide +kernel
theorem dX10_parts_129 : decode cX10_parts 129 = .ok (.goto (-68), 3) := by decide +kernel
theorem dX10_parts_132 : decode cX10_parts 132 = .ok (.iinc 5 1, 3) := by decide +kernel
theorem dX10_parts_135 : decode cX10_parts 135 = .ok (.goto (-86), 3) := by decide +kernel
theorem dX10_parts_138 : decode cX10_parts 138 = .ok (.iinc 4 1, 3) := by decide +kernel
theorem dX10_parts_141 : decode cX10_parts 141 = .ok (.goto (-104), 3) := by decide +kernel
theorem dX10_parts_144 : decode cX10_parts 144 = .ok (.iinc 3 1, 3) := by decide +kernel
theorem dX10_parts_147 : decode cX10_parts 147 = .ok (.goto (-118), 3) := by decide +kernel
theorem dX10_parts_150 : decode cX10_parts 150 = .ok (.aload_n 0, 1) := by decide +kernel
theorem dX10_parts_151 : decode cX10_parts 151 = .ok (.getfield 227, 3) := by decide +kernel
theorem dX10_parts_154 : decode cX10_parts 154 = .ok (.ireturn, 1) := by decide +kernel
theorem dX10_hangs_0 : decode cX10_hangs 0 = .ok (.iconst 1, 1) := by decide +kernel
theorem dX10_hangs_1 : decode cX10_hangs 1 = .ok (.istore 5, 2) := by decide +kernel
theorem dX10_hangs_3 : decode cX10_hangs 3 = .ok (.aload_n 0, 1) := by decide +kernel
theorem dX10_hangs_4 : decode cX10_hangs 4 = .ok (.getfield 55, 3) := by decide +kernel
theorem dX10_hangs_7 : decode cX10_hangs 7 = .ok (.iconst 0, 1) := by decide +kernel
theorem dX10_hangs_8 : decode cX10_hangs 8 = .ok (.iload_n 1, 1) := by decide +kernel
theorem dX10_hangs_9 : decode cX10_hangs 9 = .ok (.iastore, 1) := by decide +kernel
theorem dX10_hangs_10 : decode cX10_hangs 10 = .ok (.aload_n 0, 1) := by decide +kernel
theorem dX10_hangs_11 : decode cX10_hangs 11 = .ok (.getfield 52, 3) := by decide +kernel
theorem dX10_hangs_14 : decode cX10_hangs 14 = .ok (.iload_n 1, 1) := by decide +kernel
theorem dX10_hangs_15 : decode cX10_hangs 15 = .ok (.aload_n 0, 1) := by decide +kernel
theorem dX10_hangs_16 : decode cX10_hangs 16 = .ok (.getfield 227, 3) := by decide +kernel
theorem dX10_hangs_19 : decode cX10_hangs 19 = .ok (.iastore, 1) := by decide +kernel
theorem dX10_hangs_20 : decode cX10_hangs 20 = .ok (.aload_n 0, 1) := by decide +kernel
theorem dX10_hangs_21 : decode cX10_hangs 21 = .ok (.getfield 58, 3) := by decide +kernel
theorem dX10_hangs_24 : decode cX10_hangs 24 = .ok (.aload_n 0, 1) := by decide +kernel
theorem dX10_hangs_25 : decode cX10_hangs 25 = .ok (.getfield 227, 3) := by decide +kernel
theorem dX10_hangs_28 : decode cX10_hangs 28 = .ok (.aload_n 2, 1) := by decide +kernel
theorem dX10_hangs_29 : decode cX10_hangs 29 = .ok (.iload 4, 2) := by decide +kernel
theorem dX10_hangs_31 : decode cX10_hangs 31 = .ok (.iaload, 1) := by decide +kernel
theorem dX10_hangs_32 : decode cX10_hangs 32 = .ok (.iastore, 1) := by decide +kernel
theorem dX10_hangs_33 : decode cX10_hangs 33 = .ok (.aload_n 0, 1) := by decide +kernel
theorem dX10_hangs_34 : decode cX10_hangs 34 = .ok (.getfield 61, 3) := by decide +kernel
theorem dX10_hangs_37 : decode cX10_hangs 37 = .ok (.aload_n 0, 1) := by decide +kernel
theorem dX10_hangs_38 : decode cX10_hangs 38 = .ok (.getfield 227, 3) := by decide +kernel
theorem dX10_hangs_41 : decode cX10_hangs 41 = .ok (.iconst 0, 1) := by decide +kernel
theorem dX10_hangs_42 : decode cX10_hangs 42 = .ok (.iastore, 1) := by decide +kernel
theorem dX10_hangs_43 : decode cX10_hangs 43 = .ok (.aload_n 0, 1) := by decide +kernel
theorem dX10_hangs_44 : decode cX10_hangs 44 = .ok (.getfield 64, 3) := by decide +kernel
theorem dX10_hangs_47 : decode cX10_hangs 47 = .ok (.aload_n 0, 1) := by decide +kernel
theorem dX10_hangs_48 : decode cX10_hangs 48 = .ok (.getfield 227, 3) := by decide +kernel
theorem dX10_hangs_51 : decode cX10_hangs 51 = .ok (.iconst 0, 1) := by decide +kernel
theorem dX10_hangs_52 : decode cX10_hangs 52 = .ok (.iastore, 1) := by decide +kernel
theorem dX10_hangs_53 : decode cX10_hangs 53 = .ok (.aload_n 0, 1) := by decide +kernel
theorem dX10_hangs_54 : decode cX10_hangs 54 = .ok (.getfield 67, 3) := by decide +kernel
theorem dX10_hangs_57 : decode cX10_hangs 57 = .ok (.aload_n 0, 1) := by decide +kernel
theorem dX10_hangs_58 : decode cX10_hangs 58 = .ok (.getfield 227, 3) := by decide +kernel
theorem dX10_hangs_61 : decode cX10_hangs 61 = .ok (.iconst 0, 1) := by decide +kernel
theorem dX10_hangs_62 : decode cX10_hangs 62 = .ok (.iastore, 1) := by decide +kernel
theorem dX10_hangs_63 : decode cX10_hangs 63 = .ok (.iconst 0, 1) := by decide +kernel
theorem dX10_hangs_64 : decode cX10_hangs 64 = .ok (.istore 6, 2) := by decide +kernel
theorem dX10_hangs_66 : decode cX10_hangs 66 = .ok (.iload 6, 2) := by decide +kernel
theorem dX10_hangs_68 : decode cX10_hangs 68 = .ok (.iload 5, 2) := by decide +kernel
theorem dX10_hangs_70 : decode cX10_hangs 70 = .ok (.if_icmp .ge 226, 3) := by decide +kernel
theorem dX10_hangs_73 : decode cX10_hangs 73 = .ok (.aload_n 0, 1) := by decide +kernel
theorem dX10_hangs_74 : decode cX10_hangs 74 = .ok (.getfield 55, 3) := by decide +kernel
theorem dX10_hangs_77 : decode cX10_hangs 77 = .ok (.iload 6, 2) := by decide +kernel
theorem dX10_hangs_79 : decode cX10_hangs 79 = .ok (.iaload, 1) := by decide +kernel
theorem dX10_hangs_80 : decode cX10_hangs 80 = .ok (.bipush 10, 2) := by decide +kernel
theorem dX10_hangs_82 : decode cX10_hangs 82 = .ok (.irem, 1) := by decide +kernel
theorem dX10_hangs_83 : decode cX10_hangs 83 = .ok (.iconst 1, 1) := by decide +kernel
theorem dX10_hangs_84 : decode cX10_hangs 84 = .ok (.isub, 1) := by decide +kernel
theorem dX10_hangs_85 : decode cX10_hangs 85 = .ok (.istore 7, 2) := by decide +kernel
theorem dX10_hangs_87 : decode cX10_hangs 87 = .ok (.aload_n 0, 1) := by decide +kernel
theorem dX10_hangs_88 : decode cX10_hangs 88 = .ok (.getfield 55, 3) := by decide +kernel
theorem dX10_hangs_91 : decode cX10_hangs 91 = .ok (.iload 6, 2) := by decide +kernel
theorem dX10_hangs_93 : decode cX10_hangs 93 = .ok (.iaload, 1) := by decide +kernel
theorem dX10_hangs_94 : decode cX10_hangs 94 = .ok (.bipush 10, 2) := by decide +kernel
theorem dX10_hangs_96 : decode cX10_hangs 96 = .ok (.idiv, 1) := by decide +kernel
theorem dX10_hangs_97 : decode cX10_hangs 97 = .ok (.bipush 10, 2) := by decide +kernel
theorem dX10_hangs_99 : decode cX10_hangs 99 = .ok (.irem, 1) := by decide +kernel
theorem dX10_hangs_100 : decode cX10_hangs 100 = .ok (.iconst 1, 1) := by decide +kernel
theorem dX10_hangs_101 : decode cX10_hangs 101 = .ok (.isub, 1) := by decide +kernel
theorem dX10_hangs_102 : decode cX10_hangs 102 = .ok (.istore 8, 2) := by decide +kernel
theorem dX10_hangs_104 : decode cX10_hangs 104 = .ok (.aload_n 0, 1) := by decide +kernel
theorem dX10_hangs_105 : decode cX10_hangs 105 = .ok (.getfield 55, 3) := by decide +kernel
theorem dX10_hangs_108 : decode cX10_hangs 108 = .ok (.iload 6, 2) := by decide +kernel
theorem dX10_hangs_110 : decode cX10_hangs 110 = .ok (.iaload, 1) := by decide +kernel
theorem dX10_hangs_111 : decode cX10_hangs 111 = .ok (.bipush 100, 2) := by decide +kernel
theorem dX10_hangs_113 : decode cX10_hangs 113 = .ok (.idiv, 1) := by decide +kernel
theorem dX10_hangs_114 : decode cX10_hangs 114 = .ok (.iconst 1, 1) := by decide +kernel
theorem dX10_hangs_115 : decode cX10_hangs 115 = .ok (.isub, 1) := by decide +kernel
theorem dX10_hangs_116 : decode cX10_hangs 116 = .ok (.istore 9, 2) := by decide +kernel
theorem dX10_hangs_118 : decode cX10_hangs 118 = .ok (.aload_n 0, 1) := by decide +kernel
theorem dX10_hangs_119 : decode cX10_hangs 119 = .ok (.getfield 61, 3) := by decide +kernel
theorem dX10_hangs_122 : decode cX10_hangs 122 = .ok (.aload_n 0, 1) := by decide +kernel
theorem dX10_hangs_123 : decode cX10_hangs 123 = .ok (.getfield 227, 3) := by decide +kernel
theorem dX10_hangs_126 : decode cX10_hangs 126 = .ok (.dup2, 1) := by decide +kernel
theorem dX10_hangs_127 : decode cX10_hangs 127 = .ok (.iaload, 1) := by decide +kernel
theorem dX10_hangs_128 : decode cX10_hangs 128 = .ok (.iconst 1, 1) := by decide +kernel
theorem dX10_hangs_129 : decode cX10_hangs 129 = .ok (.iadd, 1) := by decide +kernel
theorem dX10_hangs_130 : decode cX10_hangs 130 = .ok (.iastore, 1) := by decide +kernel
theorem dX10_hangs_131 : decode cX10_hangs 131 = .ok (.aload_n 0, 1) := by decide +kernel
theorem dX10_hangs_132 : decode cX10_hangs 132 = .ok (.iload 7, 2) := by decide +kernel
theorem dX10_hangs_134 : decode cX10_hangs 134 = .ok (.iload 8, 2) := by decide +kernel
theorem dX10_hangs_136 : decode cX10_hangs 136 = .ok (.iload 9, 2) := by decide +kernel
theorem dX10_hangs_138 : decode cX10_hangs 138 = .ok (.invokevirtual 238, 3) := by decide +kernel
theorem dX10_hangs_141 : decode cX10_hangs 141 = .ok (.ifCond .eq 16, 3) := by decide +kernel
theorem dX10_hangs_144 : decode cX10_hangs 144 = .ok (.aload_n 0, 1) := by decide +kernel
theorem dX10_hangs_145 : decode cX10_hangs 145 = .ok (.getfield 64, 3) := by decide +kernel
theorem dX10_hangs_148 : decode cX10_hangs 148 = .ok (.aload_n 0, 1) := by decide +kernel
theorem dX10_hangs_149 : decode cX10_hangs 149 = .ok (.getfield 227, 3) := by decide +kernel
theorem dX10_hangs_152 : decode cX10_hangs 152 = .ok (.dup2, 1) := by decide +kernel
theorem dX10_hangs_153 : decode cX10_hangs 153 = .ok (.iaload, 1) := by decide +kernel
theorem dX10_hangs_154 : decode cX10_hangs 154 = .ok (.iconst 1, 1) := by decide +kernel
theorem dX10_hangs_155 : decode cX10_hangs 155 = .ok (.iadd, 1) := by decide +kernel
theorem dX10_hangs_156 : decode cX10_hangs 156 = .ok (.iastore, 1) := by decide +kernel
theorem dX10_hangs_157 : decode cX10_hangs 157 = .ok (.iconst 0, 1) := by decide +kernel
theorem dX10_hangs_158 : decode cX10_hangs 158 = .ok (.istore 10, 2) := by decide +kernel
theorem dX10_hangs_160 : decode cX10_hangs 160 = .ok (.iload 10, 2) := by decide +kernel
theorem dX10_hangs_162 : decode cX10_hangs 162 = .ok (.bipush 6, 2) := by decide +kernel
theorem dX10_hangs_164 : decode cX10_hangs 164 = .ok (.if_icmp .ge 126, 3) := by decide +kernel
theorem dX10_hangs_167 : decode cX10_hangs 167 = .ok (.iload 7, 2) := by decide +kernel
theorem dX10_hangs_169 : decode cX10_hangs 169 = .ok (.iload 10, 2) := by decide +kernel
theorem dX10_hangs_171 : decode cX10_hangs 171 = .ok (.invokestatic 218, 3) := by decide +kernel
theorem dX10_hangs_174 : decode cX10_hangs 174 = .ok (.iadd, 1) := by decide +kernel
theorem dX10_hangs_175 : decode cX10_hangs 175 = .ok (.istore 11, 2) := by decide +kernel
theorem dX10_hangs_177 : decode cX10_hangs 177 = .ok (.iload 8, 2) := by decide +kernel
theorem dX10_hangs_179 : decode cX10_hangs 179 = .ok (.iload 10, 2) := by decide +kernel
theorem dX10_hangs_181 : decode cX10_hangs 181 = .ok (.invokestatic 221, 3) := by decide +kernel
theorem dX10_hangs_184 : decode cX10_hangs 184 = .ok (.iadd, 1) := by decide +kernel
theorem dX10_hangs_185 : decode cX10_hangs 185 = .ok (.istore 12, 2) := by decide +kernel
theorem dX10_hangs_187 : decode cX10_hangs 187 = .ok (.iload 9, 2) := by decide +kernel
theorem dX10_hangs_189 : decode cX10_hangs 189 = .ok (.iload 10, 2) := by decide +kernel
theorem dX10_hangs_191 : decode cX10_hangs 191 = .ok (.invokestatic 224, 3) := by decide +kernel
theorem dX10_hangs_194 : decode cX10_hangs 194 = .ok (.iadd, 1) := by decide +kernel
theorem dX10_hangs_195 : decode cX10_hangs 195 = .ok (.istore 13, 2) := by decide +kernel
theorem dX10_hangs_197 : decode cX10_hangs 197 = .ok (.aload_n 0, 1) := by decide +kernel
theorem dX10_hangs_198 : decode cX10_hangs 198 = .ok (.iload 11, 2) := by decide +kernel
theorem dX10_hangs_200 : decode cX10_hangs 200 = .ok (.iload 12, 2) := by decide +kernel
theorem dX10_hangs_202 : decode cX10_hangs 202 = .ok (.iload 13, 2) := by decide +kernel
theorem dX10_hangs_204 : decode cX10_hangs 204 = .ok (.invokevirtual 215, 3) := by decide +kernel
theorem dX10_hangs_207 : decode cX10_hangs 207 = .ok (.ifCond .ne 6, 3) := by decide +kernel
theorem dX10_hangs_210 : decode cX10_hangs 210 = .ok (.goto 74, 3) := by decide +kernel
theorem dX10_hangs_213 : decode cX10_hangs 213 = .ok (.iload 11, 2) := by decide +kernel
theorem dX10_hangs_215 : decode cX10_hangs 215 = .ok (.iload 12, 2) := by decide +kernel
theorem dX10_hangs_217 : decode cX10_hangs 217 = .ok (.iload 13, 2) := by decide +kernel
theorem dX10_hangs_219 : decode cX10_hangs 219 = .ok (.invokestatic 209, 3) := by decide +kernel
theorem dX10_hangs_222 : decode cX10_hangs 222 = .ok (.istore 14, 2) := by decide +kernel
theorem dX10_hangs_224 : decode cX10_hangs 224 = .ok (.aload_n 0, 1) := by decide +kernel
theorem dX10_hangs_225 : decode cX10_hangs 225 = .ok (.getfield 40, 3) := by decide +kernel
theorem dX10_hangs_228 : decode cX10_hangs 228 = .ok (.iload 14, 2) := by decide +kernel
theorem dX10_hangs_230 : decode cX10_hangs 230 = .ok (.baload, 1) := by decide +kernel
theorem dX10_hangs_231 : decode cX10_hangs 231 = .ok (.ifCond .ne 53, 3) := by decide +kernel
theorem dX10_hangs_234 : decode cX10_hangs 234 = .ok (.aload_n 0, 1) := by decide +kernel
theorem dX10_hangs_235 : decode cX10_hangs 235 = .ok (.getfield 52, 3) := by decide +kernel
theorem dX10_hangs_238 : decode cX10_hangs 238 = .ok (.iload 14, 2) := by decide +kernel
theorem dX10_hangs_240 : decode cX10_hangs 240 = .ok (.iaload, 1) := by decide +kernel
theorem dX10_hangs_241 : decode cX10_hangs 241 = .ok (.iconst (-1), 1) := by decide +kernel
theorem dX10_hangs_242 : decode cX10_hangs 242 = .ok (.if_icmp .ne 42, 3) := by decide +kernel
theorem dX10_hangs_245 : decode cX10_hangs 245 = .ok (.aload_n 0, 1) := by decide +kernel
theorem dX10_hangs_246 : decode cX10_hangs 246 = .ok (.iload 14, 2) := by decide +kernel
theorem dX10_hangs_248 : decode cX10_hangs 248 = .ok (.aload_n 2, 1) := by decide +kernel
theorem dX10_hangs_249 : decode cX10_hangs 249 = .ok (.iload_n 3, 1) := by decide +kernel
theorem dX10_hangs_250 : decode cX10_hangs 250 = .ok (.invokevirtual 230, 3) := by decide +kernel
theorem dX10_hangs_253 : decode cX10_hangs 253 = .ok (.iload 4, 2) := by decide +kernel
theorem dX10_hangs_255 : decode cX10_hangs 255 = .ok (.if_icmp .eq 6, 3) := by decide +kernel
theorem dX10_hangs_258 : decode cX10_hangs 258 = .ok (.goto 26, 3) := by decide +kernel
theorem dX10_hangs_261 : decode cX10_hangs 261 = .ok (.aload_n 0, 1) := by decide +kernel
theorem dX10_hangs_262 : decode cX10_hangs 262 = .ok (.getfield 52, 3) := by decide +kernel
theorem dX10_hangs_265 : decode cX10_hangs 265 = .ok (.iload 14, 2) := by decide +kernel
theorem dX10_hangs_267 : decode cX10_hangs 267 = .ok (.aload_n 0, 1) := by decide +kernel
theorem dX10_hangs_268 : decode cX10_hangs 268 = .ok (.getfield 227, 3) := by decide +kernel
theorem dX10_hangs_271 : decode cX10_hangs 271 = .ok (.iastore, 1) := by decide +kernel
theorem dX10_hangs_272 : decode cX10_hangs 272 = .ok (.aload_n 0, 1) := by decide +kernel
theorem dX10_hangs_273 : decode cX10_hangs 273 = .ok (.getfield 55, 3) := by decide +kernel
theorem dX10_hangs_276 : decode cX10_hangs 276 = .ok (.iload 5, 2) := by decide +kernel
theorem dX10_hangs_278 : decode cX10_hangs 278 = .ok (.iload 14, 2) := by decide +kernel
theorem dX10_hangs_280 : decode cX10_hangs 280 = .ok (.iastore, 1) := by decide +kernel
theorem dX10_hangs_281 : decode cX10_hangs 281 = .ok (.iinc 5 1, 3) := by decide +kernel
theorem dX10_hangs_284 : decode cX10_hangs 284 = .ok (.iinc 10 1, 3) := by decide +kernel
theorem dX10_hangs_287 : decode cX10_hangs 287 = .ok (.goto (-127), 3) := by decide +kernel
theorem dX10_hangs_290 : decode cX10_hangs 290 = .ok (.iinc 6 1, 3) := by decide +kernel
theorem dX10_hangs_293 : decode cX10_hangs 293 = .ok (.goto (-227), 3) := by decide +kernel
theorem dX10_hangs_296 : decode cX10_hangs 296 = .ok (.aload_n 0, 1) := by decide +kernel
theorem dX10_hangs_297 : decode cX10_hangs 297 = .ok (.dup, 1) := by decide +kernel
theorem dX10_hangs_298 : decode cX10_hangs 298 = .ok (.getfield 227, 3) := by decide +kernel
theorem dX10_hangs_301 : decode cX10_hangs 301 = .ok (.iconst 1, 1) := by decide +kernel
theorem dX10_hangs_302 : decode cX10_hangs 302 = .ok (.iadd, 1) := by decide +kernel
theorem dX10_hangs_303 : decode cX10_hangs 303 = .ok (.putfield 227, 3) := by decide +kernel
theorem dX10_hangs_306 : decode cX10_hangs 306 = .ok (.return_, 1) := by decide +kernel
theorem dX10_ones_0 : decode cX10_ones 0 = .ok (.iconst 0, 1) := by decide +kernel
theorem dX10_ones_1 : decode cX10_ones 1 = .ok (.istore_n 1, 1) := by decide +kernel
theorem dX10_ones_2 : decode cX10_ones 2 = .ok (.iconst 0, 1) := by decide +kernel
theorem dX10_ones_3 : decode cX10_ones 3 = .ok (.istore_n 2, 1) := by decide +kernel
theorem dX10_ones_4 : decode cX10_ones 4 = .ok (.iload_n 2, 1) := by decide +kernel
theorem dX10_ones_5 : decode cX10_ones 5 = .ok (.bipush 6, 2) := by decide +kernel
theorem dX10_ones_7 : decode cX10_ones 7 = .ok (.if_icmp .ge 17, 3) := by decide +kernel
theorem dX10_ones_10 : decode cX10_ones 10 = .ok (.iload_n 1, 1) := by decide +kernel
theorem dX10_ones_11 : decode cX10_ones 11 = .ok (.iload_n 0, 1) := by decide +kernel
theorem dX10_ones_12 : decode cX10_ones 12 = .ok (.iload_n 2, 1) := by decide +kernel
theorem dX10_ones_13 : decode cX10_ones 13 = .ok (.ishr, 1) := by decide +kernel
theorem dX10_ones_14 : decode cX10_ones 14 = .ok (.iconst 1, 1) := by decide +kernel
theorem dX10_ones_15 : decode cX10_ones 15 = .ok (.iand, 1) := by decide +kernel
theorem dX10_ones_16 : decode cX10_ones 16 = .ok (.iadd, 1) := by decide +kernel
theorem dX10_ones_17 : decode cX10_ones 17 = .ok (.istore_n 1, 1) := by decide +kernel
theorem dX10_ones_18 : decode cX10_ones 18 = .ok (.iinc 2 1, 3) := by decide +kernel
theorem dX10_ones_21 : decode cX10_ones 21 = .ok (.goto (-17), 3) := by decide +kernel
theorem dX10_ones_24 : decode cX10_ones 24 = .ok (.iload_n 1, 1) := by decide +kernel
theorem dX10_ones_25 : decode cX10_ones 25 = .ok (.ireturn, 1) := by decide +kernel
theorem dX10_fewest_0 : decode cX10_fewest 0 = .ok (.bipush 7, 2) := by decide +kernel
theorem dX10_fewest_2 : decode cX10_fewest 2 = .ok (.istore_n 1, 1) := by decide +kernel
theorem dX10_fewest_3 : decode cX10_fewest 3 = .ok (.iconst 1, 1) := by decide +kernel
theorem dX10_fewest_4 : decode cX10_fewest 4 = .ok (.istore_n 2, 1) := by decide +kernel
theorem dX10_fewest_5 : decode cX10_fewest 5 = .ok (.iload_n 2, 1) := by decide +kernel
theorem dX10_fewest_6 : decode cX10_fewest 6 = .ok (.bipush 64, 2) := by decide +kernel
theorem dX10_fewest_8 : decode cX10_fewest 8 = .ok (.if_icmp .ge 30, 3) := by decide +kernel
theorem dX10_fewest_11 : decode cX10_fewest 11 = .ok (.iload_n 2, 1) := by decide +kernel
theorem dX10_fewest_12 : decode cX10_fewest 12 = .ok (.invokestatic 241, 3) := by decide +kernel
theorem dX10_fewest_15 : decode cX10_fewest 15 = .ok (.iload_n 1, 1) := by decide +kernel
theorem dX10_fewest_16 : decode cX10_fewest 16 = .ok (.if_icmp .ge 16, 3) := by decide +kernel
theorem dX10_fewest_19 : decode cX10_fewest 19 = .ok (.aload_n 0, 1) := by decide +kernel
theorem dX10_fewest_20 : decode cX10_fewest 20 = .ok (.iload_n 2, 1) := by decide +kernel
theorem dX10_fewest_21 : decode cX10_fewest 21 = .ok (.invokevirtual 244, 3) := by decide +kernel
theorem dX10_fewest_24 : decode cX10_fewest 24 = .ok (.ifCond .eq 8, 3) := by decide +kernel
theorem dX10_fewest_27 : decode cX10_fewest 27 = .ok (.iload_n 2, 1) := by decide +kernel
theorem dX10_fewest_28 : decode cX10_fewest 28 = .ok (.invokestatic 241, 3) := by decide +kernel
theorem dX10_fewest_31 : decode cX10_fewest 31 = .ok (.istore_n 1, 1) := by decide +kernel
theorem dX10_fewest_32 : decode cX10_fewest 32 = .ok (.iinc 2 1, 3) := by decide +kernel
theorem dX10_fewest_35 : decode cX10_fewest 35 = .ok (.goto (-30), 3) := by decide +kernel
theorem dX10_fewest_38 : decode cX10_fewest 38 = .ok (.iload_n 1, 1) := by decide +kernel
theorem dX10_fewest_39 : decode cX10_fewest 39 = .ok (.ireturn, 1) := by decide +kernel
theorem dX10_draw_0 : decode cX10_draw 0 = .ok (.aload_n 0, 1) := by decide +kernel
theorem dX10_draw_1 : decode cX10_draw 1 = .ok (.getfield 183, 3) := by decide +kernel
theorem dX10_draw_4 : decode cX10_draw 4 = .ok (.ifCond .ne 5, 3) := by decide +kernel
theorem dX10_draw_7 : decode cX10_draw 7 = .ok (.iconst (-1), 1) := by decide +kernel
theorem dX10_draw_8 : decode cX10_draw 8 = .ok (.ireturn, 1) := by decide +kernel
theorem dX10_draw_9 : decode cX10_draw 9 = .ok (.aload_n 0, 1) := by decide +kernel
theorem dX10_draw_10 : decode cX10_draw 10 = .ok (.invokevirtual 247, 3) := by decide +kernel
theorem dX10_draw_13 : decode cX10_draw 13 = .ok (.istore_n 1, 1) := by decide +kernel
theorem dX10_draw_14 : decode cX10_draw 14 = .ok (.iload_n 1, 1) := by decide +kernel
theorem dX10_draw_15 : decode cX10_draw 15 = .ok (.bipush 7, 2) := by decide +kernel
theorem dX10_draw_17 : decode cX10_draw 17 = .ok (.if_icmp .ne 6, 3) := by decide +kernel
theorem dX10_draw_20 : decode cX10_draw 20 = .ok (.bipush (-2), 2) := by decide +kernel
theorem dX10_draw_22 : decode cX10_draw 22 = .ok (.ireturn, 1) := by decide +kernel
theorem dX10_draw_23 : decode cX10_draw 23 = .ok (.iconst 1, 1) := by decide +kernel
theorem dX10_draw_24 : decode cX10_draw 24 = .ok (.istore_n 2, 1) := by decide +kernel
theorem dX10_draw_25 : decode cX10_draw 25 = .ok (.iconst 0, 1) := by decide +kernel
theorem dX10_draw_26 : decode cX10_draw 26 = .ok (.istore_n 3, 1) := by decide +kernel
theorem dX10_draw_27 : decode cX10_draw 27 = .ok (.iload_n 3, 1) := by decide +kernel
theorem dX10_draw_28 : decode cX10_draw 28 = .ok (.iload_n 1, 1) := by decide +kernel
theorem dX10_draw_29 : decode cX10_draw 29 = .ok (.if_icmp .ge 14, 3) := by decide +kernel
theorem dX10_draw_32 : decode cX10_draw 32 = .ok (.iload_n 2, 1) := by decide +kernel
theorem dX10_draw_33 : decode cX10_draw 33 = .ok (.bipush 6, 2) := by decide +kernel
theorem dX10_draw_35 : decode cX10_draw 35 = .ok (.imul, 1) := by decide +kernel
theorem dX10_draw_36 : decode cX10_draw 36 = .ok (.istore_n 2, 1) := by decide +kernel
theorem dX10_draw_37 : decode cX10_draw 37 = .ok (.iinc 3 1, 3) := by decide +kernel
theorem dX10_draw_40 : decode cX10_draw 40 = .ok (.goto (-13), 3) := by decide +kernel
theorem dX10_draw_43 : decode cX10_draw 43 = .ok (.ldc 250, 2) := by decide +kernel
theorem dX10_draw_45 : decode cX10_draw 45 = .ok (.istore_n 3, 1) := by decide +kernel
theorem dX10_draw_46 : decode cX10_draw 46 = .ok (.iconst 0, 1) := by decide +kernel
theorem dX10_draw_47 : decode cX10_draw 47 = .ok (.istore 4, 2) := by decide +kernel
theorem dX10_draw_49 : decode cX10_draw 49 = .ok (.iload 4, 2) := by decide +kernel
theorem dX10_draw_51 : decode cX10_draw 51 = .ok (.iload_n 2, 1) := by decide +kernel
theorem dX10_draw_52 : decode cX10_draw 52 = .ok (.if_icmp .ge 138, 3) := by decide +kernel
theorem dX10_draw_55 : decode cX10_draw 55 = .ok (.iload 4, 2) := by decide +kernel
theorem dX10_draw_57 : decode cX10_draw 57 = .ok (.istore 5, 2) := by decide +kernel
theorem dX10_draw_59 : decode cX10_draw 59 = .ok (.iconst 0, 1) := by decide +kernel
theorem dX10_draw_60 : decode cX10_draw 60 = .ok (.istore 6, 2) := by decide +kernel
theorem dX10_draw_62 : decode cX10_draw 62 = .ok (.iload_n 1, 1) := by decide +kernel
theorem dX10_draw_63 : decode cX10_draw 63 = .ok (.iconst 1, 1) := by decide +kernel
theorem dX10_draw_64 : decode cX10_draw 64 = .ok (.isub, 1) := by decide +kernel
theorem dX10_draw_65 : decode cX10_draw 65 = .ok (.istore 7, 2) := by decide +kernel
theorem dX10_draw_67 : decode cX10_draw 67 = .ok (.iload 7, 2) := by decide +kernel
theorem dX10_draw_69 : decode cX10_draw 69 = .ok (.ifCond .lt 42, 3) := by decide +kernel
theorem dX10_draw_72 : decode cX10_draw 72 = .ok (.aload_n 0, 1) := by decide +kernel
theorem dX10_draw_73 : decode cX10_draw 73 = .ok (.getfield 49, 3) := by decide +kernel
theorem dX10_draw_76 : decode cX10_draw 76 = .ok (.iload 7, 2) := by decide +kernel
theorem dX10_draw_78 : decode cX10_draw 78 = .ok (.iload 5, 2) := by decide +kernel
theorem dX10_draw_80 : decode cX10_draw 80 = .ok (.bipush 6, 2) := by decide +kernel
theorem dX10_draw_82 : decode cX10_draw 82 = .ok (.irem, 1) := by decide +kernel
theorem dX10_draw_83 : decode cX10_draw 83 = .ok (.iastore, 1) := by decide +kernel
theorem dX10_draw_84 : decode cX10_draw 84 = .ok (.iload 5, 2) := by decide +kernel
theorem dX10_draw_86 : decode cX10_draw 86 = .ok (.bipush 6, 2) := by decide +kernel
theorem dX10_draw_88 : decode cX10_draw 88 = .ok (.idiv, 1) := by decide +kernel
theorem dX10_draw_89 : decode cX10_draw 89 = .ok (.istore 5, 2) := by decide +kernel
theorem dX10_draw_91 : decode cX10_draw 91 = .ok (.iload 6, 2) := by decide +kernel
theorem dX10_draw_93 : decode cX10_draw 93 = .ok (.iconst 1, 1) := by decide +kernel
theorem dX10_draw_94 : decode cX10_draw 94 = .ok (.aload_n 0, 1) := by decide +kernel
theorem dX10_draw_95 : decode cX10_draw 95 = .ok (.getfield 49, 3) := by decide +kernel
theorem dX10_draw_98 : decode cX10_draw 98 = .ok (.iload 7, 2) := by decide +kernel
theorem dX10_draw_100 : decode cX10_draw 100 = .ok (.iaload, 1) := by decide +kernel
theorem dX10_draw_101 : decode cX10_draw 101 = .ok (.ishl, 1) := by decide +kernel
theorem dX10_draw_102 : decode cX10_draw 102 = .ok (.ior, 1) := by decide +kernel
theorem dX10_draw_103 : decode cX10_draw 103 = .ok (.istore 6, 2) := by decide +kernel
theorem dX10_draw_105 : decode cX10_draw 105 = .ok (.iinc 7 (-1), 3) := by decide +kernel
theorem dX10_draw_108 : decode cX10_draw 108 = .ok (.goto (-41), 3) := by decide +kernel
theorem dX10_draw_111 : decode cX10_draw 111 = .ok (.iload 6, 2) := by decide +kernel
theorem dX10_draw_113 : decode cX10_draw 113 = .ok (.invokestatic 241, 3) := by decide +kernel
theorem dX10_draw_116 : decode cX10_draw 116 = .ok (.iload_n 1, 1) := by decide +kernel
theorem dX10_draw_117 : decode cX10_draw 117 = .ok (.if_icmp .lt 67, 3) := by decide +kernel
theorem dX10_draw_120 : decode cX10_draw 120 = .ok (.aload_n 0, 1) := by decide +kernel
theorem dX10_draw_121 : decode cX10_draw 121 = .ok (.iload 6, 2) := by decide +kernel
theorem dX10_draw_123 : decode cX10_draw 123 = .ok (.invokevirtual 244, 3) := by decide +kernel
theorem dX10_draw_126 : decode cX10_draw 126 = .ok (.ifCond .ne 6, 3) := by decide +kernel
theorem dX10_draw_129 : decode cX10_draw 129 = .ok (.goto 55, 3) := by decide +kernel
theorem dX10_draw_132 : decode cX10_draw 132 = .ok (.aload_n 0, 1) := by decide +kernel
theorem dX10_draw_133 : decode cX10_draw 133 = .ok (.aload_n 0, 1) := by decide +kernel
theorem dX10_draw_134 : decode cX10_draw 134 = .ok (.getfield 49, 3) := by decide +kernel
theorem dX10_draw_137 : decode cX10_draw 137 = .ok (.iload_n 1, 1) := by decide +kernel
theorem dX10_draw_138 : decode cX10_draw 138 = .ok (.invokevirtual 251, 3) := by decide +kernel
theorem dX10_draw_141 : decode cX10_draw 141 = .ok (.istore 7, 2) := by decide +kernel
theorem dX10_draw_143 : decode cX10_draw 143 = .ok (.iload 7, 2) := by decide +kernel
theorem dX10_draw_145 : decode cX10_draw 145 = .ok (.iload_n 3, 1) := by decide +kernel
theorem dX10_draw_146 : decode cX10_draw 146 = .ok (.if_icmp .lt 6, 3) := by decide +kernel
theorem dX10_draw_149 : decode cX10_draw 149 = .ok (.goto 35, 3) := by decide +kernel
theorem dX10_draw_152 : decode cX10_draw 152 = .ok (.iload 7, 2) := by decide +kernel
theorem dX10_draw_154 : decode cX10_draw 154 = .ok (.istore_n 3, 1) := by decide +kernel
theorem dX10_draw_155 : decode cX10_draw 155 = .ok (.iconst 0, 1) := by decide +kernel
theorem dX10_draw_156 : decode cX10_draw 156 = .ok (.istore 8, 2) := by decide +kernel
theorem dX10_draw_158 : decode cX10_draw 158 = .ok (.iload 8, 2) := by decide +kernel
theorem dX10_draw_160 : decode cX10_draw 160 = .ok (.iload_n 1, 1) := by decide +kernel
theorem dX10_draw_161 : decode cX10_draw 161 = .ok (.if_icmp .ge 23, 3) := by decide +kernel
theorem dX10_draw_164 : decode cX10_draw 164 = .ok (.aload_n 0, 1) := by decide +kernel
theorem dX10_draw_165 : decode cX10_draw 165 = .ok (.getfield 46, 3) := by decide +kernel
theorem dX10_draw_168 : decode cX10_draw 168 = .ok (.iload 8, 2) := by decide +kernel
theorem dX10_draw_170 : decode cX10_draw 170 = .ok (.aload_n 0, 1) := by decide +kernel
theorem dX10_draw_171 : decode cX10_draw 171 = .ok (.getfield 49, 3) := by decide +kernel
theorem dX10_draw_174 : decode cX10_draw 174 = .ok (.iload 8, 2) := by decide +kernel
theorem dX10_draw_176 : decode cX10_draw 176 = .ok (.iaload, 1) := by decide +kernel
theorem dX10_draw_177 : decode cX10_draw 177 = .ok (.iastore, 1) := by decide +kernel
theorem dX10_draw_178 : decode cX10_draw 178 = .ok (.iinc 8 1, 3) := by decide +kernel
theorem dX10_draw_181 : decode cX10_draw 181 = .ok (.goto (-23), 3) := by decide +kernel
theorem dX10_draw_184 : decode cX10_draw 184 = .ok (.iinc 4 1, 3) := by decide +kernel
theorem dX10_draw_187 : decode cX10_draw 187 = .ok (.goto (-138), 3) := by decide +kernel
theorem dX10_draw_190 : decode cX10_draw 190 = .ok (.aload_n 0, 1) := by decide +kernel
theorem dX10_draw_191 : decode cX10_draw 191 = .ok (.iload_n 1, 1) := by decide +kernel
theorem dX10_draw_192 : decode cX10_draw 192 = .ok (.putfield 255, 3) := by decide +kernel
theorem dX10_draw_195 : decode cX10_draw 195 = .ok (.aload_n 0, 1) := by decide +kernel
theorem dX10_draw_196 : decode cX10_draw 196 = .ok (.iconst 1, 1) := by decide +kernel
theorem dX10_draw_197 : decode cX10_draw 197 = .ok (.putfield 206, 3) := by decide +kernel
theorem dX10_draw_200 : decode cX10_draw 200 = .ok (.aload_n 0, 1) := by decide +kernel
theorem dX10_draw_201 : decode cX10_draw 201 = .ok (.aload_n 0, 1) := by decide +kernel
theorem dX10_draw_202 : decode cX10_draw 202 = .ok (.getfield 46, 3) := by decide +kernel
theorem dX10_draw_205 : decode cX10_draw 205 = .ok (.iload_n 1, 1) := by decide +kernel
theorem dX10_draw_206 : decode cX10_draw 206 = .ok (.invokevirtual 251, 3) := by decide +kernel
theorem dX10_draw_209 : decode cX10_draw 209 = .ok (.ireturn, 1) := by decide +kernel
theorem dX10_way_0 : decode cX10_way 0 = .ok (.aload_n 0, 1) := by decide +kernel
theorem dX10_way_1 : decode cX10_way 1 = .ok (.getfield 206, 3) := by decide +kernel
theorem dX10_way_4 : decode cX10_way 4 = .ok (.ifCond .eq 24, 3) := by decide +kernel
theorem dX10_way_7 : decode cX10_way 7 = .ok (.iload_n 1, 1) := by decide +kernel
theorem dX10_way_8 : decode cX10_way 8 = .ok (.ifCond .lt 20, 3) := by decide +kernel
theorem dX10_way_11 : decode cX10_way 11 = .ok (.iload_n 1, 1) := by decide +kernel
theorem dX10_way_12 : decode cX10_way 12 = .ok (.aload_n 0, 1) := by decide +kernel
theorem dX10_way_13 : decode cX10_way 13 = .ok (.getfield 255, 3) := by decide +kernel
theorem dX10_way_16 : decode cX10_way 16 = .ok (.if_icmp .ge 12, 3) := by decide +kernel
theorem dX10_way_19 : decode cX10_way 19 = .ok (.aload_n 0, 1) := by decide +kernel
theorem dX10_way_20 : decode cX10_way 20 = .ok (.getfield 46, 3) := by decide +kernel
theorem dX10_way_23 : decode cX10_way 23 = .ok (.iload_n 1, 1) := by decide +kernel
theorem dX10_way_24 : decode cX10_way 24 = .ok (.iaload, 1) := by decide +kernel
theorem dX10_way_25 : decode cX10_way 25 = .ok (.goto 4, 3) := by decide +kernel
theorem dX10_way_28 : decode cX10_way 28 = .ok (.iconst (-1), 1) := by decide +kernel
theorem dX10_way_29 : decode cX10_way 29 = .ok (.ireturn, 1) := by decide +kernel
theorem dX10_pieceAt_0 : decode cX10_pieceAt 0 = .ok (.aload_n 0, 1) := by decide +kernel
theorem dX10_pieceAt_1 : decode cX10_pieceAt 1 = .ok (.getfield 206, 3) := by decide +kernel
theorem dX10_pieceAt_4 : decode cX10_pieceAt 4 = .ok (.ifCond .eq 41, 3) := by decide +kernel
theorem dX10_pieceAt_7 : decode cX10_pieceAt 7 = .ok (.aload_n 0, 1) := by decide +kernel
theorem dX10_pieceAt_8 : decode cX10_pieceAt 8 = .ok (.iload_n 1, 1) := by decide +kernel
theorem dX10_pieceAt_9 : decode cX10_pieceAt 9 = .ok (.iload_n 2, 1) := by decide +kernel
theorem dX10_pieceAt_10 : decode cX10_pieceAt 10 = .ok (.iload_n 3, 1) := by decide +kernel
theorem dX10_pieceAt_11 : decode cX10_pieceAt 11 = .ok (.invokevirtual 215, 3) := by decide +kernel
theorem dX10_pieceAt_14 : decode cX10_pieceAt 14 = .ok (.ifCond .eq 31, 3) := by decide +kernel
theorem dX10_pieceAt_17 : decode cX10_pieceAt 17 = .ok (.aload_n 0, 1) := by decide +kernel
theorem dX10_pieceAt_18 : decode cX10_pieceAt 18 = .ok (.getfield 40, 3) := by decide +kernel
theorem dX10_pieceAt_21 : decode cX10_pieceAt 21 = .ok (.iload_n 1, 1) := by decide +kernel
theorem dX10_pieceAt_22 : decode cX10_pieceAt 22 = .ok (.iload_n 2, 1) := by decide +kernel
theorem dX10_pieceAt_23 : decode cX10_pieceAt 23 = .ok (.iload_n 3, 1) := by decide +kernel
theorem dX10_pieceAt_24 : decode cX10_pieceAt 24 = .ok (.invokestatic 209, 3) := by decide +kernel
theorem dX10_pieceAt_27 : decode cX10_pieceAt 27 = .ok (.baload, 1) := by decide +kernel
theorem dX10_pieceAt_28 : decode cX10_pieceAt 28 = .ok (.ifCond .ne 17, 3) := by decide +kernel
theorem dX10_pieceAt_31 : decode cX10_pieceAt 31 = .ok (.aload_n 0, 1) := by decide +kernel
theorem dX10_pieceAt_32 : decode cX10_pieceAt 32 = .ok (.getfield 52, 3) := by decide +kernel
theorem dX10_pieceAt_35 : decode cX10_pieceAt 35 = .ok (.iload_n 1, 1) := by decide +kernel
theorem dX10_pieceAt_36 : decode cX10_pieceAt 36 = .ok (.iload_n 2, 1) := by decide +kernel
theorem dX10_pieceAt_37 : decode cX10_pieceAt 37 = .ok (.iload_n 3, 1) := by decide +kernel
theorem dX10_pieceAt_38 : decode cX10_pieceAt 38 = .ok (.invokestatic 209, 3) := by decide +kernel
theorem dX10_pieceAt_41 : decode cX10_pieceAt 41 = .ok (.iaload, 1) := by decide +kernel
theorem dX10_pieceAt_42 : decode cX10_pieceAt 42 = .ok (.goto 4, 3) := by decide +kernel
theorem dX10_pieceAt_45 : decode cX10_pieceAt 45 = .ok (.iconst (-1), 1) := by decide +kernel
theorem dX10_pieceAt_46 : decode cX10_pieceAt 46 = .ok (.ireturn, 1) := by decide +kernel
theorem dX10_isPiece_0 : decode cX10_isPiece 0 = .ok (.aload_n 0, 1) := by decide +kernel
theorem dX10_isPiece_1 : decode cX10_isPiece 1 = .ok (.getfield 206, 3) := by decide +kernel
theorem dX10_isPiece_4 : decode cX10_isPiece 4 = .ok (.ifCond .eq 19, 3) := by decide +kernel
theorem dX10_isPiece_7 : decode cX10_isPiece 7 = .ok (.iload_n 1, 1) := by decide +kernel
theorem dX10_isPiece_8 : decode cX10_isPiece 8 = .ok (.ifCond .lt 15, 3) := by decide +kernel
theorem dX10_isPiece_11 : decode cX10_isPiece 11 = .ok (.iload_n 1, 1) := by decide +kernel
theorem dX10_isPiece_12 : decode cX10_isPiece 12 = .ok (.aload_n 0, 1) := by decide +kernel
theorem dX10_isPiece_13 : decode cX10_isPiece 13 = .ok (.getfield 227, 3) := by decide +kernel
theorem dX10_isPiece_16 : decode cX10_isPiece 16 = .ok (.if_icmp .ge 7, 3) := by decide +kernel
theorem dX10_isPiece_19 : decode cX10_isPiece 19 = .ok (.iconst 1, 1) := by decide +kernel
theorem dX10_isPiece_20 : decode cX10_isPiece 20 = .ok (.goto 4, 3) := by decide +kernel
theorem dX10_isPiece_23 : decode cX10_isPiece 23 = .ok (.iconst 0, 1) := by decide +kernel
theorem dX10_isPiece_24 : decode cX10_isPiece 24 = .ok (.ireturn, 1) := by decide +kernel
theorem dX10_bears_0 : decode cX10_bears 0 = .ok (.aload_n 0, 1) := by decide +kernel
theorem dX10_bears_1 : decode cX10_bears 1 = .ok (.getfield 70, 3) := by decide +kernel
theorem dX10_bears_4 : decode cX10_bears 4 = .ok (.aload_n 0, 1) := by decide +kernel
theorem dX10_bears_5 : decode cX10_bears 5 = .ok (.getfield 64, 3) := by decide +kernel
theorem dX10_bears_8 : decode cX10_bears 8 = .ok (.iload_n 1, 1) := by decide +kernel
theorem dX10_bears_9 : decode cX10_bears 9 = .ok (.iaload, 1) := by decide +kernel
theorem dX10_bears_10 : decode cX10_bears 10 = .ok (.isub, 1) := by decide +kernel
theorem dX10_bears_11 : decode cX10_bears 11 = .ok (.iconst 1, 1) := by decide +kernel
theorem dX10_bears_12 : decode cX10_bears 12 = .ok (.if_icmp .ge 7, 3) := by decide +kernel
theorem dX10_bears_15 : decode cX10_bears 15 = .ok (.iconst 1, 1) := by decide +kernel
theorem dX10_bears_16 : decode cX10_bears 16 = .ok (.goto 14, 3) := by decide +kernel
theorem dX10_bears_19 : decode cX10_bears 19 = .ok (.aload_n 0, 1) := by decide +kernel
theorem dX10_bears_20 : decode cX10_bears 20 = .ok (.getfield 70, 3) := by decide +kernel
theorem dX10_bears_23 : decode cX10_bears 23 = .ok (.aload_n 0, 1) := by decide +kernel
theorem dX10_bears_24 : decode cX10_bears 24 = .ok (.getfield 64, 3) := by decide +kernel
theorem dX10_bears_27 : decode cX10_bears 27 = .ok (.iload_n 1, 1) := by decide +kernel
theorem dX10_bears_28 : decode cX10_bears 28 = .ok (.iaload, 1) := by decide +kernel
theorem dX10_bears_29 : decode cX10_bears 29 = .ok (.isub, 1) := by decide +kernel
theorem dX10_bears_30 : decode cX10_bears 30 = .ok (.ireturn, 1) := by decide +kernel
theorem dX10_piece_0 : decode cX10_piece 0 = .ok (.aload_n 0, 1) := by decide +kernel
theorem dX10_piece_1 : decode cX10_piece 1 = .ok (.iload_n 1, 1) := by decide +kernel
theorem dX10_piece_2 : decode cX10_piece 2 = .ok (.invokevirtual 258, 3) := by decide +kernel
theorem dX10_piece_5 : decode cX10_piece 5 = .ok (.ifCond .ne 5, 3) := by decide +kernel
theorem dX10_piece_8 : decode cX10_piece 8 = .ok (.iconst (-1), 1) := by decide +kernel
theorem dX10_piece_9 : decode cX10_piece 9 = .ok (.ireturn, 1) := by decide +kernel
theorem dX10_piece_10 : decode cX10_piece 10 = .ok (.iload_n 2, 1) := by decide +kernel
theorem dX10_piece_11 : decode cX10_piece 11 = .ok (.tableswitch 67 0 4 #[33, 40, 47, 54, 60], 33) := by decide +kernel
theorem dX10_piece_44 : decode cX10_piece 44 = .ok (.aload_n 0, 1) := by decide +kernel
theorem dX10_piece_45 : decode cX10_piece 45 = .ok (.getfield 58, 3) := by decide +kernel
theorem dX10_piece_48 : decode cX10_piece 48 = .ok (.iload_n 1, 1) := by decide +kernel
theorem dX10_piece_49 : decode cX10_piece 49 = .ok (.iaload, 1) := by decide +kernel
theorem dX10_piece_50 : decode cX10_piece 50 = .ok (.ireturn, 1) := by decide +kernel
theorem dX10_piece_51 : decode cX10_piece 51 = .ok (.aload_n 0, 1) := by decide +kernel
theorem dX10_piece_52 : decode cX10_piece 52 = .ok (.getfield 61, 3) := by decide +kernel
theorem dX10_piece_55 : decode cX10_piece 55 = .ok (.iload_n 1, 1) := by decide +kernel
theorem dX10_piece_56 : decode cX10_piece 56 = .ok (.iaload, 1) := by decide +kernel
theorem dX10_piece_57 : decode cX10_piece 57 = .ok (.ireturn, 1) := by decide +kernel
theorem dX10_piece_58 : decode cX10_piece 58 = .ok (.aload_n 0, 1) := by decide +kernel
theorem dX10_piece_59 : decode cX10_piece 59 = .ok (.getfield 64, 3) := by decide +kernel
theorem dX10_piece_62 : decode cX10_piece 62 = .ok (.iload_n 1, 1) := by decide +kernel
theorem dX10_piece_63 : decode cX10_piece 63 = .ok (.iaload, 1) := by decide +kernel
theorem dX10_piece_64 : decode cX10_piece 64 = .ok (.ireturn, 1) := by decide +kernel
theorem dX10_piece_65 : decode cX10_piece 65 = .ok (.aload_n 0, 1) := by decide +kernel
theorem dX10_piece_66 : decode cX10_piece 66 = .ok (.iload_n 1, 1) := by decide +kernel
theorem dX10_piece_67 : decode cX10_piece 67 = .ok (.invokevirtual 261, 3) := by decide +kernel
theorem dX10_piece_70 : decode cX10_piece 70 = .ok (.ireturn, 1) := by decide +kernel
theorem dX10_piece_71 : decode cX10_piece 71 = .ok (.aload_n 0, 1) := by decide +kernel
theorem dX10_piece_72 : decode cX10_piece 72 = .ok (.getfield 67, 3) := by decide +kernel
theorem dX10_piece_75 : decode cX10_piece 75 = .ok (.iload_n 1, 1) := by decide +kernel
theorem dX10_piece_76 : decode cX10_piece 76 = .ok (.iaload, 1) := by decide +kernel
theorem dX10_piece_77 : decode cX10_piece 77 = .ok (.ireturn, 1) := by decide +kernel
theorem dX10_piece_78 : decode cX10_piece 78 = .ok (.iconst (-1), 1) := by decide +kernel
theorem dX10_piece_79 : decode cX10_piece 79 = .ok (.ireturn, 1) := by decide +kernel
theorem dX10_wear_0 : decode cX10_wear 0 = .ok (.iload_n 1, 1) := by decide +kernel
theorem dX10_wear_1 : decode cX10_wear 1 = .ok (.iconst 1, 1) := by decide +kernel
theorem dX10_wear_2 : decode cX10_wear 2 = .ok (.sipush 1000, 3) := by decide +kernel
theorem dX10_wear_5 : decode cX10_wear 5 = .ok (.invokestatic 196, 3) := by decide +kernel
theorem dX10_wear_8 : decode cX10_wear 8 = .ok (.ifCond .eq 13, 3) := by decide +kernel
theorem dX10_wear_11 : decode cX10_wear 11 = .ok (.iload_n 2, 1) := by decide +kernel
theorem dX10_wear_12 : decode cX10_wear 12 = .ok (.iconst 0, 1) := by decide +kernel
theorem dX10_wear_13 : decode cX10_wear 13 = .ok (.bipush 100, 2) := by decide +kernel
theorem dX10_wear_15 : decode cX10_wear 15 = .ok (.invokestatic 196, 3) := by decide +kernel
theorem dX10_wear_18 : decode cX10_wear 18 = .ok (.ifCond .ne 5, 3) := by decide +kernel
theorem dX10_wear_21 : decode cX10_wear 21 = .ok (.iconst 0, 1) := by decide +kernel
theorem dX10_wear_22 : decode cX10_wear 22 = .ok (.ireturn, 1) := by decide +kernel
theorem dX10_wear_23 : decode cX10_wear 23 = .ok (.aload_n 0, 1) := by decide +kernel
theorem dX10_wear_24 : decode cX10_wear 24 = .ok (.iload_n 1, 1) := by decide +kernel
theorem dX10_wear_25 : decode cX10_wear 25 = .ok (.putfield 70, 3) := by decide +kernel
theorem dX10_wear_28 : decode cX10_wear 28 = .ok (.aload_n 0, 1) := by decide +kernel
theorem dX10_wear_29 : decode cX10_wear 29 = .ok (.iload_n 2, 1) := by decide +kernel
theorem dX10_wear_30 : decode cX10_wear 30 = .ok (.putfield 73, 3) := by decide +kernel
theorem dX10_wear_33 : decode cX10_wear 33 = .ok (.iconst 1, 1) := by decide +kernel
theorem dX10_wear_34 : decode cX10_wear 34 = .ok (.ireturn, 1) := by decide +kernel
theorem dX10_isBorne_0 : decode cX10_isBorne 0 = .ok (.iconst 0, 1) := by decide +kernel
theorem dX10_isBorne_1 : decode cX10_isBorne 1 = .ok (.istore_n 1, 1) := by decide +kernel
theorem dX10_isBorne_2 : decode cX10_isBorne 2 = .ok (.iload_n 1, 1) := by decide +kernel
theorem dX10_isBorne_3 : decode cX10_isBorne 3 = .ok (.aload_n 0, 1) := by decide +kernel
theorem dX10_isBorne_4 : decode cX10_isBorne 4 = .ok (.getfield 227, 3) := by decide +kernel
theorem dX10_isBorne_7 : decode cX10_isBorne 7 = .ok (.if_icmp .ge 25, 3) := by decide +kernel
theorem dX10_isBorne_10 : decode cX10_isBorne 10 = .ok (.aload_n 0, 1) := by decide +kernel
theorem dX10_isBorne_11 : decode cX10_isBorne 11 = .ok (.getfield 67, 3) := by decide +kernel
theorem dX10_isBorne_14 : decode cX10_isBorne 14 = .ok (.iload_n 1, 1) := by decide +kernel
theorem dX10_isBorne_15 : decode cX10_isBorne 15 = .ok (.iaload, 1) := by decide +kernel
theorem dX10_isBorne_16 : decode cX10_isBorne 16 = .ok (.aload_n 0, 1) := by decide +kernel
theorem dX10_isBorne_17 : decode cX10_isBorne 17 = .ok (.iload_n 1, 1) := by decide +kernel
theorem dX10_isBorne_18 : decode cX10_isBorne 18 = .ok (.invokevirtual 261, 3) := by decide +kernel
theorem dX10_isBorne_21 : decode cX10_isBorne 21 = .ok (.if_icmp .lt 5, 3) := by decide +kernel
theorem dX10_isBorne_24 : decode cX10_isBorne 24 = .ok (.iconst 0, 1) := by decide +kernel
theorem dX10_isBorne_25 : decode cX10_isBorne 25 = .ok (.ireturn, 1) := by decide +kernel
theorem dX10_isBorne_26 : decode cX10_isBorne 26 = .ok (.iinc 1 1, 3) := by decide +kernel
theorem dX10_isBorne_29 : decode cX10_isBorne 29 = .ok (.goto (-27), 3) := by decide +kernel
theorem dX10_isBorne_32 : decode cX10_isBorne 32 = .ok (.iconst 1, 1) := by decide +kernel
theorem dX10_isBorne_33 : decode cX10_isBorne 33 = .ok (.ireturn, 1) := by decide +kernel
theorem dX10_pours_0 : decode cX10_pours 0 = .ok (.iconst 0, 1) := by decide +kernel
theorem dX10_pours_1 : decode cX10_pours 1 = .ok (.istore_n 1, 1) := by decide +kernel
theorem dX10_pours_2 : decode cX10_pours 2 = .ok (.iload_n 1, 1) := by decide +kernel
theorem dX10_pours_3 : decode cX10_pours 3 = .ok (.aload_n 0, 1) := by decide +kernel
theorem dX10_pours_4 : decode cX10_pours 4 = .ok (.getfield 227, 3) := by decide +kernel
theorem dX10_pours_7 : decode cX10_pours 7 = .ok (.if_icmp .ge 19, 3) := by decide +kernel
theorem dX10_pours_10 : decode cX10_pours 10 = .ok (.aload_n 0, 1) := by decide +kernel
theorem dX10_pours_11 : decode cX10_pours 11 = .ok (.getfield 67, 3) := by decide +kernel
theorem dX10_pours_14 : decode cX10_pours 14 = .ok (.iload_n 1, 1) := by decide +kernel
theorem dX10_pours_15 : decode cX10_pours 15 = .ok (.dup2, 1) := by decide +kernel
theorem dX10_pours_16 : decode cX10_pours 16 = .ok (.iaload, 1) := by decide +kernel
theorem dX10_pours_17 : decode cX10_pours 17 = .ok (.iconst 1, 1) := by decide +kernel
theorem dX10_pours_18 : decode cX10_pours 18 = .ok (.iadd, 1) := by decide +kernel
theorem dX10_pours_19 : decode cX10_pours 19 = .ok (.iastore, 1) := by decide +kernel
theorem dX10_pours_20 : decode cX10_pours 20 = .ok (.iinc 1 1, 3) := by decide +kernel
theorem dX10_pours_23 : decode cX10_pours 23 = .ok (.goto (-21), 3) := by decide +kernel
theorem dX10_pours_26 : decode cX10_pours 26 = .ok (.return_, 1) := by decide +kernel
theorem dX10_pour_0 : decode cX10_pour 0 = .ok (.aload_n 0, 1) := by decide +kernel
theorem dX10_pour_1 : decode cX10_pour 1 = .ok (.getfield 206, 3) := by decide +kernel
theorem dX10_pour_4 : decode cX10_pour 4 = .ok (.ifCond .eq 14, 3) := by decide +kernel
theorem dX10_pour_7 : decode cX10_pour 7 = .ok (.iload_n 1, 1) := by decide +kernel
theorem dX10_pour_8 : decode cX10_pour 8 = .ok (.iconst 1, 1) := by decide +kernel
theorem dX10_pour_9 : decode cX10_pour 9 = .ok (.sipush 1000, 3) := by decide +kernel
theorem dX10_pour_12 : decode cX10_pour 12 = .ok (.invokestatic 196, 3) := by decide +kernel
theorem dX10_pour_15 : decode cX10_pour 15 = .ok (.ifCond .ne 5, 3) := by decide +kernel
theorem dX10_pour_18 : decode cX10_pour 18 = .ok (.iconst (-1), 1) := by decide +kernel
theorem dX10_pour_19 : decode cX10_pour 19 = .ok (.ireturn, 1) := by decide +kernel
theorem dX10_pour_20 : decode cX10_pour 20 = .ok (.iconst 0, 1) := by decide +kernel
theorem dX10_pour_21 : decode cX10_pour 21 = .ok (.istore_n 2, 1) := by decide +kernel
theorem dX10_pour_22 : decode cX10_pour 22 = .ok (.iload_n 2, 1) := by decide +kernel
theorem dX10_pour_23 : decode cX10_pour 23 = .ok (.iload_n 1, 1) := by decide +kernel
theorem dX10_pour_24 : decode cX10_pour 24 = .ok (.if_icmp .ge 20, 3) := by decide +kernel
theorem dX10_pour_27 : decode cX10_pour 27 = .ok (.aload_n 0, 1) := by decide +kernel
theorem dX10_pour_28 : decode cX10_pour 28 = .ok (.invokevirtual 264, 3) := by decide +kernel
theorem dX10_pour_31 : decode cX10_pour 31 = .ok (.ifCond .eq 13, 3) := by decide +kernel
theorem dX10_pour_34 : decode cX10_pour 34 = .ok (.aload_n 0, 1) := by decide +kernel
theorem dX10_pour_35 : decode cX10_pour 35 = .ok (.invokevirtual 268, 3) := by decide +kernel
theorem dX10_pour_38 : decode cX10_pour 38 = .ok (.iinc 2 1, 3) := by decide +kernel
theorem dX10_pour_41 : decode cX10_pour 41 = .ok (.goto (-19), 3) := by decide +kernel
theorem dX10_pour_44 : decode cX10_pour 44 = .ok (.iload_n 2, 1) := by decide +kernel
theorem dX10_pour_45 : decode cX10_pour 45 = .ok (.ireturn, 1) := by decide +kernel
theorem dX10_mend_0 : decode cX10_mend 0 = .ok (.aload_n 0, 1) := by decide +kernel
theorem dX10_mend_1 : decode cX10_mend 1 = .ok (.iload_n 1, 1) := by decide +kernel
theorem dX10_mend_2 : decode cX10_mend 2 = .ok (.invokevirtual 258, 3) := by decide +kernel
theorem dX10_mend_5 : decode cX10_mend 5 = .ok (.ifCond .ne 5, 3) := by decide +kernel
theorem dX10_mend_8 : decode cX10_mend 8 = .ok (.iconst (-1), 1) := by decide +kernel
theorem dX10_mend_9 : decode cX10_mend 9 = .ok (.ireturn, 1) := by decide +kernel
theorem dX10_mend_10 : decode cX10_mend 10 = .ok (.aload_n 0, 1) := by decide +kernel
theorem dX10_mend_11 : decode cX10_mend 11 = .ok (.getfield 67, 3) := by decide +kernel
theorem dX10_mend_14 : decode cX10_mend 14 = .ok (.iload_n 1, 1) := by decide +kernel
theorem dX10_mend_15 : decode cX10_mend 15 = .ok (.iconst 0, 1) := by decide +kernel
theorem dX10_mend_16 : decode cX10_mend 16 = .ok (.iastore, 1) := by decide +kernel
theorem dX10_mend_17 : decode cX10_mend 17 = .ok (.aload_n 0, 1) := by decide +kernel
theorem dX10_mend_18 : decode cX10_mend 18 = .ok (.getfield 61, 3) := by decide +kernel
theorem dX10_mend_21 : decode cX10_mend 21 = .ok (.iload_n 1, 1) := by decide +kernel
theorem dX10_mend_22 : decode cX10_mend 22 = .ok (.iaload, 1) := by decide +kernel
theorem dX10_mend_23 : decode cX10_mend 23 = .ok (.aload_n 0, 1) := by decide +kernel
theorem dX10_mend_24 : decode cX10_mend 24 = .ok (.getfield 73, 3) := by decide +kernel
theorem dX10_mend_27 : decode cX10_mend 27 = .ok (.imul, 1) := by decide +kernel
theorem dX10_mend_28 : decode cX10_mend 28 = .ok (.ireturn, 1) := by decide +kernel
theorem dX10_run_0 : decode cX10_run 0 = .ok (.aload_n 0, 1) := by decide +kernel
theorem dX10_run_1 : decode cX10_run 1 = .ok (.getfield 206, 3) := by decide +kernel
theorem dX10_run_4 : decode cX10_run 4 = .ok (.ifCond .eq 14, 3) := by decide +kernel
theorem dX10_run_7 : decode cX10_run 7 = .ok (.iload_n 1, 1) := by decide +kernel
theorem dX10_run_8 : decode cX10_run 8 = .ok (.iconst 1, 1) := by decide +kernel
theorem dX10_run_9 : decode cX10_run 9 = .ok (.sipush 1000, 3) := by decide +kernel
theorem dX10_run_12 : decode cX10_run 12 = .ok (.invokestatic 196, 3) := by decide +kernel
theorem dX10_run_15 : decode cX10_run 15 = .ok (.ifCond .ne 5, 3) := by decide +kernel
theorem dX10_run_18 : decode cX10_run 18 = .ok (.iconst (-1), 1) := by decide +kernel
theorem dX10_run_19 : decode cX10_run 19 = .ok (.ireturn, 1) := by decide +kernel
theorem dX10_run_20 : decode cX10_run 20 = .ok (.iconst 0, 1) := by decide +kernel
theorem dX10_run_21 : decode cX10_run 21 = .ok (.istore_n 2, 1) := by decide +kernel
theorem dX10_run_22 : decode cX10_run 22 = .ok (.iconst 0, 1) := by decide +kernel
theorem dX10_run_23 : decode cX10_run 23 = .ok (.istore_n 3, 1) := by decide +kernel
theorem dX10_run_24 : decode cX10_run 24 = .ok (.iload_n 3, 1) := by decide +kernel
theorem dX10_run_25 : decode cX10_run 25 = .ok (.iload_n 1, 1) := by decide +kernel
theorem dX10_run_26 : decode cX10_run 26 = .ok (.if_icmp .ge 56, 3) := by decide +kernel
theorem dX10_run_29 : decode cX10_run 29 = .ok (.iconst 0, 1) := by decide +kernel
theorem dX10_run_30 : decode cX10_run 30 = .ok (.istore 4, 2) := by decide +kernel
theorem dX10_run_32 : decode cX10_run 32 = .ok (.iload 4, 2) := by decide +kernel
theorem dX10_run_34 : decode cX10_run 34 = .ok (.aload_n 0, 1) := by decide +kernel
theorem dX10_run_35 : decode cX10_run 35 = .ok (.getfield 227, 3) := by decide +kernel
theorem dX10_run_38 : decode cX10_run 38 = .ok (.if_icmp .ge 34, 3) := by decide +kernel
theorem dX10_run_41 : decode cX10_run 41 = .ok (.aload_n 0, 1) := by decide +kernel
theorem dX10_run_42 : decode cX10_run 42 = .ok (.getfield 67, 3) := by decide +kernel
theorem dX10_run_45 : decode cX10_run 45 = .ok (.iload 4, 2) := by decide +kernel
theorem dX10_run_47 : decode cX10_run 47 = .ok (.iaload, 1) := by decide +kernel
theorem dX10_run_48 : decode cX10_run 48 = .ok (.aload_n 0, 1) := by decide +kernel
theorem dX10_run_49 : decode cX10_run 49 = .ok (.iload 4, 2) := by decide +kernel
theorem dX10_run_51 : decode cX10_run 51 = .ok (.invokevirtual 261, 3) := by decide +kernel
theorem dX10_run_54 : decode cX10_run 54 = .ok (.if_icmp .lt 12, 3) := by decide +kernel
theorem dX10_run_57 : decode cX10_run 57 = .ok (.iload_n 2, 1) := by decide +kernel
theorem dX10_run_58 : decode cX10_run 58 = .ok (.aload_n 0, 1) := by decide +kernel
theorem dX10_run_59 : decode cX10_run 59 = .ok (.iload 4, 2) := by decide +kernel
theorem dX10_run_61 : decode cX10_run 61 = .ok (.invokevirtual 271, 3) := by decide +kernel
theorem dX10_run_64 : decode cX10_run 64 = .ok (.iadd, 1) := by decide +kernel
theorem dX10_run_65 : decode cX10_run 65 = .ok (.istore_n 2, 1) := by decide +kernel
theorem dX10_run_66 : decode cX10_run 66 = .ok (.iinc 4 1, 3) := by decide +kernel
theorem dX10_run_69 : decode cX10_run 69 = .ok (.goto (-37), 3) := by decide +kernel
theorem dX10_run_72 : decode cX10_run 72 = .ok (.aload_n 0, 1) := by decide +kernel
theorem dX10_run_73 : decode cX10_run 73 = .ok (.invokevirtual 268, 3) := by decide +kernel
theorem dX10_run_76 : decode cX10_run 76 = .ok (.iinc 3 1, 3) := by decide +kernel
theorem dX10_run_79 : decode cX10_run 79 = .ok (.goto (-55), 3) := by decide +kernel
theorem dX10_run_82 : decode cX10_run 82 = .ok (.iload_n 2, 1) := by decide +kernel
theorem dX10_run_83 : decode cX10_run 83 = .ok (.ireturn, 1) := by decide +kernel
theorem dX10_dry_0 : decode cX10_dry 0 = .ok (.iload_n 1, 1) := by decide +kernel
theorem dX10_dry_1 : decode cX10_dry 1 = .ok (.iconst 0, 1) := by decide +kernel
theorem dX10_dry_2 : decode cX10_dry 2 = .ok (.bipush 100, 2) := by decide +kernel
theorem dX10_dry_4 : decode cX10_dry 4 = .ok (.invokestatic 196, 3) := by decide +kernel
theorem dX10_dry_7 : decode cX10_dry 7 = .ok (.ifCond .ne 5, 3) := by decide +kernel
theorem dX10_dry_10 : decode cX10_dry 10 = .ok (.iconst (-1), 1) := by decide +kernel
theorem dX10_dry_11 : decode cX10_dry 11 = .ok (.ireturn, 1) := by decide +kernel
theorem dX10_dry_12 : decode cX10_dry 12 = .ok (.aload_n 0, 1) := by decide +kernel
theorem dX10_dry_13 : decode cX10_dry 13 = .ok (.getfield 76, 3) := by decide +kernel
theorem dX10_dry_16 : decode cX10_dry 16 = .ok (.istore_n 2, 1) := by decide +kernel
theorem dX10_dry_17 : decode cX10_dry 17 = .ok (.aload_n 0, 1) := by decide +kernel
theorem dX10_dry_18 : decode cX10_dry 18 = .ok (.iload_n 1, 1) := by decide +kernel
theorem dX10_dry_19 : decode cX10_dry 19 = .ok (.putfield 76, 3) := by decide +kernel
theorem dX10_dry_22 : decode cX10_dry 22 = .ok (.iload_n 2, 1) := by decide +kernel
theorem dX10_dry_23 : decode cX10_dry 23 = .ok (.ireturn, 1) := by decide +kernel
theorem dX10_order_0 : decode cX10_order 0 = .ok (.iload_n 1, 1) := by decide +kernel
theorem dX10_order_1 : decode cX10_order 1 = .ok (.iconst 1, 1) := by decide +kernel
theorem dX10_order_2 : decode cX10_order 2 = .ok (.bipush 50, 2) := by decide +kernel
theorem dX10_order_4 : decode cX10_order 4 = .ok (.invokestatic 196, 3) := by decide +kernel
theorem dX10_order_7 : decode cX10_order 7 = .ok (.ifCond .eq 24, 3) := by decide +kernel
theorem dX10_order_10 : decode cX10_order 10 = .ok (.iload_n 2, 1) := by decide +kernel
theorem dX10_order_11 : decode cX10_order 11 = .ok (.iconst 0, 1) := by decide +kernel
theorem dX10_order_12 : decode cX10_order 12 = .ok (.sipush 1000, 3) := by decide +kernel
theorem dX10_order_15 : decode cX10_order 15 = .ok (.invokestatic 196, 3) := by decide +kernel
theorem dX10_order_18 : decode cX10_order 18 = .ok (.ifCond .eq 13, 3) := by decide +kernel
theorem dX10_order_21 : decode cX10_order 21 = .ok (.iload_n 3, 1) := by decide +kernel
theorem dX10_order_22 : decode cX10_order 22 = .ok (.iconst 1, 1) := by decide +kernel
theorem dX10_order_23 : decode cX10_order 23 = .ok (.bipush 100, 2) := by decide +kernel
theorem dX10_order_25 : decode cX10_order 25 = .ok (.invokestatic 196, 3) := by decide +kernel
theorem dX10_order_28 : decode cX10_order 28 = .ok (.ifCond .ne 5, 3) := by decide +kernel
theorem dX10_order_31 : decode cX10_order 31 = .ok (.iconst (-1), 1) := by decide +kernel
theorem dX10_order_32 : decode cX10_order 32 = .ok (.ireturn, 1) := by decide +kernel
theorem dX10_order_33 : decode cX10_order 33 = .ok (.iconst 0, 1) := by decide +kernel
theorem dX10_order_34 : decode cX10_order 34 = .ok (.istore 4, 2) := by decide +kernel
theorem dX10_order_36 : decode cX10_order 36 = .ok (.iload 4, 2) := by decide +kernel
theorem dX10_order_38 : decode cX10_order 38 = .ok (.bipush 10, 2) := by decide +kernel
theorem dX10_order_40 : decode cX10_order 40 = .ok (.if_icmp .ge 19, 3) := by decide +kernel
theorem dX10_order_43 : decode cX10_order 43 = .ok (.aload_n 0, 1) := by decide +kernel
theorem dX10_order_44 : decode cX10_order 44 = .ok (.getfield 79, 3) := by decide +kernel
theorem dX10_order_47 : decode cX10_order 47 = .ok (.iload 4, 2) := by decide +kernel
theorem dX10_order_49 : decode cX10_order 49 = .ok (.baload, 1) := by decide +kernel
theorem dX10_order_50 : decode cX10_order 50 = .ok (.ifCond .eq 9, 3) := by decide +kernel
theorem dX10_order_53 : decode cX10_order 53 = .ok (.iinc 4 1, 3) := by decide +kernel
theorem dX10_order_56 : decode cX10_order 56 = .ok (.goto (-20), 3) := by decide +kernel
theorem dX10_order_59 : decode cX10_order 59 = .ok (.iload 4, 2) := by decide +kernel
theorem dX10_order_61 : decode cX10_order 61 = .ok (.bipush 10, 2) := by decide +kernel
theorem dX10_order_63 : decode cX10_order 63 = .ok (.if_icmp .ne 5, 3) := by decide +kernel
theorem dX10_order_66 : decode cX10_order 66 = .ok (.iconst (-1), 1) := by decide +kernel
theorem dX10_order_67 : decode cX10_order 67 = .ok (.ireturn, 1) := by decide +kernel
theorem dX10_order_68 : decode cX10_order 68 = .ok (.aload_n 0, 1) := by decide +kernel
theorem dX10_order_69 : decode cX10_order 69 = .ok (.getfield 79, 3) := by decide +kernel
theorem dX10_order_72 : decode cX10_order 72 = .ok (.iload 4, 2) := by decide +kernel
theorem dX10_order_74 : decode cX10_order 74 = .ok (.iconst 1, 1) := by decide +kernel
theorem dX10_order_75 : decode cX10_order 75 = .ok (.bastore, 1) := by decide +kernel
theorem dX10_order_76 : decode cX10_order 76 = .ok (.aload_n 0, 1) := by decide +kernel
theorem dX10_order_77 : decode cX10_order 77 = .ok (.getfield 82, 3) := by decide +kernel
theorem dX10_order_80 : decode cX10_order 80 = .ok (.iload 4, 2) := by decide +kernel
theorem dX10_order_82 : decode cX10_order 82 = .ok (.iload_n 1, 1) := by decide +kernel
theorem dX10_order_83 : decode cX10_order 83 = .ok (.iastore, 1) := by decide +kernel
theorem dX10_order_84 : decode cX10_order 84 = .ok (.aload_n 0, 1) := by decide +kernel
theorem dX10_order_85 : decode cX10_order 85 = .ok (.getfield 85, 3) := by decide +kernel
theorem dX10_order_88 : decode cX10_order 88 = .ok (.iload 4, 2) := by decide +kernel
theorem dX10_order_90 : decode cX10_order 90 = .ok (.iload_n 2, 1) := by decide +kernel
theorem dX10_order_91 : decode cX10_order 91 = .ok (.iastore, 1) := by decide +kernel
theorem dX10_order_92 : decode cX10_order 92 = .ok (.aload_n 0, 1) := by decide +kernel
theorem dX10_order_93 : decode cX10_order 93 = .ok (.getfield 88, 3) := by decide +kernel
theorem dX10_order_96 : decode cX10_order 96 = .ok (.iload 4, 2) := by decide +kernel
theorem dX10_order_98 : decode cX10_order 98 = .ok (.iload_n 3, 1) := by decide +kernel
theorem dX10_order_99 : decode cX10_order 99 = .ok (.iastore, 1) := by decide +kernel
theorem dX10_order_100 : decode cX10_order 100 = .ok (.iload 4, 2) := by decide +kernel
theorem dX10_order_102 : decode cX10_order 102 = .ok (.ireturn, 1) := by decide +kernel
theorem dX10_cancel_0 : decode cX10_cancel 0 = .ok (.iload_n 1, 1) := by decide +kernel
theorem dX10_cancel_1 : decode cX10_cancel 1 = .ok (.ifCond .lt 18, 3) := by decide +kernel
theorem dX10_cancel_4 : decode cX10_cancel 4 = .ok (.iload_n 1, 1) := by decide +kernel
theorem dX10_cancel_5 : decode cX10_cancel 5 = .ok (.bipush 9, 2) := by decide +kernel
theorem dX10_cancel_7 : decode cX10_cancel 7 = .ok (.if_icmp .gt 12, 3) := by decide +kernel
theorem dX10_cancel_10 : decode cX10_cancel 10 = .ok (.aload_n 0, 1) := by decide +kernel
theorem dX10_cancel_11 : decode cX10_cancel 11 = .ok (.getfield 79, 3) := by decide +kernel
theorem dX10_cancel_14 : decode cX10_cancel 14 = .ok (.iload_n 1, 1) := by decide +kernel
theorem dX10_cancel_15 : decode cX10_cancel 15 = .ok (.baload, 1) := by decide +kernel
theorem dX10_cancel_16 : decode cX10_cancel 16 = .ok (.ifCond .ne 5, 3) := by decide +kernel
theorem dX10_cancel_19 : decode cX10_cancel 19 = .ok (.iconst 0, 1) := by decide +kernel
theorem dX10_cancel_20 : decode cX10_cancel 20 = .ok (.ireturn, 1) := by decide +kernel
theorem dX10_cancel_21 : decode cX10_cancel 21 = .ok (.aload_n 0, 1) := by decide +kernel
theorem dX10_cancel_22 : decode cX10_cancel 22 = .ok (.getfield 79, 3) := by decide +kernel
theorem dX10_cancel_25 : decode cX10_cancel 25 = .ok (.iload_n 1, 1) := by decide +kernel
theorem dX10_cancel_26 : decode cX10_cancel 26 = .ok (.iconst 0, 1) := by decide +kernel
theorem dX10_cancel_27 : decode cX10_cancel 27 = .ok (.bastore, 1) := by decide +kernel
theorem dX10_cancel_28 : decode cX10_cancel 28 = .ok (.iconst 1, 1) := by decide +kernel
theorem dX10_cancel_29 : decode cX10_cancel 29 = .ok (.ireturn, 1) := by decide +kernel
theorem dX10_poursOf_0 : decode cX10_poursOf 0 = .ok (.iconst 0, 1) := by decide +kernel
theorem dX10_poursOf_1 : decode cX10_poursOf 1 = .ok (.istore_n 2, 1) := by decide +kernel
theorem dX10_poursOf_2 : decode cX10_poursOf 2 = .ok (.iconst 0, 1) := by decide +kernel
theorem dX10_poursOf_3 : decode cX10_poursOf 3 = .ok (.istore_n 3, 1) := by decide +kernel
theorem dX10_poursOf_4 : decode cX10_poursOf 4 = .ok (.iload_n 3, 1) := by decide +kernel
theorem dX10_poursOf_5 : decode cX10_poursOf 5 = .ok (.bipush 10, 2) := by decide +kernel
theorem dX10_poursOf_7 : decode cX10_poursOf 7 = .ok (.if_icmp .ge 27, 3) := by decide +kernel
theorem dX10_poursOf_10 : decode cX10_poursOf 10 = .ok (.iload_n 1, 1) := by decide +kernel
theorem dX10_poursOf_11 : decode cX10_poursOf 11 = .ok (.iload_n 3, 1) := by decide +kernel
theorem dX10_poursOf_12 : decode cX10_poursOf 12 = .ok (.ishr, 1) := by decide +kernel
theorem dX10_poursOf_13 : decode cX10_poursOf 13 = .ok (.iconst 1, 1) := by decide +kernel
theorem dX10_poursOf_14 : decode cX10_poursOf 14 = .ok (.iand, 1) := by decide +kernel
theorem dX10_poursOf_15 : decode cX10_poursOf 15 = .ok (.iconst 1, 1) := by decide +kernel
theorem dX10_poursOf_16 : decode cX10_poursOf 16 = .ok (.if_icmp .ne 12, 3) := by decide +kernel
theorem dX10_poursOf_19 : decode cX10_poursOf 19 = .ok (.iload_n 2, 1) := by decide +kernel
theorem dX10_poursOf_20 : decode cX10_poursOf 20 = .ok (.aload_n 0, 1) := by decide +kernel
theorem dX10_poursOf_21 : decode cX10_poursOf 21 = .ok (.getfield 82, 3) := by decide +kernel
theorem dX10_poursOf_24 : decode cX10_poursOf 24 = .ok (.iload_n 3, 1) := by decide +kernel
theorem dX10_poursOf_25 : decode cX10_poursOf 25 = .ok (.iaload, 1) := by decide +kernel
theorem dX10_poursOf_26 : decode cX10_poursOf 26 = .ok (.iadd, 1) := by decide +kernel
theorem dX10_poursOf_27 : decode cX10_poursOf 27 = .ok (.istore_n 2, 1) := by decide +kernel
theorem dX10_poursOf_28 : decode cX10_poursOf 28 = .ok (.iinc 3 1, 3) := by decide +kernel
theorem dX10_poursOf_31 : decode cX10_poursOf 31 = .ok (.goto (-27), 3) := by decide +kernel
theorem dX10_poursOf_34 : decode cX10_poursOf 34 = .ok (.iload_n 2, 1) := by decide +kernel
theorem dX10_poursOf_35 : decode cX10_poursOf 35 = .ok (.ireturn, 1) := by decide +kernel
theorem dX10_lateOf_0 : decode cX10_lateOf 0 = .ok (.aload_n 0, 1) := by decide +kernel
theorem dX10_lateOf_1 : decode cX10_lateOf 1 = .ok (.iload_n 2, 1) := by decide +kernel
theorem dX10_lateOf_2 : decode cX10_lateOf 2 = .ok (.invokevirtual 274, 3) := by decide +kernel
theorem dX10_lateOf_5 : decode cX10_lateOf 5 = .ok (.aload_n 0, 1) := by decide +kernel
theorem dX10_lateOf_6 : decode cX10_lateOf 6 = .ok (.getfield 82, 3) := by decide +kernel
theorem dX10_lateOf_9 : decode cX10_lateOf 9 = .ok (.iload_n 1, 1) := by decide +kernel
theorem dX10_lateOf_10 : decode cX10_lateOf 10 = .ok (.iaload, 1) := by decide +kernel
theorem dX10_lateOf_11 : decode cX10_lateOf 11 = .ok (.iadd, 1) := by decide +kernel
theorem dX10_lateOf_12 : decode cX10_lateOf 12 = .ok (.aload_n 0, 1) := by decide +kernel
theorem dX10_lateOf_13 : decode cX10_lateOf 13 = .ok (.getfield 76, 3) := by decide +kernel
theorem dX10_lateOf_16 : decode cX10_lateOf 16 = .ok (.iadd, 1) := by decide +kernel
theorem dX10_lateOf_17 : decode cX10_lateOf 17 = .ok (.aload_n 0, 1) := by decide +kernel
theorem dX10_lateOf_18 : decode cX10_lateOf 18 = .ok (.getfield 85, 3) := by decide +kernel
theorem dX10_lateOf_21 : decode cX10_lateOf 21 = .ok (.iload_n 1, 1) := by decide +kernel
theorem dX10_lateOf_22 : decode cX10_lateOf 22 = .ok (.iaload, 1) := by decide +kernel
theorem dX10_lateOf_23 : decode cX10_lateOf 23 = .ok (.isub, 1) := by decide +kernel
theorem dX10_lateOf_24 : decode cX10_lateOf 24 = .ok (.istore_n 3, 1) := by decide +kernel
theorem dX10_lateOf_25 : decode cX10_lateOf 25 = .ok (.iload_n 3, 1) := by decide +kernel
theorem dX10_lateOf_26 : decode cX10_lateOf 26 = .ok (.ifCond .ge 7, 3) := by decide +kernel
theorem dX10_lateOf_29 : decode cX10_lateOf 29 = .ok (.iconst 0, 1) := by decide +kernel
theorem dX10_lateOf_30 : decode cX10_lateOf 30 = .ok (.goto 4, 3) := by decide +kernel
theorem dX10_lateOf_33 : decode cX10_lateOf 33 = .ok (.iload_n 3, 1) := by decide +kernel
theorem dX10_lateOf_34 : decode cX10_lateOf 34 = .ok (.ireturn, 1) := by decide +kernel
theorem dX10_row_0 : decode cX10_row 0 = .ok (.iconst 0, 1) := by decide +kernel
theorem dX10_row_1 : decode cX10_row 1 = .ok (.istore_n 1, 1) := by decide +kernel
theorem dX10_row_2 : decode cX10_row 2 = .ok (.iconst 0, 1) := by decide +kernel
theorem dX10_row_3 : decode cX10_row 3 = .ok (.istore_n 2, 1) := by decide +kernel
theorem dX10_row_4 : decode cX10_row 4 = .ok (.iload_n 2, 1) := by decide +kernel
theorem dX10_row_5 : decode cX10_row 5 = .ok (.bipush 10, 2) := by decide +kernel
theorem dX10_row_7 : decode cX10_row 7 = .ok (.if_icmp .ge 24, 3) := by decide +kernel
theorem dX10_row_10 : decode cX10_row 10 = .ok (.aload_n 0, 1) := by decide +kernel
theorem dX10_row_11 : decode cX10_row 11 = .ok (.getfield 79, 3) := by decide +kernel
theorem dX10_row_14 : decode cX10_row 14 = .ok (.iload_n 2, 1) := by decide +kernel
theorem dX10_row_15 : decode cX10_row 15 = .ok (.baload, 1) := by decide +kernel
theorem dX10_row_16 : decode cX10_row 16 = .ok (.ifCond .eq 9, 3) := by decide +kernel
theorem dX10_row_19 : decode cX10_row 19 = .ok (.iload_n 1, 1) := by decide +kernel
theorem dX10_row_20 : decode cX10_row 20 = .ok (.iconst 1, 1) := by decide +kernel
theorem dX10_row_21 : decode cX10_row 21 = .ok (.iload_n 2, 1) := by decide +kernel
theorem dX10_row_22 : decode cX10_row 22 = .ok (.ishl, 1) := by decide +kernel
theorem dX10_row_23 : decode cX10_row 23 = .ok (.ior, 1) := by decide +kernel
theorem dX10_row_24 : decode cX10_row 24 = .ok (.istore_n 1, 1) := by decide +kernel
theorem dX10_row_25 : decode cX10_row 25 = .ok (.iinc 2 1, 3) := by decide +kernel
theorem dX10_row_28 : decode cX10_row 28 = .ok (.goto (-24), 3) := by decide +kernel
theorem dX10_row_31 : decode cX10_row 31 = .ok (.iload_n 1, 1) := by decide +kernel
theorem dX10_row_32 : decode cX10_row 32 = .ok (.ifCond .ne 5, 3) := by decide +kernel
theorem dX10_row_35 : decode cX10_row 35 = .ok (.iconst (-1), 1) := by decide +kernel
theorem dX10_row_36 : decode cX10_row 36 = .ok (.ireturn, 1) := by decide +kernel
theorem dX10_row_37 : decode cX10_row 37 = .ok (.iload_n 1, 1) := by decide +kernel
theorem dX10_row_38 : decode cX10_row 38 = .ok (.istore_n 2, 1) := by decide +kernel
theorem dX10_row_39 : decode cX10_row 39 = .ok (.iload_n 2, 1) := by decide +kernel
theorem dX10_row_40 : decode cX10_row 40 = .ok (.ifCond .lt 116, 3) := by decide +kernel
theorem dX10_row_43 : decode cX10_row 43 = .ok (.iload_n 2, 1) := by decide +kernel
theorem dX10_row_44 : decode cX10_row 44 = .ok (.iload_n 1, 1) := by decide +kernel
theorem dX10_row_45 : decode cX10_row 45 = .ok (.iconst (-1), 1) := by decide +kernel
theorem dX10_row_46 : decode cX10_row 46 = .ok (.ixor, 1) := by decide +kernel
theorem dX10_row_47 : decode cX10_row 47 = .ok (.iand, 1) := by decide +kernel
theorem dX10_row_48 : decode cX10_row 48 = .ok (.ifCond .eq 6, 3) := by decide +kernel
theorem dX10_row_51 : decode cX10_row 51 = .ok (.goto 99, 3) := by decide +kernel
theorem dX10_row_54 : decode cX10_row 54 = .ok (.iload_n 2, 1) := by decide +kernel
theorem dX10_row_55 : decode cX10_row 55 = .ok (.iload_n 1, 1) := by decide +kernel
theorem dX10_row_56 : decode cX10_row 56 = .ok (.if_icmp .ne 7, 3) := by decide +kernel
theorem dX10_row_59 : decode cX10_row 59 = .ok (.iconst 0, 1) := by decide +kernel
theorem dX10_row_60 : decode cX10_row 60 = .ok (.goto 6, 3) := by decide +kernel
theorem dX10_row_63 : decode cX10_row 63 = .ok (.ldc_w 277, 3) := by decide +kernel
theorem dX10_row_66 : decode cX10_row 66 = .ok (.istore_n 3, 1) := by decide +kernel
theorem dX10_row_67 : decode cX10_row 67 = .ok (.iconst 0, 1) := by decide +kernel
theorem dX10_row_68 : decode cX10_row 68 = .ok (.istore 4, 2) := by decide +kernel
theorem dX10_row_70 : decode cX10_row 70 = .ok (.iload 4, 2) := by decide +kernel
theorem dX10_row_72 : decode cX10_row 72 = .ok (.bipush 10, 2) := by decide +kernel
theorem dX10_row_74 : decode cX10_row 74 = .ok (.if_icmp .ge 69, 3) := by decide +kernel
theorem dX10_row_77 : decode cX10_row 77 = .ok (.iload_n 1, 1) := by decide +kernel
theorem dX10_row_78 : decode cX10_row 78 = .ok (.iload 4, 2) := by decide +kernel
theorem dX10_row_80 : decode cX10_row 80 = .ok (.ishr, 1) := by decide +kernel
theorem dX10_row_81 : decode cX10_row 81 = .ok (.iconst 1, 1) := by decide +kernel
theorem dX10_row_82 : decode cX10_row 82 = .ok (.iand, 1) := by decide +kernel
theorem dX10_row_83 : decode cX10_row 83 = .ok (.ifCond .eq 54, 3) := by decide +kernel
theorem dX10_row_86 : decode cX10_row 86 = .ok (.iload_n 2, 1) := by decide +kernel
theorem dX10_row_87 : decode cX10_row 87 = .ok (.iload 4, 2) := by decide +kernel
theorem dX10_row_89 : decode cX10_row 89 = .ok (.ishr, 1) := by decide +kernel
theorem dX10_row_90 : decode cX10_row 90 = .ok (.iconst 1, 1) := by decide +kernel
theorem dX10_row_91 : decode cX10_row 91 = .ok (.iand, 1) := by decide +kernel
theorem dX10_row_92 : decode cX10_row 92 = .ok (.iconst 1, 1) := by decide +kernel
theorem dX10_row_93 : decode cX10_row 93 = .ok (.if_icmp .ne 6, 3) := by decide +kernel
theorem dX10_row_96 : decode cX10_row 96 = .ok (.goto 41, 3) := by decide +kernel
theorem dX10_row_99 : decode cX10_row 99 = .ok (.aload_n 0, 1) := by decide +kernel
theorem dX10_row_100 : decode cX10_row 100 = .ok (.getfield 88, 3) := by decide +kernel
theorem dX10_row_103 : decode cX10_row 103 = .ok (.iload 4, 2) := by decide +kernel
theorem dX10_row_105 : decode cX10_row 105 = .ok (.iaload, 1) := by decide +kernel
theorem dX10_row_106 : decode cX10_row 106 = .ok (.aload_n 0, 1) := by decide +kernel
theorem dX10_row_107 : decode cX10_row 107 = .ok (.iload 4, 2) := by decide +kernel
theorem dX10_row_109 : decode cX10_row 109 = .ok (.iload_n 2, 1) := by decide +kernel
theorem dX10_row_110 : decode cX10_row 110 = .ok (.invokevirtual 278, 3) := by decide +kernel
theorem dX10_row_113 : decode cX10_row 113 = .ok (.imul, 1) := by decide +kernel
theorem dX10_row_114 : decode cX10_row 114 = .ok (.aload_n 0, 1) := by decide +kernel
theorem dX10_row_115 : decode cX10_row 115 = .ok (.getfield 91, 3) := by decide +kernel
theorem dX10_row_118 : decode cX10_row 118 = .ok (.iload_n 2, 1) := by decide +kernel
theorem dX10_row_119 : decode cX10_row 119 = .ok (.iconst 1, 1) := by decide +kernel
theorem dX10_row_120 : decode cX10_row 120 = .ok (.iload 4, 2) := by decide +kernel
theorem dX10_row_122 : decode cX10_row 122 = .ok (.ishl, 1) := by decide +kernel
theorem dX10_row_123 : decode cX10_row 123 = .ok (.ior, 1) := by decide +kernel
theorem dX10_row_124 : decode cX10_row 124 = .ok (.iaload, 1) := by decide +kernel
theorem dX10_row_125 : decode cX10_row 125 = .ok (.iadd, 1) := by decide +kernel
theorem dX10_row_126 : decode cX10_row 126 = .ok (.istore 5, 2) := by decide +kernel
theorem dX10_row_128 : decode cX10_row 128 = .ok (.iload 5, 2) := by decide +kernel
theorem dX10_row_130 : decode cX10_row 130 = .ok (.iload_n 3, 1) := by decide +kernel
theorem dX10_row_131 : decode cX10_row 131 = .ok (.if_icmp .ge 6, 3) := by decide +kernel
theorem dX10_row_134 : decode cX10_row 134 = .ok (.iload 5, 2) := by decide +kernel
theorem dX10_row_136 : decode cX10_row 136 = .ok (.istore_n 3, 1) := by decide +kernel
theorem dX10_row_137 : decode cX10_row 137 = .ok (.iinc 4 1, 3) := by decide +kernel
theorem dX10_row_140 : decode cX10_row 140 = .ok (.goto (-70), 3) := by decide +kernel
theorem dX10_row_143 : decode cX10_row 143 = .ok (.aload_n 0, 1) := by decide +kernel
theorem dX10_row_144 : decode cX10_row 144 = .ok (.getfield 91, 3) := by decide +kernel
theorem dX10_row_147 : decode cX10_row 147 = .ok (.iload_n 2, 1) := by decide +kernel
theorem dX10_row_148 : decode cX10_row 148 = .ok (.iload_n 3, 1) := by decide +kernel
theorem dX10_row_149 : decode cX10_row 149 = .ok (.iastore, 1) := by decide +kernel
theorem dX10_row_150 : decode cX10_row 150 = .ok (.iinc 2 (-1), 3) := by decide +kernel
theorem dX10_row_153 : decode cX10_row 153 = .ok (.goto (-114), 3) := by decide +kernel
theorem dX10_row_156 : decode cX10_row 156 = .ok (.aload_n 0, 1) := by decide +kernel
theorem dX10_row_157 : decode cX10_row 157 = .ok (.iconst 0, 1) := by decide +kernel
theorem dX10_row_158 : decode cX10_row 158 = .ok (.putfield 282, 3) := by decide +kernel
theorem dX10_row_161 : decode cX10_row 161 = .ok (.iconst 0, 1) := by decide +kernel
theorem dX10_row_162 : decode cX10_row 162 = .ok (.istore_n 2, 1) := by decide +kernel
theorem dX10_row_163 : decode cX10_row 163 = .ok (.iload_n 2, 1) := by decide +kernel
theorem dX10_row_164 : decode cX10_row 164 = .ok (.iload_n 1, 1) := by decide +kernel
theorem dX10_row_165 : decode cX10_row 165 = .ok (.if_icmp .eq 105, 3) := by decide +kernel
theorem dX10_row_168 : decode cX10_row 168 = .ok (.iconst 0, 1) := by decide +kernel
theorem dX10_row_169 : decode cX10_row 169 = .ok (.istore_n 3, 1) := by decide +kernel
theorem dX10_row_170 : decode cX10_row 170 = .ok (.iload_n 1, 1) := by decide +kernel
theorem dX10_row_171 : decode cX10_row 171 = .ok (.iload_n 3, 1) := by decide +kernel
theorem dX10_row_172 : decode cX10_row 172 = .ok (.ishr, 1) := by decide +kernel
theorem dX10_row_173 : decode cX10_row 173 = .ok (.iconst 1, 1) := by decide +kernel
theorem dX10_row_174 : decode cX10_row 174 = .ok (.iand, 1) := by decide +kernel
theorem dX10_row_175 : decode cX10_row 175 = .ok (.ifCond .eq 45, 3) := by decide +kernel
theorem dX10_row_178 : decode cX10_row 178 = .ok (.iload_n 2, 1) := by decide +kernel
theorem dX10_row_179 : decode cX10_row 179 = .ok (.iload_n 3, 1) := by decide +kernel
theorem dX10_row_180 : decode cX10_row 180 = .ok (.ishr, 1) := by decide +kernel
theorem dX10_row_181 : decode cX10_row 181 = .ok (.iconst 1, 1) := by decide +kernel
theorem dX10_row_182 : decode cX10_row 182 = .ok (.iand, 1) := by decide +kernel
theorem dX10_row_183 : decode cX10_row 183 = .ok (.iconst 1, 1) := by decide +kernel
theorem dX10_row_184 : decode cX10_row 184 = .ok (.if_icmp .eq 36, 3) := by decide +kernel
theorem dX10_row_187 : decode cX10_row 187 = .ok (.aload_n 0, 1) := by decide +kernel
theorem dX10_row_188 : decode cX10_row 188 = .ok (.getfield 88, 3) := by decide +kernel
theorem dX10_row_191 : decode cX10_row 191 = .ok (.iload_n 3, 1) := by decide +kernel
theorem dX10_row_192 : decode cX10_row 192 = .ok (.iaload, 1) := by decide +kernel
theorem dX10_row_193 : decode cX10_row 193 = .ok (.aload_n 0, 1) := by decide +kernel
theorem dX10_row_194 : decode cX10_row 194 = .ok (.iload_n 3, 1) := by decide +kernel
theorem dX10_row_195 : decode cX10_row 195 = .ok (.iload_n 2, 1) := by decide +kernel
theorem dX10_row_196 : decode cX10_row 196 = .ok (.invokevirtual 278, 3) := by decide +kernel
theorem dX10_row_199 : decode cX10_row 199 = .ok (.imul, 1) := by decide +kernel
theorem dX10_row_200 : decode cX10_row 200 = .ok (.aload_n 0, 1) := by decide +kernel
theorem dX10_row_201 : decode cX10_row 201 = .ok (.getfield 91, 3) := by decide +kernel
theorem dX10_row_204 : decode cX10_row 204 = .ok (.iload_n 2, 1) := by decide +kernel
theorem dX10_row_205 : decode cX10_row 205 = .ok (.iconst 1, 1) := by decide +kernel
theorem dX10_row_206 : decode cX10_row 206 = .ok (.iload_n 3, 1) := by decide +kernel
theorem dX10_row_207 : decode cX10_row 207 = .ok (.ishl, 1) := by decide +kernel
theorem dX10_row_208 : decode cX10_row 208 = .ok (.ior, 1) := by decide +kernel
theorem dX10_row_209 : decode cX10_row 209 = .ok (.iaload, 1) := by decide +kernel
theorem dX10_row_210 : decode cX10_row 210 = .ok (.iadd, 1) := by decide +kernel
theorem dX10_row_211 : decode cX10_row 211 = .ok (.aload_n 0, 1) := by decide +kernel
theorem dX10_row_212 : decode cX10_row 212 = .ok (.getfield 91, 3) := by decide +kernel
theorem dX10_row_215 : decode cX10_row 215 = .ok (.iload_n 2, 1) := by decide +kernel
theorem dX10_row_216 : decode cX10_row 216 = .ok (.iaload, 1) := by decide +kernel
theorem dX10_row_217 : decode cX10_row 217 = .ok (.if_icmp .eq 9, 3) := by decide +kernel
theorem dX10_row_220 : decode cX10_row 220 = .ok (.iinc 3 1, 3) := by decide +kernel
theorem dX10_row_223 : decode cX10_row 223 = .ok (.goto (-53), 3) := by decide +kernel
theorem dX10_row_226 : decode cX10_row 226 = .ok (.aload_n 0, 1) := by decide +kernel
theorem dX10_row_227 : decode cX10_row 227 = .ok (.getfield 94, 3) := by decide +kernel
theorem dX10_row_230 : decode cX10_row 230 = .ok (.aload_n 0, 1) := by decide +kernel
theorem dX10_row_231 : decode cX10_row 231 = .ok (.getfield 282, 3) := by decide +kernel
theorem dX10_row_234 : decode cX10_row 234 = .ok (.iload_n 3, 1) := by decide +kernel
theorem dX10_row_235 : decode cX10_row 235 = .ok (.iastore, 1) := by decide +kernel
theorem dX10_row_236 : decode cX10_row 236 = .ok (.aload_n 0, 1) := by decide +kernel
theorem dX10_row_237 : decode cX10_row 237 = .ok (.getfield 97, 3) := by decide +kernel
theorem dX10_row_240 : decode cX10_row 240 = .ok (.aload_n 0, 1) := by decide +kernel
theorem dX10_row_241 : decode cX10_row 241 = .ok (.getfield 282, 3) := by decide +kernel
theorem dX10_row_244 : decode cX10_row 244 = .ok (.aload_n 0, 1) := by decide +kernel
theorem dX10_row_245 : decode cX10_row 245 = .ok (.iload_n 3, 1) := by decide +kernel
theorem dX10_row_246 : decode cX10_row 246 = .ok (.iload_n 2, 1) := by decide +kernel
theorem dX10_row_247 : decode cX10_row 247 = .ok (.invokevirtual 278, 3) := by decide +kernel
theorem dX10_row_250 : decode cX10_row 250 = .ok (.iastore, 1) := by decide +kernel
theorem dX10_row_251 : decode cX10_row 251 = .ok (.aload_n 0, 1) := by decide +kernel
theorem dX10_row_252 : decode cX10_row 252 = .ok (.dup, 1) := by decide +kernel
theorem dX10_row_253 : decode cX10_row 253 = .ok (.getfield 282, 3) := by decide +kernel
theorem dX10_row_256 : decode cX10_row 256 = .ok (.iconst 1, 1) := by decide +kernel
theorem dX10_row_257 : decode cX10_row 257 = .ok (.iadd, 1) := by decide +kernel
theorem dX10_row_258 : decode cX10_row 258 = .ok (.putfield 282, 3) := by decide +kernel
theorem dX10_row_261 : decode cX10_row 261 = .ok (.iload_n 2, 1) := by decide +kernel
theorem dX10_row_262 : decode cX10_row 262 = .ok (.iconst 1, 1) := by decide +kernel
theorem dX10_row_263 : decode cX10_row 263 = .ok (.iload_n 3, 1) := by decide +kernel
theorem dX10_row_264 : decode cX10_row 264 = .ok (.ishl, 1) := by decide +kernel
theorem dX10_row_265 : decode cX10_row 265 = .ok (.ior, 1) := by decide +kernel
theorem dX10_row_266 : decode cX10_row 266 = .ok (.istore_n 2, 1) := by decide +kernel
theorem dX10_row_267 : decode cX10_row 267 = .ok (.goto (-104), 3) := by decide +kernel
theorem dX10_row_270 : decode cX10_row 270 = .ok (.aload_n 0, 1) := by decide +kernel
theorem dX10_row_271 : decode cX10_row 271 = .ok (.getfield 91, 3) := by decide +kernel
theorem dX10_row_274 : decode cX10_row 274 = .ok (.iconst 0, 1) := by decide +kernel
theorem dX10_row_275 : decode cX10_row 275 = .ok (.iaload, 1) := by decide +kernel
theorem dX10_row_276 : decode cX10_row 276 = .ok (.ireturn, 1) := by decide +kernel
theorem dX10_next__0 : decode cX10_next_ 0 = .ok (.iload_n 1, 1) := by decide +kernel
theorem dX10_next__1 : decode cX10_next_ 1 = .ok (.ifCond .lt 20, 3) := by decide +kernel
theorem dX10_next__4 : decode cX10_next_ 4 = .ok (.iload_n 1, 1) := by decide +kernel
theorem dX10_next__5 : decode cX10_next_ 5 = .ok (.aload_n 0, 1) := by decide +kernel
theorem dX10_next__6 : decode cX10_next_ 6 = .ok (.getfield 282, 3) := by decide +kernel
theorem dX10_next__9 : decode cX10_next_ 9 = .ok (.if_icmp .ge 12, 3) := by decide +kernel
theorem dX10_next__12 : decode cX10_next_ 12 = .ok (.aload_n 0, 1) := by decide +kernel
theorem dX10_next__13 : decode cX10_next_ 13 = .ok (.getfield 94, 3) := by decide +kernel
theorem dX10_next__16 : decode cX10_next_ 16 = .ok (.iload_n 1, 1) := by decide +kernel
theorem dX10_next__17 : decode cX10_next_ 17 = .ok (.iaload, 1) := by decide +kernel
theorem dX10_next__18 : decode cX10_next_ 18 = .ok (.goto 4, 3) := by decide +kernel
theorem dX10_next__21 : decode cX10_next_ 21 = .ok (.iconst (-1), 1) := by decide +kernel
theorem dX10_next__22 : decode cX10_next_ 22 = .ok (.ireturn, 1) := by decide +kernel
theorem dX10_late_0 : decode cX10_late 0 = .ok (.iload_n 1, 1) := by decide +kernel
theorem dX10_late_1 : decode cX10_late 1 = .ok (.ifCond .lt 20, 3) := by decide +kernel
theorem dX10_late_4 : decode cX10_late 4 = .ok (.iload_n 1, 1) := by decide +kernel
theorem dX10_late_5 : decode cX10_late 5 = .ok (.aload_n 0, 1) := by decide +kernel
theorem dX10_late_6 : decode cX10_late 6 = .ok (.getfield 282, 3) := by decide +kernel
theorem dX10_late_9 : decode cX10_late 9 = .ok (.if_icmp .ge 12, 3) := by decide +kernel
theorem dX10_late_12 : decode cX10_late 12 = .ok (.aload_n 0, 1) := by decide +kernel
theorem dX10_late_13 : decode cX10_late 13 = .ok (.getfield 97, 3) := by decide +kernel
theorem dX10_late_16 : decode cX10_late 16 = .ok (.iload_n 1, 1) := by decide +kernel
theorem dX10_late_17 : decode cX10_late 17 = .ok (.iaload, 1) := by decide +kernel
theorem dX10_late_18 : decode cX10_late 18 = .ok (.goto 4, 3) := by decide +kernel
theorem dX10_late_21 : decode cX10_late 21 = .ok (.iconst (-1), 1) := by decide +kernel
theorem dX10_late_22 : decode cX10_late 22 = .ok (.ireturn, 1) := by decide +kernel
theorem dX10_isCast_0 : decode cX10_isCast 0 = .ok (.iload_n 1, 1) := by decide +kernel
theorem dX10_isCast_1 : decode cX10_isCast 1 = .ok (.ifCond .lt 22, 3) := by decide +kernel
theorem dX10_isCast_4 : decode cX10_isCast 4 = .ok (.iload_n 1, 1) := by decide +kernel
theorem dX10_isCast_5 : decode cX10_isCast 5 = .ok (.bipush 12, 2) := by decide +kernel
theorem dX10_isCast_7 : decode cX10_isCast 7 = .ok (.if_icmp .ge 16, 3) := by decide +kernel
theorem dX10_isCast_10 : decode cX10_isCast 10 = .ok (.aload_n 0, 1) := by decide +kernel
theorem dX10_isCast_11 : decode cX10_isCast 11 = .ok (.getfield 100, 3) := by decide +kernel
theorem dX10_isCast_14 : decode cX10_isCast 14 = .ok (.iload_n 1, 1) := by decide +kernel
theorem dX10_isCast_15 : decode cX10_isCast 15 = .ok (.iaload, 1) := by decide +kernel
theorem dX10_isCast_16 : decode cX10_isCast 16 = .ok (.ifCond .le 7, 3) := by decide +kernel
theorem dX10_isCast_19 : decode cX10_isCast 19 = .ok (.iconst 1, 1) := by decide +kernel
theorem dX10_isCast_20 : decode cX10_isCast 20 = .ok (.goto 4, 3) := by decide +kernel
theorem dX10_isCast_23 : decode cX10_isCast 23 = .ok (.iconst 0, 1) := by decide +kernel
theorem dX10_isCast_24 : decode cX10_isCast 24 = .ok (.ireturn, 1) := by decide +kernel
theorem dX10_cast_0 : decode cX10_cast 0 = .ok (.iload_n 1, 1) := by decide +kernel
theorem dX10_cast_1 : decode cX10_cast 1 = .ok (.ifCond .lt 35, 3) := by decide +kernel
theorem dX10_cast_4 : decode cX10_cast 4 = .ok (.iload_n 1, 1) := by decide +kernel
theorem dX10_cast_5 : decode cX10_cast 5 = .ok (.bipush 12, 2) := by decide +kernel
theorem dX10_cast_7 : decode cX10_cast 7 = .ok (.if_icmp .ge 29, 3) := by decide +kernel
theorem dX10_cast_10 : decode cX10_cast 10 = .ok (.iload_n 2, 1) := by decide +kernel
theorem dX10_cast_11 : decode cX10_cast 11 = .ok (.iconst 0, 1) := by decide +kernel
theorem dX10_cast_12 : decode cX10_cast 12 = .ok (.ldc_w 285, 3) := by decide +kernel
theorem dX10_cast_15 : decode cX10_cast 15 = .ok (.invokestatic 196, 3) := by decide +kernel
theorem dX10_cast_18 : decode cX10_cast 18 = .ok (.ifCond .eq 18, 3) := by decide +kernel
theorem dX10_cast_21 : decode cX10_cast 21 = .ok (.iload_n 2, 1) := by decide +kernel
theorem dX10_cast_22 : decode cX10_cast 22 = .ok (.ifCond .le 16, 3) := by decide +kernel
theorem dX10_cast_25 : decode cX10_cast 25 = .ok (.iload_n 3, 1) := by decide +kernel
theorem dX10_cast_26 : decode cX10_cast 26 = .ok (.iconst 0, 1) := by decide +kernel
theorem dX10_cast_27 : decode cX10_cast 27 = .ok (.sipush 1000, 3) := by decide +kernel
theorem dX10_cast_30 : decode cX10_cast 30 = .ok (.invokestatic 196, 3) := by decide +kernel
theorem dX10_cast_33 : decode cX10_cast 33 = .ok (.ifCond .ne 5, 3) := by decide +kernel
theorem dX10_cast_36 : decode cX10_cast 36 = .ok (.iconst 0, 1) := by decide +kernel
theorem dX10_cast_37 : decode cX10_cast 37 = .ok (.ireturn, 1) := by decide +kernel
theorem dX10_cast_38 : decode cX10_cast 38 = .ok (.aload_n 0, 1) := by decide +kernel
theorem dX10_cast_39 : decode cX10_cast 39 = .ok (.getfield 100, 3) := by decide +kernel
theorem dX10_cast_42 : decode cX10_cast 42 = .ok (.iload_n 1, 1) := by decide +kernel
theorem dX10_cast_43 : decode cX10_cast 43 = .ok (.iload_n 2, 1) := by decide +kernel
theorem dX10_cast_44 : decode cX10_cast 44 = .ok (.iastore, 1) := by decide +kernel
theorem dX10_cast_45 : decode cX10_cast 45 = .ok (.aload_n 0, 1) := by decide +kernel
theorem dX10_cast_46 : decode cX10_cast 46 = .ok (.getfield 103, 3) := by decide +kernel
theorem dX10_cast_49 : decode cX10_cast 49 = .ok (.iload_n 1, 1) := by decide +kernel
theorem dX10_cast_50 : decode cX10_cast 50 = .ok (.iload_n 3, 1) := by decide +kernel
theorem dX10_cast_51 : decode cX10_cast 51 = .ok (.iastore, 1) := by decide +kernel
theorem dX10_cast_52 : decode cX10_cast 52 = .ok (.iconst 1, 1) := by decide +kernel
theorem dX10_cast_53 : decode cX10_cast 53 = .ok (.ireturn, 1) := by decide +kernel
theorem dX10_copies_0 : decode cX10_copies 0 = .ok (.iload_n 1, 1) := by decide +kernel
theorem dX10_copies_1 : decode cX10_copies 1 = .ok (.sipush 900, 3) := by decide +kernel
theorem dX10_copies_4 : decode cX10_copies 4 = .ok (.sipush 1000, 3) := by decide +kernel
theorem dX10_copies_7 : decode cX10_copies 7 = .ok (.invokestatic 196, 3) := by decide +kernel
theorem dX10_copies_10 : decode cX10_copies 10 = .ok (.ifCond .eq 25, 3) := by decide +kernel
theorem dX10_copies_13 : decode cX10_copies 13 = .ok (.iload_n 2, 1) := by decide +kernel
theorem dX10_copies_14 : decode cX10_copies 14 = .ok (.iconst 0, 1) := by decide +kernel
theorem dX10_copies_15 : decode cX10_copies 15 = .ok (.sipush 1000, 3) := by decide +kernel
theorem dX10_copies_18 : decode cX10_copies 18 = .ok (.invokestatic 196, 3) := by decide +kernel
theorem dX10_copies_21 : decode cX10_copies 21 = .ok (.ifCond .eq 14, 3) := by decide +kernel
theorem dX10_copies_24 : decode cX10_copies 24 = .ok (.iload_n 3, 1) := by decide +kernel
theorem dX10_copies_25 : decode cX10_copies 25 = .ok (.iconst 0, 1) := by decide +kernel
theorem dX10_copies_26 : decode cX10_copies 26 = .ok (.ldc_w 285, 3) := by decide +kernel
theorem dX10_copies_29 : decode cX10_copies 29 = .ok (.invokestatic 196, 3) := by decide +kernel
theorem dX10_copies_32 : decode cX10_copies 32 = .ok (.ifCond .ne 5, 3) := by decide +kernel
theorem dX10_copies_35 : decode cX10_copies 35 = .ok (.iconst 0, 1) := by decide +kernel
theorem dX10_copies_36 : decode cX10_copies 36 = .ok (.ireturn, 1) := by decide +kernel
theorem dX10_copies_37 : decode cX10_copies 37 = .ok (.aload_n 0, 1) := by decide +kernel
theorem dX10_copies_38 : decode cX10_copies 38 = .ok (.iload_n 1, 1) := by decide +kernel
theorem dX10_copies_39 : decode cX10_copies 39 = .ok (.putfield 106, 3) := by decide +kernel
theorem dX10_copies_42 : decode cX10_copies 42 = .ok (.aload_n 0, 1) := by decide +kernel
theorem dX10_copies_43 : decode cX10_copies 43 = .ok (.iload_n 2, 1) := by decide +kernel
theorem dX10_copies_44 : decode cX10_copies 44 = .ok (.putfield 109, 3) := by decide +kernel
theorem dX10_copies_47 : decode cX10_copies 47 = .ok (.aload_n 0, 1) := by decide +kernel
theorem dX10_copies_48 : decode cX10_copies 48 = .ok (.iload_n 3, 1) := by decide +kernel
theorem dX10_copies_49 : decode cX10_copies 49 = .ok (.putfield 112, 3) := by decide +kernel
theorem dX10_copies_52 : decode cX10_copies 52 = .ok (.iconst 1, 1) := by decide +kernel
theorem dX10_copies_53 : decode cX10_copies 53 = .ok (.ireturn, 1) := by decide +kernel
theorem dX10_far_0 : decode cX10_far 0 = .ok (.iload_n 0, 1) := by decide +kernel
theorem dX10_far_1 : decode cX10_far 1 = .ok (.iload_n 1, 1) := by decide +kernel
theorem dX10_far_2 : decode cX10_far 2 = .ok (.if_icmp .ge 9, 3) := by decide +kernel
theorem dX10_far_5 : decode cX10_far 5 = .ok (.iload_n 1, 1) := by decide +kernel
theorem dX10_far_6 : decode cX10_far 6 = .ok (.iload_n 0, 1) := by decide +kernel
theorem dX10_far_7 : decode cX10_far 7 = .ok (.isub, 1) := by decide +kernel
theorem dX10_far_8 : decode cX10_far 8 = .ok (.goto 6, 3) := by decide +kernel
theorem dX10_far_11 : decode cX10_far 11 = .ok (.iload_n 0, 1) := by decide +kernel
theorem dX10_far_12 : decode cX10_far 12 = .ok (.iload_n 1, 1) := by decide +kernel
theorem dX10_far_13 : decode cX10_far 13 = .ok (.isub, 1) := by decide +kernel
theorem dX10_far_14 : decode cX10_far 14 = .ok (.ireturn, 1) := by decide +kernel
theorem dX10_quarrel_0 : decode cX10_quarrel 0 = .ok (.aload_n 0, 1) := by decide +kernel
theorem dX10_quarrel_1 : decode cX10_quarrel 1 = .ok (.getfield 100, 3) := by decide +kernel
theorem dX10_quarrel_4 : decode cX10_quarrel 4 = .ok (.iload_n 1, 1) := by decide +kernel
theorem dX10_quarrel_5 : decode cX10_quarrel 5 = .ok (.iaload, 1) := by decide +kernel
theorem dX10_quarrel_6 : decode cX10_quarrel 6 = .ok (.aload_n 0, 1) := by decide +kernel
theorem dX10_quarrel_7 : decode cX10_quarrel 7 = .ok (.getfield 100, 3) := by decide +kernel
theorem dX10_quarrel_10 : decode cX10_quarrel 10 = .ok (.iload_n 2, 1) := by decide +kernel
theorem dX10_quarrel_11 : decode cX10_quarrel 11 = .ok (.iaload, 1) := by decide +kernel
theorem dX10_quarrel_12 : decode cX10_quarrel 12 = .ok (.aload_n 0, 1) := by decide +kernel
theorem dX10_quarrel_13 : decode cX10_quarrel 13 = .ok (.getfield 106, 3) := by decide +kernel
theorem dX10_quarrel_16 : decode cX10_quarrel 16 = .ok (.imul, 1) := by decide +kernel
theorem dX10_quarrel_17 : decode cX10_quarrel 17 = .ok (.sipush 1000, 3) := by decide +kernel
theorem dX10_quarrel_20 : decode cX10_quarrel 20 = .ok (.idiv, 1) := by decide +kernel
theorem dX10_quarrel_21 : decode cX10_quarrel 21 = .ok (.invokestatic 286, 3) := by decide +kernel
theorem dX10_quarrel_24 : decode cX10_quarrel 24 = .ok (.aload_n 0, 1) := by decide +kernel
theorem dX10_quarrel_25 : decode cX10_quarrel 25 = .ok (.getfield 103, 3) := by decide +kernel
theorem dX10_quarrel_28 : decode cX10_quarrel 28 = .ok (.iload_n 1, 1) := by decide +kernel
theorem dX10_quarrel_29 : decode cX10_quarrel 29 = .ok (.iaload, 1) := by decide +kernel
theorem dX10_quarrel_30 : decode cX10_quarrel 30 = .ok (.aload_n 0, 1) := by decide +kernel
theorem dX10_quarrel_31 : decode cX10_quarrel 31 = .ok (.getfield 103, 3) := by decide +kernel
theorem dX10_quarrel_34 : decode cX10_quarrel 34 = .ok (.iload_n 2, 1) := by decide +kernel
theorem dX10_quarrel_35 : decode cX10_quarrel 35 = .ok (.iaload, 1) := by decide +kernel
theorem dX10_quarrel_36 : decode cX10_quarrel 36 = .ok (.aload_n 0, 1) := by decide +kernel
theorem dX10_quarrel_37 : decode cX10_quarrel 37 = .ok (.getfield 109, 3) := by decide +kernel
theorem dX10_quarrel_40 : decode cX10_quarrel 40 = .ok (.imul, 1) := by decide +kernel
theorem dX10_quarrel_41 : decode cX10_quarrel 41 = .ok (.sipush 1000, 3) := by decide +kernel
theorem dX10_quarrel_44 : decode cX10_quarrel 44 = .ok (.idiv, 1) := by decide +kernel
theorem dX10_quarrel_45 : decode cX10_quarrel 45 = .ok (.invokestatic 286, 3) := by decide +kernel
theorem dX10_quarrel_48 : decode cX10_quarrel 48 = .ok (.iadd, 1) := by decide +kernel
theorem dX10_quarrel_49 : decode cX10_quarrel 49 = .ok (.ireturn, 1) := by decide +kernel
theorem dX10_mother_0 : decode cX10_mother 0 = .ok (.aload_n 0, 1) := by decide +kernel
theorem dX10_mother_1 : decode cX10_mother 1 = .ok (.iload_n 1, 1) := by decide +kernel
theorem dX10_mother_2 : decode cX10_mother 2 = .ok (.invokevirtual 289, 3) := by decide +kernel
theorem dX10_mother_5 : decode cX10_mother 5 = .ok (.ifCond .ne 5, 3) := by decide +kernel
theorem dX10_mother_8 : decode cX10_mother 8 = .ok (.iconst (-1), 1) := by decide +kernel
theorem dX10_mother_9 : decode cX10_mother 9 = .ok (.ireturn, 1) := by decide +kernel
theorem dX10_mother_10 : decode cX10_mother 10 = .ok (.bipush (-2), 2) := by decide +kernel
theorem dX10_mother_12 : decode cX10_mother 12 = .ok (.istore_n 2, 1) := by decide +kernel
theorem dX10_mother_13 : decode cX10_mother 13 = .ok (.iconst 0, 1) := by decide +kernel
theorem dX10_mother_14 : decode cX10_mother 14 = .ok (.istore_n 3, 1) := by decide +kernel
theorem dX10_mother_15 : decode cX10_mother 15 = .ok (.iload_n 3, 1) := by decide +kernel
theorem dX10_mother_16 : decode cX10_mother 16 = .ok (.bipush 12, 2) := by decide +kernel
theorem dX10_mother_18 : decode cX10_mother 18 = .ok (.if_icmp .ge 101, 3) := by decide +kernel
theorem dX10_mother_21 : decode cX10_mother 21 = .ok (.aload_n 0, 1) := by decide +kernel
theorem dX10_mother_22 : decode cX10_mother 22 = .ok (.iload_n 3, 1) := by decide +kernel
theorem dX10_mother_23 : decode cX10_mother 23 = .ok (.invokevirtual 289, 3) := by decide +kernel
theorem dX10_mother_26 : decode cX10_mother 26 = .ok (.ifCond .eq 87, 3) := by decide +kernel
theorem dX10_mother_29 : decode cX10_mother 29 = .ok (.aload_n 0, 1) := by decide +kernel
theorem dX10_mother_30 : decode cX10_mother 30 = .ok (.getfield 100, 3) := by decide +kernel
theorem dX10_mother_33 : decode cX10_mother 33 = .ok (.iload_n 3, 1) := by decide +kernel
theorem dX10_mother_34 : decode cX10_mother 34 = .ok (.iaload, 1) := by decide +kernel
theorem dX10_mother_35 : decode cX10_mother 35 = .ok (.aload_n 0, 1) := by decide +kernel
theorem dX10_mother_36 : decode cX10_mother 36 = .ok (.getfield 100, 3) := by decide +kernel
theorem dX10_mother_39 : decode cX10_mother 39 = .ok (.iload_n 1, 1) := by decide +kernel
theorem dX10_mother_40 : decode cX10_mother 40 = .ok (.iaload, 1) := by decide +kernel
theorem dX10_mother_41 : decode cX10_mother 41 = .ok (.if_icmp .lt 72, 3) := by decide +kernel
theorem dX10_mother_44 : decode cX10_mother 44 = .ok (.aload_n 0, 1) := by decide +kernel
theorem dX10_mother_45 : decode cX10_mother 45 = .ok (.getfield 100, 3) := by decide +kernel
theorem dX10_mother_48 : decode cX10_mother 48 = .ok (.iload_n 3, 1) := by decide +kernel
theorem dX10_mother_49 : decode cX10_mother 49 = .ok (.iaload, 1) := by decide +kernel
theorem dX10_mother_50 : decode cX10_mother 50 = .ok (.aload_n 0, 1) := by decide +kernel
theorem dX10_mother_51 : decode cX10_mother 51 = .ok (.getfield 100, 3) := by decide +kernel
theorem dX10_mother_54 : decode cX10_mother 54 = .ok (.iload_n 1, 1) := by decide +kernel
theorem dX10_mother_55 : decode cX10_mother 55 = .ok (.iaload, 1) := by decide +kernel
theorem dX10_mother_56 : decode cX10_mother 56 = .ok (.if_icmp .ne 21, 3) := by decide +kernel
theorem dX10_mother_59 : decode cX10_mother 59 = .ok (.aload_n 0, 1) := by decide +kernel
theorem dX10_mother_60 : decode cX10_mother 60 = .ok (.getfield 103, 3) := by decide +kernel
theorem dX10_mother_63 : decode cX10_mother 63 = .ok (.iload_n 3, 1) := by decide +kernel
theorem dX10_mother_64 : decode cX10_mother 64 = .ok (.iaload, 1) := by decide +kernel
theorem dX10_mother_65 : decode cX10_mother 65 = .ok (.aload_n 0, 1) := by decide +kernel
theorem dX10_mother_66 : decode cX10_mother 66 = .ok (.getfield 103, 3) := by decide +kernel
theorem dX10_mother_69 : decode cX10_mother 69 = .ok (.iload_n 1, 1) := by decide +kernel
theorem dX10_mother_70 : decode cX10_mother 70 = .ok (.iaload, 1) := by decide +kernel
theorem dX10_mother_71 : decode cX10_mother 71 = .ok (.if_icmp .gt 6, 3) := by decide +kernel
theorem dX10_mother_74 : decode cX10_mother 74 = .ok (.goto 39, 3) := by decide +kernel
theorem dX10_mother_77 : decode cX10_mother 77 = .ok (.aload_n 0, 1) := by decide +kernel
theorem dX10_mother_78 : decode cX10_mother 78 = .ok (.iload_n 1, 1) := by decide +kernel
theorem dX10_mother_79 : decode cX10_mother 79 = .ok (.iload_n 3, 1) := by decide +kernel
theorem dX10_mother_80 : decode cX10_mother 80 = .ok (.invokevirtual 292, 3) := by decide +kernel
theorem dX10_mother_83 : decode cX10_mother 83 = .ok (.aload_n 0, 1) := by decide +kernel
theorem dX10_mother_84 : decode cX10_mother 84 = .ok (.getfield 112, 3) := by decide +kernel
theorem dX10_mother_87 : decode cX10_mother 87 = .ok (.if_icmp .gt 26, 3) := by decide +kernel
theorem dX10_mother_90 : decode cX10_mother 90 = .ok (.iload_n 2, 1) := by decide +kernel
theorem dX10_mother_91 : decode cX10_mother 91 = .ok (.bipush (-2), 2) := by decide +kernel
theorem dX10_mother_93 : decode cX10_mother 93 = .ok (.if_icmp .eq 18, 3) := by decide +kernel
theorem dX10_mother_96 : decode cX10_mother 96 = .ok (.aload_n 0, 1) := by decide +kernel
theorem dX10_mother_97 : decode cX10_mother 97 = .ok (.iload_n 1, 1) := by decide +kernel
theorem dX10_mother_98 : decode cX10_mother 98 = .ok (.iload_n 3, 1) := by decide +kernel
theorem dX10_mother_99 : decode cX10_mother 99 = .ok (.invokevirtual 292, 3) := by decide +kernel
theorem dX10_mother_102 : decode cX10_mother 102 = .ok (.aload_n 0, 1) := by decide +kernel
theorem dX10_mother_103 : decode cX10_mother 103 = .ok (.iload_n 1, 1) := by decide +kernel
theorem dX10_mother_104 : decode cX10_mother 104 = .ok (.iload_n 2, 1) := by decide +kernel
theorem dX10_mother_105 : decode cX10_mother 105 = .ok (.invokevirtual 292, 3) := by decide +kernel
theorem dX10_mother_108 : decode cX10_mother 108 = .ok (.if_icmp .ge 5, 3) := by decide +kernel
theorem dX10_mother_111 : decode cX10_mother 111 = .ok (.iload_n 3, 1) := by decide +kernel
theorem dX10_mother_112 : decode cX10_mother 112 = .ok (.istore_n 2, 1) := by decide +kernel
theorem dX10_mother_113 : decode cX10_mother 113 = .ok (.iinc 3 1, 3) := by decide +kernel
theorem dX10_mother_116 : decode cX10_mother 116 = .ok (.goto (-101), 3) := by decide +kernel
theorem dX10_mother_119 : decode cX10_mother 119 = .ok (.iload_n 2, 1) := by decide +kernel
theorem dX10_mother_120 : decode cX10_mother 120 = .ok (.ireturn, 1) := by decide +kernel
theorem dX10_steps_0 : decode cX10_steps 0 = .ok (.aload_n 0, 1) := by decide +kernel
theorem dX10_steps_1 : decode cX10_steps 1 = .ok (.iload_n 1, 1) := by decide +kernel
theorem dX10_steps_2 : decode cX10_steps 2 = .ok (.invokevirtual 289, 3) := by decide +kernel
theorem dX10_steps_5 : decode cX10_steps 5 = .ok (.ifCond .ne 5, 3) := by decide +kernel
theorem dX10_steps_8 : decode cX10_steps 8 = .ok (.iconst (-1), 1) := by decide +kernel
theorem dX10_steps_9 : decode cX10_steps 9 = .ok (.ireturn, 1) := by decide +kernel
theorem dX10_steps_10 : decode cX10_steps 10 = .ok (.iconst 0, 1) := by decide +kernel
theorem dX10_steps_11 : decode cX10_steps 11 = .ok (.istore_n 2, 1) := by decide +kernel
theorem dX10_steps_12 : decode cX10_steps 12 = .ok (.aload_n 0, 1) := by decide +kernel
theorem dX10_steps_13 : decode cX10_steps 13 = .ok (.iload_n 1, 1) := by decide +kernel
theorem dX10_steps_14 : decode cX10_steps 14 = .ok (.invokevirtual 295, 3) := by decide +kernel
theorem dX10_steps_17 : decode cX10_steps 17 = .ok (.istore_n 3, 1) := by decide +kernel
theorem dX10_steps_18 : decode cX10_steps 18 = .ok (.iload_n 3, 1) := by decide +kernel
theorem dX10_steps_19 : decode cX10_steps 19 = .ok (.ifCond .lt 15, 3) := by decide +kernel
theorem dX10_steps_22 : decode cX10_steps 22 = .ok (.iinc 2 1, 3) := by decide +kernel
theorem dX10_steps_25 : decode cX10_steps 25 = .ok (.aload_n 0, 1) := by decide +kernel
theorem dX10_steps_26 : decode cX10_steps 26 = .ok (.iload_n 3, 1) := by decide +kernel
theorem dX10_steps_27 : decode cX10_steps 27 = .ok (.invokevirtual 295, 3) := by decide +kernel
theorem dX10_steps_30 : decode cX10_steps 30 = .ok (.istore_n 3, 1) := by decide +kernel
theorem dX10_steps_31 : decode cX10_steps 31 = .ok (.goto (-13), 3) := by decide +kernel
theorem dX10_steps_34 : decode cX10_steps 34 = .ok (.iload_n 2, 1) := by decide +kernel
theorem dX10_steps_35 : decode cX10_steps 35 = .ok (.ireturn, 1) := by decide +kernel
theorem dX10_told_0 : decode cX10_told 0 = .ok (.iload_n 1, 1) := by decide +kernel
theorem dX10_told_1 : decode cX10_told 1 = .ok (.ifCond .eq 10, 3) := by decide +kernel
theorem dX10_told_4 : decode cX10_told 4 = .ok (.iload_n 1, 1) := by decide +kernel
theorem dX10_told_5 : decode cX10_told 5 = .ok (.iconst 1, 1) := by decide +kernel
theorem dX10_told_6 : decode cX10_told 6 = .ok (.if_icmp .eq 5, 3) := by decide +kernel
theorem dX10_told_9 : decode cX10_told 9 = .ok (.iconst (-1), 1) := by decide +kernel
theorem dX10_told_10 : decode cX10_told 10 = .ok (.ireturn, 1) := by decide +kernel
theorem dX10_told_11 : decode cX10_told 11 = .ok (.iconst 0, 1) := by decide +kernel
theorem dX10_told_12 : decode cX10_told 12 = .ok (.istore_n 2, 1) := by decide +kernel
theorem dX10_told_13 : decode cX10_told 13 = .ok (.iconst 0, 1) := by decide +kernel
theorem dX10_told_14 : decode cX10_told 14 = .ok (.istore_n 3, 1) := by decide +kernel
theorem dX10_told_15 : decode cX10_told 15 = .ok (.iload_n 3, 1) := by decide +kernel
theorem dX10_told_16 : decode cX10_told 16 = .ok (.bipush 12, 2) := by decide +kernel
theorem dX10_told_18 : decode cX10_told 18 = .ok (.if_icmp .ge 59, 3) := by decide +kernel
theorem dX10_told_21 : decode cX10_told 21 = .ok (.aload_n 0, 1) := by decide +kernel
theorem dX10_told_22 : decode cX10_told 22 = .ok (.iload_n 3, 1) := by decide +kernel
theorem dX10_told_23 : decode cX10_told 23 = .ok (.invokevirtual 289, 3) := by decide +kernel
theorem dX10_told_26 : decode cX10_told 26 = .ok (.ifCond .ne 6, 3) := by decide +kernel
theorem dX10_told_29 : decode cX10_told 29 = .ok (.goto 42, 3) := by decide +kernel
theorem dX10_told_32 : decode cX10_told 32 = .ok (.aload_n 0, 1) := by decide +kernel
theorem dX10_told_33 : decode cX10_told 33 = .ok (.iload_n 3, 1) := by decide +kernel
theorem dX10_told_34 : decode cX10_told 34 = .ok (.invokevirtual 295, 3) := by decide +kernel
theorem dX10_told_37 : decode cX10_told 37 = .ok (.istore 4, 2) := by decide +kernel
theorem dX10_told_39 : decode cX10_told 39 = .ok (.iload_n 1, 1) := by decide +kernel
theorem dX10_told_40 : decode cX10_told 40 = .ok (.ifCond .ne 11, 3) := by decide +kernel
theorem dX10_told_43 : decode cX10_told 43 = .ok (.iload 4, 2) := by decide +kernel
theorem dX10_told_45 : decode cX10_told 45 = .ok (.ifCond .ge 6, 3) := by decide +kernel
theorem dX10_told_48 : decode cX10_told 48 = .ok (.iinc 2 1, 3) := by decide +kernel
theorem dX10_told_51 : decode cX10_told 51 = .ok (.iload_n 1, 1) := by decide +kernel
theorem dX10_told_52 : decode cX10_told 52 = .ok (.iconst 1, 1) := by decide +kernel
theorem dX10_told_53 : decode cX10_told 53 = .ok (.if_icmp .ne 18, 3) := by decide +kernel
theorem dX10_told_56 : decode cX10_told 56 = .ok (.iload 4, 2) := by decide +kernel
theorem dX10_told_58 : decode cX10_told 58 = .ok (.ifCond .lt 13, 3) := by decide +kernel
theorem dX10_told_61 : decode cX10_told 61 = .ok (.iload_n 2, 1) := by decide +kernel
theorem dX10_told_62 : decode cX10_told 62 = .ok (.aload_n 0, 1) := by decide +kernel
theorem dX10_told_63 : decode cX10_told 63 = .ok (.iload_n 3, 1) := by decide +kernel
theorem dX10_told_64 : decode cX10_told 64 = .ok (.iload 4, 2) := by decide +kernel
theorem dX10_told_66 : decode cX10_told 66 = .ok (.invokevirtual 292, 3) := by decide +kernel
theorem dX10_told_69 : decode cX10_told 69 = .ok (.iadd, 1) := by decide +kernel
theorem dX10_told_70 : decode cX10_told 70 = .ok (.istore_n 2, 1) := by decide +kernel
theorem dX10_told_71 : decode cX10_told 71 = .ok (.iinc 3 1, 3) := by decide +kernel
theorem dX10_told_74 : decode cX10_told 74 = .ok (.goto (-59), 3) := by decide +kernel
theorem dX10_told_77 : decode cX10_told 77 = .ok (.iload_n 2, 1) := by decide +kernel
theorem dX10_told_78 : decode cX10_told 78 = .ok (.ireturn, 1) := by decide +kernel
end
section
theorem dL_law_0 : decode cL_law 0 = .ok (.new 7, 3) := by decide +kernel
theorem dL_law_3 : decode cL_law 3 = .ok (.dup, 1) := by decide +kernel
theorem dL_law_4 : decode cL_law 4 = .ok (.invokespecial 9, 3) := by decide +kernel
theorem dL_law_7 : decode cL_law 7 = .ok (.astore_n 1, 1) := by decide +kernel
theorem dL_law_8 : decode cL_law 8 = .ok (.new 10, 3) := by decide +kernel
theorem dL_law_11 : decode cL_law 11 = .ok (.dup, 1) := by decide +kernel
theorem dL_law_12 : decode cL_law 12 = .ok (.invokespecial 12, 3) := by decide +kernel
theorem dL_law_15 : decode cL_law 15 = .ok (.astore_n 2, 1) := by decide +kernel
theorem dL_law_16 : decode cL_law 16 = .ok (.iconst 0, 1) := by decide +kernel
theorem dL_law_17 : decode cL_law 17 = .ok (.istore_n 3, 1) := by decide +kernel
theorem dL_law_18 : decode cL_law 18 = .ok (.iload_n 3, 1) := by decide +kernel
theorem dL_law_19 : decode cL_law 19 = .ok (.aload_n 0, 1) := by decide +kernel
theorem dL_law_20 : decode cL_law 20 = .ok (.arraylength, 1) := by decide +kernel
theorem dL_law_21 : decode cL_law 21 = .ok (.bipush 6, 2) := by decide +kernel
theorem dL_law_23 : decode cL_law 23 = .ok (.isub, 1) := by decide +kernel
theorem dL_law_24 : decode cL_law 24 = .ok (.if_icmp .gt 902, 3) := by decide +kernel
theorem dL_law_27 : decode cL_law 27 = .ok (.aload_n 0, 1) := by decide +kernel
theorem dL_law_28 : decode cL_law 28 = .ok (.iload_n 3, 1) := by decide +kernel
theorem dL_law_29 : decode cL_law 29 = .ok (.iaload, 1) := by decide +kernel
theorem dL_law_30 : decode cL_law 30 = .ok (.bipush 31, 2) := by decide +kernel
theorem dL_law_32 : decode cL_law 32 = .ok (.iand, 1) := by decide +kernel
theorem dL_law_33 : decode cL_law 33 = .ok (.tableswitch 887 0 25 #[119, 182, 205, 248, 271, 314, 357, 370, 383, 406, 449, 482, 515, 538, 561, 584, 607, 650, 673, 686, 709, 732, 775, 818, 841, 864], 119) := by decide +kernel
theorem dL_law_152 : decode cL_law 152 = .ok (.aload_n 1, 1) := by decide +kernel
theorem dL_law_153 : decode cL_law 153 = .ok (.aload_n 0, 1) := by decide +kernel
theorem dL_law_154 : decode cL_law 154 = .ok (.iload_n 3, 1) := by decide +kernel
theorem dL_law_155 : decode cL_law 155 = .ok (.iconst 1, 1) := by decide +kernel
theorem dL_law_156 : decode cL_law 156 = .ok (.iadd, 1) := by decide +kernel
theorem dL_law_157 : decode cL_law 157 = .ok (.iaload, 1) := by decide +kernel
theorem dL_law_158 : decode cL_law 158 = .ok (.aload_n 0, 1) := by decide +kernel
theorem dL_law_159 : decode cL_law 159 = .ok (.iload_n 3, 1) := by decide +kernel
theorem dL_law_160 : decode cL_law 160 = .ok (.iconst 2, 1) := by decide +kernel
theorem dL_law_161 : decode cL_law 161 = .ok (.iadd, 1) := by decide +kernel
theorem dL_law_162 : decode cL_law 162 = .ok (.iaload, 1) := by decide +kernel
theorem dL_law_163 : decode cL_law 163 = .ok (.aload_n 0, 1) := by decide +kernel
theorem dL_law_164 : decode cL_law 164 = .ok (.iload_n 3, 1) := by decide +kernel
theorem dL_law_165 : decode cL_law 165 = .ok (.iconst 3, 1) := by decide +kernel
theorem dL_law_166 : decode cL_law 166 = .ok (.iadd, 1) := by decide +kernel
theorem dL_law_167 : decode cL_law 167 = .ok (.iaload, 1) := by decide +kernel
theorem dL_law_168 : decode cL_law 168 = .ok (.aload_n 0, 1) := by decide +kernel
theorem dL_law_169 : decode cL_law 169 = .ok (.iload_n 3, 1) := by decide +kernel
theorem dL_law_170 : decode cL_law 170 = .ok (.iconst 4, 1) := by decide +kernel
theorem dL_law_171 : decode cL_law 171 = .ok (.iadd, 1) := by decide +kernel
theorem dL_law_172 : decode cL_law 172 = .ok (.iaload, 1) := by decide +kernel
theorem dL_law_173 : decode cL_law 173 = .ok (.aload_n 0, 1) := by decide +kernel
theorem dL_law_174 : decode cL_law 174 = .ok (.iload_n 3, 1) := by decide +kernel
theorem dL_law_175 : decode cL_law 175 = .ok (.iconst 5, 1) := by decide +kernel
theorem dL_law_176 : decode cL_law 176 = .ok (.iadd, 1) := by decide +kernel
theorem dL_law_177 : decode cL_law 177 = .ok (.iaload, 1) := by decide +kernel
theorem dL_law_178 : decode cL_law 178 = .ok (.invokevirtual 13, 3) := by decide +kernel
theorem dL_law_181 : decode cL_law 181 = .ok (.aload_n 2, 1) := by decide +kernel
theorem dL_law_182 : decode cL_law 182 = .ok (.aload_n 0, 1) := by decide +kernel
theorem dL_law_183 : decode cL_law 183 = .ok (.iload_n 3, 1) := by decide +kernel
theorem dL_law_184 : decode cL_law 184 = .ok (.iconst 1, 1) := by decide +kernel
theorem dL_law_185 : decode cL_law 185 = .ok (.iadd, 1) := by decide +kernel
theorem dL_law_186 : decode cL_law 186 = .ok (.iaload, 1) := by decide +kernel
theorem dL_law_187 : decode cL_law 187 = .ok (.aload_n 0, 1) := by decide +kernel
theorem dL_law_188 : decode cL_law 188 = .ok (.iload_n 3, 1) := by decide +kernel
theorem dL_law_189 : decode cL_law 189 = .ok (.iconst 2, 1) := by decide +kernel
theorem dL_law_190 : decode cL_law 190 = .ok (.iadd, 1) := by decide +kernel
theorem dL_law_191 : decode cL_law 191 = .ok (.iaload, 1) := by decide +kernel
theorem dL_law_192 : decode cL_law 192 = .ok (.aload_n 0, 1) := by decide +kernel
theorem dL_law_193 : decode cL_law 193 = .ok (.iload_n 3, 1) := by decide +kernel
theorem dL_law_194 : decode cL_law 194 = .ok (.iconst 3, 1) := by decide +kernel
theorem dL_law_195 : decode cL_law 195 = .ok (.iadd, 1) := by decide +kernel
theorem dL_law_196 : decode cL_law 196 = .ok (.iaload, 1) := by decide +kernel
theorem dL_law_197 : decode cL_law 197 = .ok (.aload_n 0, 1) := by decide +kernel
theorem dL_law_198 : decode cL_law 198 = .ok (.iload_n 3, 1) := by decide +kernel
theorem dL_law_199 : decode cL_law 199 = .ok (.iconst 4, 1) := by decide +kernel
theorem dL_law_200 : decode cL_law 200 = .ok (.iadd, 1) := by decide +kernel
theorem dL_law_201 : decode cL_law 201 = .ok (.iaload, 1) := by decide +kernel
theorem dL_law_202 : decode cL_law 202 = .ok (.aload_n 0, 1) := by decide +kernel
theorem dL_law_203 : decode cL_law 203 = .ok (.iload_n 3, 1) := by decide +kernel
theorem dL_law_204 : decode cL_law 204 = .ok (.iconst 5, 1) := by decide +kernel
theorem dL_law_205 : decode cL_law 205 = .ok (.iadd, 1) := by decide +kernel
theorem dL_law_206 : decode cL_law 206 = .ok (.iaload, 1) := by decide +kernel
theorem dL_law_207 : decode cL_law 207 = .ok (.invokevirtual 17, 3) := by decide +kernel
theorem dL_law_210 : decode cL_law 210 = .ok (.if_icmp .eq 710, 3) := by decide +kernel
theorem dL_law_213 : decode cL_law 213 = .ok (.iconst 0, 1) := by decide +kernel
theorem dL_law_214 : decode cL_law 214 = .ok (.ireturn, 1) := by decide +kernel
theorem dL_law_215 : decode cL_law 215 = .ok (.aload_n 1, 1) := by decide +kernel
theorem dL_law_216 : decode cL_law 216 = .ok (.aload_n 0, 1) := by decide +kernel
theorem dL_law_217 : decode cL_law 217 = .ok (.iload_n 3, 1) := by decide +kernel
theorem dL_law_218 : decode cL_law 218 = .ok (.iconst 1, 1) := by decide +kernel
theorem dL_law_219 : decode cL_law 219 = .ok (.iadd, 1) := by decide +kernel
theorem dL_law_220 : decode cL_law 220 = .ok (.iaload, 1) := by decide +kernel
theorem dL_law_221 : decode cL_law 221 = .ok (.invokevirtual 18, 3) := by decide +kernel
theorem dL_law_224 : decode cL_law 224 = .ok (.aload_n 2, 1) := by decide +kernel
theorem dL_law_225 : decode cL_law 225 = .ok (.aload_n 0, 1) := by decide +kernel
theorem dL_law_226 : decode cL_law 226 = .ok (.iload_n 3, 1) := by decide +kernel
theorem dL_law_227 : decode cL_law 227 = .ok (.iconst 1, 1) := by decide +kernel
theorem dL_law_228 : decode cL_law 228 = .ok (.iadd, 1) := by decide +kernel
theorem dL_law_229 : decode cL_law 229 = .ok (.iaload, 1) := by decide +kernel
theorem dL_law_230 : decode cL_law 230 = .ok (.invokevirtual 22, 3) := by decide +kernel
theorem dL_law_233 : decode cL_law 233 = .ok (.if_icmp .eq 687, 3) := by decide +kernel
theorem dL_law_236 : decode cL_law 236 = .ok (.iconst 0, 1) := by decide +kernel
theorem dL_law_237 : decode cL_law 237 = .ok (.ireturn, 1) := by decide +kernel
theorem dL_law_238 : decode cL_law 238 = .ok (.aload_n 1, 1) := by decide +kernel
theorem dL_law_239 : decode cL_law 239 = .ok (.aload_n 0, 1) := by decide +kernel
theorem dL_law_240 : decode cL_law 240 = .ok (.iload_n 3, 1) := by decide +kernel
theorem dL_law_241 : decode cL_law 241 = .ok (.iconst 1, 1) := by decide +kernel
theorem dL_law_242 : decode cL_law 242 = .ok (.iadd, 1) := by decide +kernel
theorem dL_law_243 : decode cL_law 243 = .ok (.iaload, 1) := by decide +kernel
theorem dL_law_244 : decode cL_law 244 = .ok (.aload_n 0, 1) := by decide +kernel
theorem dL_law_245 : decode cL_law 245 = .ok (.iload_n 3, 1) := by decide +kernel
theorem dL_law_246 : decode cL_law 246 = .ok (.iconst 2, 1) := by decide +kernel
theorem dL_law_247 : decode cL_law 247 = .ok (.iadd, 1) := by decide +kernel
theorem dL_law_248 : decode cL_law 248 = .ok (.iaload, 1) := by decide +kernel
theorem dL_law_249 : decode cL_law 249 = .ok (.aload_n 0, 1) := by decide +kernel
theorem dL_law_250 : decode cL_law 250 = .ok (.iload_n 3, 1) := by decide +kernel
theorem dL_law_251 : decode cL_law 251 = .ok (.iconst 3, 1) := by decide +kernel
theorem dL_law_252 : decode cL_law 252 = .ok (.iadd, 1) := by decide +kernel
theorem dL_law_253 : decode cL_law 253 = .ok (.iaload, 1) := by decide +kernel
theorem dL_law_254 : decode cL_law 254 = .ok (.invokevirtual 23, 3) := by decide +kernel
theorem dL_law_257 : decode cL_law 257 = .ok (.aload_n 2, 1) := by decide +kernel
theorem dL_law_258 : decode cL_law 258 = .ok (.aload_n 0, 1) := by decide +kernel
theorem dL_law_259 : decode cL_law 259 = .ok (.iload_n 3, 1) := by decide +kernel
theorem dL_law_260 : decode cL_law 260 = .ok (.iconst 1, 1) := by decide +kernel
theorem dL_law_261 : decode cL_law 261 = .ok (.iadd, 1) := by decide +kernel
theorem dL_law_262 : decode cL_law 262 = .ok (.iaload, 1) := by decide +kernel
theorem dL_law_263 : decode cL_law 263 = .ok (.aload_n 0, 1) := by decide +kernel
theorem dL_law_264 : decode cL_law 264 = .ok (.iload_n 3, 1) := by decide +kernel
theorem dL_law_265 : decode cL_law 265 = .ok (.iconst 2, 1) := by decide +kernel
theorem dL_law_266 : decode cL_law 266 = .ok (.iadd, 1) := by decide +kernel
theorem dL_law_267 : decode cL_law 267 = .ok (.iaload, 1) := by decide +kernel
theorem dL_law_268 : decode cL_law 268 = .ok (.aload_n 0, 1) := by decide +kernel
theorem dL_law_269 : decode cL_law 269 = .ok (.iload_n 3, 1) := by decide +kernel
theorem dL_law_270 : decode cL_law 270 = .ok (.iconst 3, 1) := by decide +kernel
theorem dL_law_271 : decode cL_law 271 = .ok (.iadd, 1) := by decide +kernel
theorem dL_law_272 : decode cL_law 272 = .ok (.iaload, 1) := by decide +kernel
theorem dL_law_273 : decode cL_law 273 = .ok (.invokevirtual 27, 3) := by decide +kernel
theorem dL_law_276 : decode cL_law 276 = .ok (.if_icmp .eq 644, 3) := by decide +kernel
theorem dL_law_279 : decode cL_law 279 = .ok (.iconst 0, 1) := by decide +kernel
theorem dL_law_280 : decode cL_law 280 = .ok (.ireturn, 1) := by decide +kernel
theorem dL_law_281 : decode cL_law 281 = .ok (.aload_n 1, 1) := by decide +kernel
theorem dL_law_282 : decode cL_law 282 = .ok (.aload_n 0, 1) := by decide +kernel
theorem dL_law_283 : decode cL_law 283 = .ok (.iload_n 3, 1) := by decide +kernel
theorem dL_law_284 : decode cL_law 284 = .ok (.iconst 1, 1) := by decide +kernel
theorem dL_law_285 : decode cL_law 285 = .ok (.iadd, 1) := by decide +kernel
theorem dL_law_286 : decode cL_law 286 = .ok (.iaload, 1) := by decide +kernel
theorem dL_law_287 : decode cL_law 287 = .ok (.invokevirtual 28, 3) := by decide +kernel
theorem dL_law_290 : decode cL_law 290 = .ok (.aload_n 2, 1) := by decide +kernel
theorem dL_law_291 : decode cL_law 291 = .ok (.aload_n 0, 1) := by decide +kernel
theorem dL_law_292 : decode cL_law 292 = .ok (.iload_n 3, 1) := by decide +kernel
theorem dL_law_293 : decode cL_law 293 = .ok (.iconst 1, 1) := by decide +kernel
theorem dL_law_294 : decode cL_law 294 = .ok (.iadd, 1) := by decide +kernel
theorem dL_law_295 : decode cL_law 295 = .ok (.iaload, 1) := by decide +kernel
theorem dL_law_296 : decode cL_law 296 = .ok (.invokevirtual 32, 3) := by decide +kernel
theorem dL_law_299 : decode cL_law 299 = .ok (.if_icmp .eq 621, 3) := by decide +kernel
theorem dL_law_302 : decode cL_law 302 = .ok (.iconst 0, 1) := by decide +kernel
theorem dL_law_303 : decode cL_law 303 = .ok (.ireturn, 1) := by decide +kernel
theorem dL_law_304 : decode cL_law 304 = .ok (.aload_n 1, 1) := by decide +kernel
theorem dL_law_305 : decode cL_law 305 = .ok (.aload_n 0, 1) := by decide +kernel
theorem dL_law_306 : decode cL_law 306 = .ok (.iload_n 3, 1) := by decide +kernel
theorem dL_law_307 : decode cL_law 307 = .ok (.iconst 1, 1) := by decide +kernel
theorem dL_law_308 : decode cL_law 308 = .ok (.iadd, 1) := by decide +kernel
theorem dL_law_309 : decode cL_law 309 = .ok (.iaload, 1) := by decide +kernel
theorem dL_law_310 : decode cL_law 310 = .ok (.aload_n 0, 1) := by decide +kernel
theorem dL_law_311 : decode cL_law 311 = .ok (.iload_n 3, 1) := by decide +kernel
theorem dL_law_312 : decode cL_law 312 = .ok (.iconst 2, 1) := by decide +kernel
theorem dL_law_313 : decode cL_law 313 = .ok (.iadd, 1) := by decide +kernel
theorem dL_law_314 : decode cL_law 314 = .ok (.iaload, 1) := by decide +kernel
theorem dL_law_315 : decode cL_law 315 = .ok (.aload_n 0, 1) := by decide +kernel
theorem dL_law_316 : decode cL_law 316 = .ok (.iload_n 3, 1) := by decide +kernel
theorem dL_law_317 : decode cL_law 317 = .ok (.iconst 3, 1) := by decide +kernel
theorem dL_law_318 : decode cL_law 318 = .ok (.iadd, 1) := by decide +kernel
theorem dL_law_319 : decode cL_law 319 = .ok (.iaload, 1) := by decide +kernel
theorem dL_law_320 : decode cL_law 320 = .ok (.invokevirtual 33, 3) := by decide +kernel
theorem dL_law_323 : decode cL_law 323 = .ok (.aload_n 2, 1) := by decide +kernel
theorem dL_law_324 : decode cL_law 324 = .ok (.aload_n 0, 1) := by decide +kernel
theorem dL_law_325 : decode cL_law 325 = .ok (.iload_n 3, 1) := by decide +kernel
theorem dL_law_326 : decode cL_law 326 = .ok (.iconst 1, 1) := by decide +kernel
theorem dL_law_327 : decode cL_law 327 = .ok (.iadd, 1) := by decide +kernel
theorem dL_law_328 : decode cL_law 328 = .ok (.iaload, 1) := by decide +kernel
theorem dL_law_329 : decode cL_law 329 = .ok (.aload_n 0, 1) := by decide +kernel
theorem dL_law_330 : decode cL_law 330 = .ok (.iload_n 3, 1) := by decide +kernel
theorem dL_law_331 : decode cL_law 331 = .ok (.iconst 2, 1) := by decide +kernel
theorem dL_law_332 : decode cL_law 332 = .ok (.iadd, 1) := by decide +kernel
theorem dL_law_333 : decode cL_law 333 = .ok (.iaload, 1) := by decide +kernel
theorem dL_law_334 : decode cL_law 334 = .ok (.aload_n 0, 1) := by decide +kernel
theorem dL_law_335 : decode cL_law 335 = .ok (.iload_n 3, 1) := by decide +kernel
theorem dL_law_336 : decode cL_law 336 = .ok (.iconst 3, 1) := by decide +kernel
theorem dL_law_337 : decode cL_law 337 = .ok (.iadd, 1) := by decide +kernel
theorem dL_law_338 : decode cL_law 338 = .ok (.iaload, 1) := by decide +kernel
theorem dL_law_339 : decode cL_law 339 = .ok (.invokevirtual 36, 3) := by decide +kernel
theorem dL_law_342 : decode cL_law 342 = .ok (.if_icmp .eq 578, 3) := by decide +kernel
theorem dL_law_345 : decode cL_law 345 = .ok (.iconst 0, 1) := by decide +kernel
theorem dL_law_346 : decode cL_law 346 = .ok (.ireturn, 1) := by decide +kernel
theorem dL_law_347 : decode cL_law 347 = .ok (.aload_n 1, 1) := by decide +kernel
theorem dL_law_348 : decode cL_law 348 = .ok (.aload_n 0, 1) := by decide +kernel
theorem dL_law_349 : decode cL_law 349 = .ok (.iload_n 3, 1) := by decide +kernel
theorem dL_law_350 : decode cL_law 350 = .ok (.iconst 1, 1) := by decide +kernel
theorem dL_law_351 : decode cL_law 351 = .ok (.iadd, 1) := by decide +kernel
theorem dL_law_352 : decode cL_law 352 = .ok (.iaload, 1) := by decide +kernel
theorem dL_law_353 : decode cL_law 353 = .ok (.aload_n 0, 1) := by decide +kernel
theorem dL_law_354 : decode cL_law 354 = .ok (.iload_n 3, 1) := by decide +kernel
theorem dL_law_355 : decode cL_law 355 = .ok (.iconst 2, 1) := by decide +kernel
theorem dL_law_356 : decode cL_law 356 = .ok (.iadd, 1) := by decide +kernel
theorem dL_law_357 : decode cL_law 357 = .ok (.iaload, 1) := by decide +kernel
theorem dL_law_358 : decode cL_law 358 = .ok (.aload_n 0, 1) := by decide +kernel
theorem dL_law_359 : decode cL_law 359 = .ok (.iload_n 3, 1) := by decide +kernel
theorem dL_law_360 : decode cL_law 360 = .ok (.iconst 3, 1) := by decide +kernel
theorem dL_law_361 : decode cL_law 361 = .ok (.iadd, 1) := by decide +kernel
theorem dL_law_362 : decode cL_law 362 = .ok (.iaload, 1) := by decide +kernel
theorem dL_law_363 : decode cL_law 363 = .ok (.invokevirtual 37, 3) := by decide +kernel
theorem dL_law_366 : decode cL_law 366 = .ok (.aload_n 2, 1) := by decide +kernel
theorem dL_law_367 : decode cL_law 367 = .ok (.aload_n 0, 1) := by decide +kernel
theorem dL_law_368 : decode cL_law 368 = .ok (.iload_n 3, 1) := by decide +kernel
theorem dL_law_369 : decode cL_law 369 = .ok (.iconst 1, 1) := by decide +kernel
theorem dL_law_370 : decode cL_law 370 = .ok (.iadd, 1) := by decide +kernel
theorem dL_law_371 : decode cL_law 371 = .ok (.iaload, 1) := by decide +kernel
theorem dL_law_372 : decode cL_law 372 = .ok (.aload_n 0, 1) := by decide +kernel
theorem dL_law_373 : decode cL_law 373 = .ok (.iload_n 3, 1) := by decide +kernel
theorem dL_law_374 : decode cL_law 374 = .ok (.iconst 2, 1) := by decide +kernel
theorem dL_law_375 : decode cL_law 375 = .ok (.iadd, 1) := by decide +kernel
theorem dL_law_376 : decode cL_law 376 = .ok (.iaload, 1) := by decide +kernel
theorem dL_law_377 : decode cL_law 377 = .ok (.aload_n 0, 1) := by decide +kernel
theorem dL_law_378 : decode cL_law 378 = .ok (.iload_n 3, 1) := by decide +kernel
theorem dL_law_379 : decode cL_law 379 = .ok (.iconst 3, 1) := by decide +kernel
theorem dL_law_380 : decode cL_law 380 = .ok (.iadd, 1) := by decide +kernel
theorem dL_law_381 : decode cL_law 381 = .ok (.iaload, 1) := by decide +kernel
theorem dL_law_382 : decode cL_law 382 = .ok (.invokevirtual 40, 3) := by decide +kernel
theorem dL_law_385 : decode cL_law 385 = .ok (.if_icmp .eq 535, 3) := by decide +kernel
theorem dL_law_388 : decode cL_law 388 = .ok (.iconst 0, 1) := by decide +kernel
theorem dL_law_389 : decode cL_law 389 = .ok (.ireturn, 1) := by decide +kernel
theorem dL_law_390 : decode cL_law 390 = .ok (.aload_n 1, 1) := by decide +kernel
theorem dL_law_391 : decode cL_law 391 = .ok (.invokevirtual 41, 3) := by decide +kernel
theorem dL_law_394 : decode cL_law 394 = .ok (.aload_n 2, 1) := by decide +kernel
theorem dL_law_395 : decode cL_law 395 = .ok (.invokevirtual 45, 3) := by decide +kernel
theorem dL_law_398 : decode cL_law 398 = .ok (.if_icmp .eq 522, 3) := by decide +kernel
theorem dL_law_401 : decode cL_law 401 = .ok (.iconst 0, 1) := by decide +kernel
theorem dL_law_402 : decode cL_law 402 = .ok (.ireturn, 1) := by decide +kernel
theorem dL_law_403 : decode cL_law 403 = .ok (.aload_n 1, 1) := by decide +kernel
theorem dL_law_404 : decode cL_law 404 = .ok (.invokevirtual 46, 3) := by decide +kernel
theorem dL_law_407 : decode cL_law 407 = .ok (.aload_n 2, 1) := by decide +kernel
theorem dL_law_408 : decode cL_law 408 = .ok (.invokevirtual 49, 3) := by decide +kernel
theorem dL_law_411 : decode cL_law 411 = .ok (.if_icmp .eq 509, 3) := by decide +kernel
theorem dL_law_414 : decode cL_law 414 = .ok (.iconst 0, 1) := by decide +kernel
theorem dL_law_415 : decode cL_law 415 = .ok (.ireturn, 1) := by decide +kernel
theorem dL_law_416 : decode cL_law 416 = .ok (.aload_n 1, 1) := by decide +kernel
theorem dL_law_417 : decode cL_law 417 = .ok (.aload_n 0, 1) := by decide +kernel
theorem dL_law_418 : decode cL_law 418 = .ok (.iload_n 3, 1) := by decide +kernel
theorem dL_law_419 : decode cL_law 419 = .ok (.iconst 1, 1) := by decide +kernel
theorem dL_law_420 : decode cL_law 420 = .ok (.iadd, 1) := by decide +kernel
theorem dL_law_421 : decode cL_law 421 = .ok (.iaload, 1) := by decide +kernel
theorem dL_law_422 : decode cL_law 422 = .ok (.invokevirtual 50, 3) := by decide +kernel
theorem dL_law_425 : decode cL_law 425 = .ok (.aload_n 2, 1) := by decide +kernel
theorem dL_law_426 : decode cL_law 426 = .ok (.aload_n 0, 1) := by decide +kernel
theorem dL_law_427 : decode cL_law 427 = .ok (.iload_n 3, 1) := by decide +kernel
theorem dL_law_428 : decode cL_law 428 = .ok (.iconst 1, 1) := by decide +kernel
theorem dL_law_429 : decode cL_law 429 = .ok (.iadd, 1) := by decide +kernel
theorem dL_law_430 : decode cL_law 430 = .ok (.iaload, 1) := by decide +kernel
theorem dL_law_431 : decode cL_law 431 = .ok (.invokevirtual 53, 3) := by decide +kernel
theorem dL_law_434 : decode cL_law 434 = .ok (.if_icmp .eq 486, 3) := by decide +kernel
theorem dL_law_437 : decode cL_law 437 = .ok (.iconst 0, 1) := by decide +kernel
theorem dL_law_438 : decode cL_law 438 = .ok (.ireturn, 1) := by decide +kernel
theorem dL_law_439 : decode cL_law 439 = .ok (.aload_n 1, 1) := by decide +kernel
theorem dL_law_440 : decode cL_law 440 = .ok (.aload_n 0, 1) := by decide +kernel
theorem dL_law_441 : decode cL_law 441 = .ok (.iload_n 3, 1) := by decide +kernel
theorem dL_law_442 : decode cL_law 442 = .ok (.iconst 1, 1) := by decide +kernel
theorem dL_law_443 : decode cL_law 443 = .ok (.iadd, 1) := by decide +kernel
theorem dL_law_444 : decode cL_law 444 = .ok (.iaload, 1) := by decide +kernel
theorem dL_law_445 : decode cL_law 445 = .ok (.aload_n 0, 1) := by decide +kernel
theorem dL_law_446 : decode cL_law 446 = .ok (.iload_n 3, 1) := by decide +kernel
theorem dL_law_447 : decode cL_law 447 = .ok (.iconst 2, 1) := by decide +kernel
theorem dL_law_448 : decode cL_law 448 = .ok (.iadd, 1) := by decide +kernel
theorem dL_law_449 : decode cL_law 449 = .ok (.iaload, 1) := by decide +kernel
theorem dL_law_450 : decode cL_law 450 = .ok (.aload_n 0, 1) := by decide +kernel
theorem dL_law_451 : decode cL_law 451 = .ok (.iload_n 3, 1) := by decide +kernel
theorem dL_law_452 : decode cL_law 452 = .ok (.iconst 3, 1) := by decide +kernel
theorem dL_law_453 : decode cL_law 453 = .ok (.iadd, 1) := by decide +kernel
theorem dL_law_454 : decode cL_law 454 = .ok (.iaload, 1) := by decide +kernel
theorem dL_law_455 : decode cL_law 455 = .ok (.invokevirtual 54, 3) := by decide +kernel
theorem dL_law_458 : decode cL_law 458 = .ok (.aload_n 2, 1) := by decide +kernel
theorem dL_law_459 : decode cL_law 459 = .ok (.aload_n 0, 1) := by decide +kernel
theorem dL_law_460 : decode cL_law 460 = .ok (.iload_n 3, 1) := by decide +kernel
theorem dL_law_461 : decode cL_law 461 = .ok (.iconst 1, 1) := by decide +kernel
theorem dL_law_462 : decode cL_law 462 = .ok (.iadd, 1) := by decide +kernel
theorem dL_law_463 : decode cL_law 463 = .ok (.iaload, 1) := by decide +kernel
theorem dL_law_464 : decode cL_law 464 = .ok (.aload_n 0, 1) := by decide +kernel
theorem dL_law_465 : decode cL_law 465 = .ok (.iload_n 3, 1) := by decide +kernel
theorem dL_law_466 : decode cL_law 466 = .ok (.iconst 2, 1) := by decide +kernel
theorem dL_law_467 : decode cL_law 467 = .ok (.iadd, 1) := by decide +kernel
theorem dL_law_468 : decode cL_law 468 = .ok (.iaload, 1) := by decide +kernel
theorem dL_law_469 : decode cL_law 469 = .ok (.aload_n 0, 1) := by decide +kernel
theorem dL_law_470 : decode cL_law 470 = .ok (.iload_n 3, 1) := by decide +kernel
theorem dL_law_471 : decode cL_law 471 = .ok (.iconst 3, 1) := by decide +kernel
theorem dL_law_472 : decode cL_law 472 = .ok (.iadd, 1) := by decide +kernel
theorem dL_law_473 : decode cL_law 473 = .ok (.iaload, 1) := by decide +kernel
theorem dL_law_474 : decode cL_law 474 = .ok (.invokevirtual 57, 3) := by decide +kernel
theorem dL_law_477 : decode cL_law 477 = .ok (.if_icmp .eq 443, 3) := by decide +kernel
theorem dL_law_480 : decode cL_law 480 = .ok (.iconst 0, 1) := by decide +kernel
theorem dL_law_481 : decode cL_law 481 = .ok (.ireturn, 1) := by decide +kernel
theorem dL_law_482 : decode cL_law 482 = .ok (.aload_n 1, 1) := by decide +kernel
theorem dL_law_483 : decode cL_law 483 = .ok (.aload_n 0, 1) := by decide +kernel
theorem dL_law_484 : decode cL_law 484 = .ok (.iload_n 3, 1) := by decide +kernel
theorem dL_law_485 : decode cL_law 485 = .ok (.iconst 1, 1) := by decide +kernel
theorem dL_law_486 : decode cL_law 486 = .ok (.iadd, 1) := by decide +kernel
theorem dL_law_487 : decode cL_law 487 = .ok (.iaload, 1) := by decide +kernel
theorem dL_law_488 : decode cL_law 488 = .ok (.aload_n 0, 1) := by decide +kernel
theorem dL_law_489 : decode cL_law 489 = .ok (.iload_n 3, 1) := by decide +kernel
theorem dL_law_490 : decode cL_law 490 = .ok (.iconst 2, 1) := by decide +kernel
theorem dL_law_491 : decode cL_law 491 = .ok (.iadd, 1) := by decide +kernel
theorem dL_law_492 : decode cL_law 492 = .ok (.iaload, 1) := by decide +kernel
theorem dL_law_493 : decode cL_law 493 = .ok (.invokevirtual 58, 3) := by decide +kernel
theorem dL_law_496 : decode cL_law 496 = .ok (.aload_n 2, 1) := by decide +kernel
theorem dL_law_497 : decode cL_law 497 = .ok (.aload_n 0, 1) := by decide +kernel
theorem dL_law_498 : decode cL_law 498 = .ok (.iload_n 3, 1) := by decide +kernel
theorem dL_law_499 : decode cL_law 499 = .ok (.iconst 1, 1) := by decide +kernel
theorem dL_law_500 : decode cL_law 500 = .ok (.iadd, 1) := by decide +kernel
theorem dL_law_501 : decode cL_law 501 = .ok (.iaload, 1) := by decide +kernel
theorem dL_law_502 : decode cL_law 502 = .ok (.aload_n 0, 1) := by decide +kernel
theorem dL_law_503 : decode cL_law 503 = .ok (.iload_n 3, 1) := by decide +kernel
theorem dL_law_504 : decode cL_law 504 = .ok (.iconst 2, 1) := by decide +kernel
theorem dL_law_505 : decode cL_law 505 = .ok (.iadd, 1) := by decide +kernel
theorem dL_law_506 : decode cL_law 506 = .ok (.iaload, 1) := by decide +kernel
theorem dL_law_507 : decode cL_law 507 = .ok (.invokevirtual 62, 3) := by decide +kernel
theorem dL_law_510 : decode cL_law 510 = .ok (.if_icmp .eq 410, 3) := by decide +kernel
theorem dL_law_513 : decode cL_law 513 = .ok (.iconst 0, 1) := by decide +kernel
theorem dL_law_514 : decode cL_law 514 = .ok (.ireturn, 1) := by decide +kernel
theorem dL_law_515 : decode cL_law 515 = .ok (.aload_n 1, 1) := by decide +kernel
theorem dL_law_516 : decode cL_law 516 = .ok (.aload_n 0, 1) := by decide +kernel
theorem dL_law_517 : decode cL_law 517 = .ok (.iload_n 3, 1) := by decide +kernel
theorem dL_law_518 : decode cL_law 518 = .ok (.iconst 1, 1) := by decide +kernel
theorem dL_law_519 : decode cL_law 519 = .ok (.iadd, 1) := by decide +kernel
theorem dL_law_520 : decode cL_law 520 = .ok (.iaload, 1) := by decide +kernel
theorem dL_law_521 : decode cL_law 521 = .ok (.aload_n 0, 1) := by decide +kernel
theorem dL_law_522 : decode cL_law 522 = .ok (.iload_n 3, 1) := by decide +kernel
theorem dL_law_523 : decode cL_law 523 = .ok (.iconst 2, 1) := by decide +kernel
theorem dL_law_524 : decode cL_law 524 = .ok (.iadd, 1) := by decide +kernel
theorem dL_law_525 : decode cL_law 525 = .ok (.iaload, 1) := by decide +kernel
theorem dL_law_526 : decode cL_law 526 = .ok (.invokevirtual 63, 3) := by decide +kernel
theorem dL_law_529 : decode cL_law 529 = .ok (.aload_n 2, 1) := by decide +kernel
theorem dL_law_530 : decode cL_law 530 = .ok (.aload_n 0, 1) := by decide +kernel
theorem dL_law_531 : decode cL_law 531 = .ok (.iload_n 3, 1) := by decide +kernel
theorem dL_law_532 : decode cL_law 532 = .ok (.iconst 1, 1) := by decide +kernel
theorem dL_law_533 : decode cL_law 533 = .ok (.iadd, 1) := by decide +kernel
theorem dL_law_534 : decode cL_law 534 = .ok (.iaload, 1) := by decide +kernel
theorem dL_law_535 : decode cL_law 535 = .ok (.aload_n 0, 1) := by decide +kernel
theorem dL_law_536 : decode cL_law 536 = .ok (.iload_n 3, 1) := by decide +kernel
theorem dL_law_537 : decode cL_law 537 = .ok (.iconst 2, 1) := by decide +kernel
theorem dL_law_538 : decode cL_law 538 = .ok (.iadd, 1) := by decide +kernel
theorem dL_law_539 : decode cL_law 539 = .ok (.iaload, 1) := by decide +kernel
theorem dL_law_540 : decode cL_law 540 = .ok (.invokevirtual 67, 3) := by decide +kernel
theorem dL_law_543 : decode cL_law 543 = .ok (.if_icmp .eq 377, 3) := by decide +kernel
theorem dL_law_546 : decode cL_law 546 = .ok (.iconst 0, 1) := by decide +kernel
theorem dL_law_547 : decode cL_law 547 = .ok (.ireturn, 1) := by decide +kernel
theorem dL_law_548 : decode cL_law 548 = .ok (.aload_n 1, 1) := by decide +kernel
theorem dL_law_549 : decode cL_law 549 = .ok (.aload_n 0, 1) := by decide +kernel
theorem dL_law_550 : decode cL_law 550 = .ok (.iload_n 3, 1) := by decide +kernel
theorem dL_law_551 : decode cL_law 551 = .ok (.iconst 1, 1) := by decide +kernel
theorem dL_law_552 : decode cL_law 552 = .ok (.iadd, 1) := by decide +kernel
theorem dL_law_553 : decode cL_law 553 = .ok (.iaload, 1) := by decide +kernel
theorem dL_law_554 : decode cL_law 554 = .ok (.invokevirtual 68, 3) := by decide +kernel
theorem dL_law_557 : decode cL_law 557 = .ok (.aload_n 2, 1) := by decide +kernel
theorem dL_law_558 : decode cL_law 558 = .ok (.aload_n 0, 1) := by decide +kernel
theorem dL_law_559 : decode cL_law 559 = .ok (.iload_n 3, 1) := by decide +kernel
theorem dL_law_560 : decode cL_law 560 = .ok (.iconst 1, 1) := by decide +kernel
theorem dL_law_561 : decode cL_law 561 = .ok (.iadd, 1) := by decide +kernel
theorem dL_law_562 : decode cL_law 562 = .ok (.iaload, 1) := by decide +kernel
theorem dL_law_563 : decode cL_law 563 = .ok (.invokevirtual 71, 3) := by decide +kernel
theorem dL_law_566 : decode cL_law 566 = .ok (.if_icmp .eq 354, 3) := by decide +kernel
theorem dL_law_569 : decode cL_law 569 = .ok (.iconst 0, 1) := by decide +kernel
theorem dL_law_570 : decode cL_law 570 = .ok (.ireturn, 1) := by decide +kernel
theorem dL_law_571 : decode cL_law 571 = .ok (.aload_n 1, 1) := by decide +kernel
theorem dL_law_572 : decode cL_law 572 = .ok (.aload_n 0, 1) := by decide +kernel
theorem dL_law_573 : decode cL_law 573 = .ok (.iload_n 3, 1) := by decide +kernel
theorem dL_law_574 : decode cL_law 574 = .ok (.iconst 1, 1) := by decide +kernel
theorem dL_law_575 : decode cL_law 575 = .ok (.iadd, 1) := by decide +kernel
theorem dL_law_576 : decode cL_law 576 = .ok (.iaload, 1) := by decide +kernel
theorem dL_law_577 : decode cL_law 577 = .ok (.invokevirtual 72, 3) := by decide +kernel
theorem dL_law_580 : decode cL_law 580 = .ok (.aload_n 2, 1) := by decide +kernel
theorem dL_law_581 : decode cL_law 581 = .ok (.aload_n 0, 1) := by decide +kernel
theorem dL_law_582 : decode cL_law 582 = .ok (.iload_n 3, 1) := by decide +kernel
theorem dL_law_583 : decode cL_law 583 = .ok (.iconst 1, 1) := by decide +kernel
theorem dL_law_584 : decode cL_law 584 = .ok (.iadd, 1) := by decide +kernel
theorem dL_law_585 : decode cL_law 585 = .ok (.iaload, 1) := by decide +kernel
theorem dL_law_586 : decode cL_law 586 = .ok (.invokevirtual 75, 3) := by decide +kernel
theorem dL_law_589 : decode cL_law 589 = .ok (.if_icmp .eq 331, 3) := by decide +kernel
theorem dL_law_592 : decode cL_law 592 = .ok (.iconst 0, 1) := by decide +kernel
theorem dL_law_593 : decode cL_law 593 = .ok (.ireturn, 1) := by decide +kernel
theorem dL_law_594 : decode cL_law 594 = .ok (.aload_n 1, 1) := by decide +kernel
theorem dL_law_595 : decode cL_law 595 = .ok (.aload_n 0, 1) := by decide +kernel
theorem dL_law_596 : decode cL_law 596 = .ok (.iload_n 3, 1) := by decide +kernel
theorem dL_law_597 : decode cL_law 597 = .ok (.iconst 1, 1) := by decide +kernel
theorem dL_law_598 : decode cL_law 598 = .ok (.iadd, 1) := by decide +kernel
theorem dL_law_599 : decode cL_law 599 = .ok (.iaload, 1) := by decide +kernel
theorem dL_law_600 : decode cL_law 600 = .ok (.invokevirtual 76, 3) := by decide +kernel
theorem dL_law_603 : decode cL_law 603 = .ok (.aload_n 2, 1) := by decide +kernel
theorem dL_law_604 : decode cL_law 604 = .ok (.aload_n 0, 1) := by decide +kernel
theorem dL_law_605 : decode cL_law 605 = .ok (.iload_n 3, 1) := by decide +kernel
theorem dL_law_606 : decode cL_law 606 = .ok (.iconst 1, 1) := by decide +kernel
theorem dL_law_607 : decode cL_law 607 = .ok (.iadd, 1) := by decide +kernel
theorem dL_law_608 : decode cL_law 608 = .ok (.iaload, 1) := by decide +kernel
theorem dL_law_609 : decode cL_law 609 = .ok (.invokevirtual 79, 3) := by decide +kernel
theorem dL_law_612 : decode cL_law 612 = .ok (.if_icmp .eq 308, 3) := by decide +kernel
theorem dL_law_615 : decode cL_law 615 = .ok (.iconst 0, 1) := by decide +kernel
theorem dL_law_616 : decode cL_law 616 = .ok (.ireturn, 1) := by decide +kernel
theorem dL_law_617 : decode cL_law 617 = .ok (.aload_n 1, 1) := by decide +kernel
theorem dL_law_618 : decode cL_law 618 = .ok (.aload_n 0, 1) := by decide +kernel
theorem dL_law_619 : decode cL_law 619 = .ok (.iload_n 3, 1) := by decide +kernel
theorem dL_law_620 : decode cL_law 620 = .ok (.iconst 1, 1) := by decide +kernel
theorem dL_law_621 : decode cL_law 621 = .ok (.iadd, 1) := by decide +kernel
theorem dL_law_622 : decode cL_law 622 = .ok (.iaload, 1) := by decide +kernel
theorem dL_law_623 : decode cL_law 623 = .ok (.invokevirtual 80, 3) := by decide +kernel
theorem dL_law_626 : decode cL_law 626 = .ok (.aload_n 2, 1) := by decide +kernel
theorem dL_law_627 : decode cL_law 627 = .ok (.aload_n 0, 1) := by decide +kernel
theorem dL_law_628 : decode cL_law 628 = .ok (.iload_n 3, 1) := by decide +kernel
theorem dL_law_629 : decode cL_law 629 = .ok (.iconst 1, 1) := by decide +kernel
theorem dL_law_630 : decode cL_law 630 = .ok (.iadd, 1) := by decide +kernel
theorem dL_law_631 : decode cL_law 631 = .ok (.iaload, 1) := by decide +kernel
theorem dL_law_632 : decode cL_law 632 = .ok (.invokevirtual 83, 3) := by decide +kernel
theorem dL_law_635 : decode cL_law 635 = .ok (.if_icmp .eq 285, 3) := by decide +kernel
theorem dL_law_638 : decode cL_law 638 = .ok (.iconst 0, 1) := by decide +kernel
theorem dL_law_639 : decode cL_law 639 = .ok (.ireturn, 1) := by decide +kernel
theorem dL_law_640 : decode cL_law 640 = .ok (.aload_n 1, 1) := by decide +kernel
theorem dL_law_641 : decode cL_law 641 = .ok (.aload_n 0, 1) := by decide +kernel
theorem dL_law_642 : decode cL_law 642 = .ok (.iload_n 3, 1) := by decide +kernel
theorem dL_law_643 : decode cL_law 643 = .ok (.iconst 1, 1) := by decide +kernel
theorem dL_law_644 : decode cL_law 644 = .ok (.iadd, 1) := by decide +kernel
theorem dL_law_645 : decode cL_law 645 = .ok (.iaload, 1) := by decide +kernel
theorem dL_law_646 : decode cL_law 646 = .ok (.aload_n 0, 1) := by decide +kernel
theorem dL_law_647 : decode cL_law 647 = .ok (.iload_n 3, 1) := by decide +kernel
theorem dL_law_648 : decode cL_law 648 = .ok (.iconst 2, 1) := by decide +kernel
theorem dL_law_649 : decode cL_law 649 = .ok (.iadd, 1) := by decide +kernel
theorem dL_law_650 : decode cL_law 650 = .ok (.iaload, 1) := by decide +kernel
theorem dL_law_651 : decode cL_law 651 = .ok (.aload_n 0, 1) := by decide +kernel
theorem dL_law_652 : decode cL_law 652 = .ok (.iload_n 3, 1) := by decide +kernel
theorem dL_law_653 : decode cL_law 653 = .ok (.iconst 3, 1) := by decide +kernel
theorem dL_law_654 : decode cL_law 654 = .ok (.iadd, 1) := by decide +kernel
theorem dL_law_655 : decode cL_law 655 = .ok (.iaload, 1) := by decide +kernel
theorem dL_law_656 : decode cL_law 656 = .ok (.invokevirtual 84, 3) := by decide +kernel
theorem dL_law_659 : decode cL_law 659 = .ok (.aload_n 2, 1) := by decide +kernel
theorem dL_law_660 : decode cL_law 660 = .ok (.aload_n 0, 1) := by decide +kernel
theorem dL_law_661 : decode cL_law 661 = .ok (.iload_n 3, 1) := by decide +kernel
theorem dL_law_662 : decode cL_law 662 = .ok (.iconst 1, 1) := by decide +kernel
theorem dL_law_663 : decode cL_law 663 = .ok (.iadd, 1) := by decide +kernel
theorem dL_law_664 : decode cL_law 664 = .ok (.iaload, 1) := by decide +kernel
theorem dL_law_665 : decode cL_law 665 = .ok (.aload_n 0, 1) := by decide +kernel
theorem dL_law_666 : decode cL_law 666 = .ok (.iload_n 3, 1) := by decide +kernel
theorem dL_law_667 : decode cL_law 667 = .ok (.iconst 2, 1) := by decide +kernel
theorem dL_law_668 : decode cL_law 668 = .ok (.iadd, 1) := by decide +kernel
theorem dL_law_669 : decode cL_law 669 = .ok (.iaload, 1) := by decide +kernel
theorem dL_law_670 : decode cL_law 670 = .ok (.aload_n 0, 1) := by decide +kernel
theorem dL_law_671 : decode cL_law 671 = .ok (.iload_n 3, 1) := by decide +kernel
theorem dL_law_672 : decode cL_law 672 = .ok (.iconst 3, 1) := by decide +kernel
theorem dL_law_673 : decode cL_law 673 = .ok (.iadd, 1) := by decide +kernel
theorem dL_law_674 : decode cL_law 674 = .ok (.iaload, 1) := by decide +kernel
theorem dL_law_675 : decode cL_law 675 = .ok (.invokevirtual 87, 3) := by decide +kernel
theorem dL_law_678 : decode cL_law 678 = .ok (.if_icmp .eq 242, 3) := by decide +kernel
theorem dL_law_681 : decode cL_law 681 = .ok (.iconst 0, 1) := by decide +kernel
theorem dL_law_682 : decode cL_law 682 = .ok (.ireturn, 1) := by decide +kernel
theorem dL_law_683 : decode cL_law 683 = .ok (.aload_n 1, 1) := by decide +kernel
theorem dL_law_684 : decode cL_law 684 = .ok (.aload_n 0, 1) := by decide +kernel
theorem dL_law_685 : decode cL_law 685 = .ok (.iload_n 3, 1) := by decide +kernel
theorem dL_law_686 : decode cL_law 686 = .ok (.iconst 1, 1) := by decide +kernel
theorem dL_law_687 : decode cL_law 687 = .ok (.iadd, 1) := by decide +kernel
theorem dL_law_688 : decode cL_law 688 = .ok (.iaload, 1) := by decide +kernel
theorem dL_law_689 : decode cL_law 689 = .ok (.invokevirtual 88, 3) := by decide +kernel
theorem dL_law_692 : decode cL_law 692 = .ok (.aload_n 2, 1) := by decide +kernel
theorem dL_law_693 : decode cL_law 693 = .ok (.aload_n 0, 1) := by decide +kernel
theorem dL_law_694 : decode cL_law 694 = .ok (.iload_n 3, 1) := by decide +kernel
theorem dL_law_695 : decode cL_law 695 = .ok (.iconst 1, 1) := by decide +kernel
theorem dL_law_696 : decode cL_law 696 = .ok (.iadd, 1) := by decide +kernel
theorem dL_law_697 : decode cL_law 697 = .ok (.iaload, 1) := by decide +kernel
theorem dL_law_698 : decode cL_law 698 = .ok (.invokevirtual 91, 3) := by decide +kernel
theorem dL_law_701 : decode cL_law 701 = .ok (.if_icmp .eq 219, 3) := by decide +kernel
theorem dL_law_704 : decode cL_law 704 = .ok (.iconst 0, 1) := by decide +kernel
theorem dL_law_705 : decode cL_law 705 = .ok (.ireturn, 1) := by decide +kernel
theorem dL_law_706 : decode cL_law 706 = .ok (.aload_n 1, 1) := by decide +kernel
theorem dL_law_707 : decode cL_law 707 = .ok (.invokevirtual 92, 3) := by decide +kernel
theorem dL_law_710 : decode cL_law 710 = .ok (.aload_n 2, 1) := by decide +kernel
theorem dL_law_711 : decode cL_law 711 = .ok (.invokevirtual 95, 3) := by decide +kernel
theorem dL_law_714 : decode cL_law 714 = .ok (.if_icmp .eq 206, 3) := by decide +kernel
theorem dL_law_717 : decode cL_law 717 = .ok (.iconst 0, 1) := by decide +kernel
theorem dL_law_718 : decode cL_law 718 = .ok (.ireturn, 1) := by decide +kernel
theorem dL_law_719 : decode cL_law 719 = .ok (.aload_n 1, 1) := by decide +kernel
theorem dL_law_720 : decode cL_law 720 = .ok (.aload_n 0, 1) := by decide +kernel
theorem dL_law_721 : decode cL_law 721 = .ok (.iload_n 3, 1) := by decide +kernel
theorem dL_law_722 : decode cL_law 722 = .ok (.iconst 1, 1) := by decide +kernel
theorem dL_law_723 : decode cL_law 723 = .ok (.iadd, 1) := by decide +kernel
theorem dL_law_724 : decode cL_law 724 = .ok (.iaload, 1) := by decide +kernel
theorem dL_law_725 : decode cL_law 725 = .ok (.invokevirtual 96, 3) := by decide +kernel
theorem dL_law_728 : decode cL_law 728 = .ok (.aload_n 2, 1) := by decide +kernel
theorem dL_law_729 : decode cL_law 729 = .ok (.aload_n 0, 1) := by decide +kernel
theorem dL_law_730 : decode cL_law 730 = .ok (.iload_n 3, 1) := by decide +kernel
theorem dL_law_731 : decode cL_law 731 = .ok (.iconst 1, 1) := by decide +kernel
theorem dL_law_732 : decode cL_law 732 = .ok (.iadd, 1) := by decide +kernel
theorem dL_law_733 : decode cL_law 733 = .ok (.iaload, 1) := by decide +kernel
theorem dL_law_734 : decode cL_law 734 = .ok (.invokevirtual 99, 3) := by decide +kernel
theorem dL_law_737 : decode cL_law 737 = .ok (.if_icmp .eq 183, 3) := by decide +kernel
theorem dL_law_740 : decode cL_law 740 = .ok (.iconst 0, 1) := by decide +kernel
theorem dL_law_741 : decode cL_law 741 = .ok (.ireturn, 1) := by decide +kernel
theorem dL_law_742 : decode cL_law 742 = .ok (.aload_n 1, 1) := by decide +kernel
theorem dL_law_743 : decode cL_law 743 = .ok (.aload_n 0, 1) := by decide +kernel
theorem dL_law_744 : decode cL_law 744 = .ok (.iload_n 3, 1) := by decide +kernel
theorem dL_law_745 : decode cL_law 745 = .ok (.iconst 1, 1) := by decide +kernel
theorem dL_law_746 : decode cL_law 746 = .ok (.iadd, 1) := by decide +kernel
theorem dL_law_747 : decode cL_law 747 = .ok (.iaload, 1) := by decide +kernel
theorem dL_law_748 : decode cL_law 748 = .ok (.invokevirtual 100, 3) := by decide +kernel
theorem dL_law_751 : decode cL_law 751 = .ok (.aload_n 2, 1) := by decide +kernel
theorem dL_law_752 : decode cL_law 752 = .ok (.aload_n 0, 1) := by decide +kernel
theorem dL_law_753 : decode cL_law 753 = .ok (.iload_n 3, 1) := by decide +kernel
theorem dL_law_754 : decode cL_law 754 = .ok (.iconst 1, 1) := by decide +kernel
theorem dL_law_755 : decode cL_law 755 = .ok (.iadd, 1) := by decide +kernel
theorem dL_law_756 : decode cL_law 756 = .ok (.iaload, 1) := by decide +kernel
theorem dL_law_757 : decode cL_law 757 = .ok (.invokevirtual 103, 3) := by decide +kernel
theorem dL_law_760 : decode cL_law 760 = .ok (.if_icmp .eq 160, 3) := by decide +kernel
theorem dL_law_763 : decode cL_law 763 = .ok (.iconst 0, 1) := by decide +kernel
theorem dL_law_764 : decode cL_law 764 = .ok (.ireturn, 1) := by decide +kernel
theorem dL_law_765 : decode cL_law 765 = .ok (.aload_n 1, 1) := by decide +kernel
theorem dL_law_766 : decode cL_law 766 = .ok (.aload_n 0, 1) := by decide +kernel
theorem dL_law_767 : decode cL_law 767 = .ok (.iload_n 3, 1) := by decide +kernel
theorem dL_law_768 : decode cL_law 768 = .ok (.iconst 1, 1) := by decide +kernel
theorem dL_law_769 : decode cL_law 769 = .ok (.iadd, 1) := by decide +kernel
theorem dL_law_770 : decode cL_law 770 = .ok (.iaload, 1) := by decide +kernel
theorem dL_law_771 : decode cL_law 771 = .ok (.aload_n 0, 1) := by decide +kernel
theorem dL_law_772 : decode cL_law 772 = .ok (.iload_n 3, 1) := by decide +kernel
theorem dL_law_773 : decode cL_law 773 = .ok (.iconst 2, 1) := by decide +kernel
theorem dL_law_774 : decode cL_law 774 = .ok (.iadd, 1) := by decide +kernel
theorem dL_law_775 : decode cL_law 775 = .ok (.iaload, 1) := by decide +kernel
theorem dL_law_776 : decode cL_law 776 = .ok (.aload_n 0, 1) := by decide +kernel
theorem dL_law_777 : decode cL_law 777 = .ok (.iload_n 3, 1) := by decide +kernel
theorem dL_law_778 : decode cL_law 778 = .ok (.iconst 3, 1) := by decide +kernel
theorem dL_law_779 : decode cL_law 779 = .ok (.iadd, 1) := by decide +kernel
theorem dL_law_780 : decode cL_law 780 = .ok (.iaload, 1) := by decide +kernel
theorem dL_law_781 : decode cL_law 781 = .ok (.invokevirtual 104, 3) := by decide +kernel
theorem dL_law_784 : decode cL_law 784 = .ok (.aload_n 2, 1) := by decide +kernel
theorem dL_law_785 : decode cL_law 785 = .ok (.aload_n 0, 1) := by decide +kernel
theorem dL_law_786 : decode cL_law 786 = .ok (.iload_n 3, 1) := by decide +kernel
theorem dL_law_787 : decode cL_law 787 = .ok (.iconst 1, 1) := by decide +kernel
theorem dL_law_788 : decode cL_law 788 = .ok (.iadd, 1) := by decide +kernel
theorem dL_law_789 : decode cL_law 789 = .ok (.iaload, 1) := by decide +kernel
theorem dL_law_790 : decode cL_law 790 = .ok (.aload_n 0, 1) := by decide +kernel
theorem dL_law_791 : decode cL_law 791 = .ok (.iload_n 3, 1) := by decide +kernel
theorem dL_law_792 : decode cL_law 792 = .ok (.iconst 2, 1) := by decide +kernel
theorem dL_law_793 : decode cL_law 793 = .ok (.iadd, 1) := by decide +kernel
theorem dL_law_794 : decode cL_law 794 = .ok (.iaload, 1) := by decide +kernel
theorem dL_law_795 : decode cL_law 795 = .ok (.aload_n 0, 1) := by decide +kernel
theorem dL_law_796 : decode cL_law 796 = .ok (.iload_n 3, 1) := by decide +kernel
theorem dL_law_797 : decode cL_law 797 = .ok (.iconst 3, 1) := by decide +kernel
theorem dL_law_798 : decode cL_law 798 = .ok (.iadd, 1) := by decide +kernel
theorem dL_law_799 : decode cL_law 799 = .ok (.iaload, 1) := by decide +kernel
theorem dL_law_800 : decode cL_law 800 = .ok (.invokevirtual 108, 3) := by decide +kernel
theorem dL_law_803 : decode cL_law 803 = .ok (.if_icmp .eq 117, 3) := by decide +kernel
theorem dL_law_806 : decode cL_law 806 = .ok (.iconst 0, 1) := by decide +kernel
theorem dL_law_807 : decode cL_law 807 = .ok (.ireturn, 1) := by decide +kernel
theorem dL_law_808 : decode cL_law 808 = .ok (.aload_n 1, 1) := by decide +kernel
theorem dL_law_809 : decode cL_law 809 = .ok (.aload_n 0, 1) := by decide +kernel
theorem dL_law_810 : decode cL_law 810 = .ok (.iload_n 3, 1) := by decide +kernel
theorem dL_law_811 : decode cL_law 811 = .ok (.iconst 1, 1) := by decide +kernel
theorem dL_law_812 : decode cL_law 812 = .ok (.iadd, 1) := by decide +kernel
theorem dL_law_813 : decode cL_law 813 = .ok (.iaload, 1) := by decide +kernel
theorem dL_law_814 : decode cL_law 814 = .ok (.aload_n 0, 1) := by decide +kernel
theorem dL_law_815 : decode cL_law 815 = .ok (.iload_n 3, 1) := by decide +kernel
theorem dL_law_816 : decode cL_law 816 = .ok (.iconst 2, 1) := by decide +kernel
theorem dL_law_817 : decode cL_law 817 = .ok (.iadd, 1) := by decide +kernel
theorem dL_law_818 : decode cL_law 818 = .ok (.iaload, 1) := by decide +kernel
theorem dL_law_819 : decode cL_law 819 = .ok (.aload_n 0, 1) := by decide +kernel
theorem dL_law_820 : decode cL_law 820 = .ok (.iload_n 3, 1) := by decide +kernel
theorem dL_law_821 : decode cL_law 821 = .ok (.iconst 3, 1) := by decide +kernel
theorem dL_law_822 : decode cL_law 822 = .ok (.iadd, 1) := by decide +kernel
theorem dL_law_823 : decode cL_law 823 = .ok (.iaload, 1) := by decide +kernel
theorem dL_law_824 : decode cL_law 824 = .ok (.invokevirtual 109, 3) := by decide +kernel
theorem dL_law_827 : decode cL_law 827 = .ok (.aload_n 2, 1) := by decide +kernel
theorem dL_law_828 : decode cL_law 828 = .ok (.aload_n 0, 1) := by decide +kernel
theorem dL_law_829 : decode cL_law 829 = .ok (.iload_n 3, 1) := by decide +kernel
theorem dL_law_830 : decode cL_law 830 = .ok (.iconst 1, 1) := by decide +kernel
theorem dL_law_831 : decode cL_law 831 = .ok (.iadd, 1) := by decide +kernel
theorem dL_law_832 : decode cL_law 832 = .ok (.iaload, 1) := by decide +kernel
theorem dL_law_833 : decode cL_law 833 = .ok (.aload_n 0, 1) := by decide +kernel
theorem dL_law_834 : decode cL_law 834 = .ok (.iload_n 3, 1) := by decide +kernel
theorem dL_law_835 : decode cL_law 835 = .ok (.iconst 2, 1) := by decide +kernel
theorem dL_law_836 : decode cL_law 836 = .ok (.iadd, 1) := by decide +kernel
theorem dL_law_837 : decode cL_law 837 = .ok (.iaload, 1) := by decide +kernel
theorem dL_law_838 : decode cL_law 838 = .ok (.aload_n 0, 1) := by decide +kernel
theorem dL_law_839 : decode cL_law 839 = .ok (.iload_n 3, 1) := by decide +kernel
theorem dL_law_840 : decode cL_law 840 = .ok (.iconst 3, 1) := by decide +kernel
theorem dL_law_841 : decode cL_law 841 = .ok (.iadd, 1) := by decide +kernel
theorem dL_law_842 : decode cL_law 842 = .ok (.iaload, 1) := by decide +kernel
theorem dL_law_843 : decode cL_law 843 = .ok (.invokevirtual 112, 3) := by decide +kernel
theorem dL_law_846 : decode cL_law 846 = .ok (.if_icmp .eq 74, 3) := by decide +kernel
theorem dL_law_849 : decode cL_law 849 = .ok (.iconst 0, 1) := by decide +kernel
theorem dL_law_850 : decode cL_law 850 = .ok (.ireturn, 1) := by decide +kernel
theorem dL_law_851 : decode cL_law 851 = .ok (.aload_n 1, 1) := by decide +kernel
theorem dL_law_852 : decode cL_law 852 = .ok (.aload_n 0, 1) := by decide +kernel
theorem dL_law_853 : decode cL_law 853 = .ok (.iload_n 3, 1) := by decide +kernel
theorem dL_law_854 : decode cL_law 854 = .ok (.iconst 1, 1) := by decide +kernel
theorem dL_law_855 : decode cL_law 855 = .ok (.iadd, 1) := by decide +kernel
theorem dL_law_856 : decode cL_law 856 = .ok (.iaload, 1) := by decide +kernel
theorem dL_law_857 : decode cL_law 857 = .ok (.invokevirtual 113, 3) := by decide +kernel
theorem dL_law_860 : decode cL_law 860 = .ok (.aload_n 2, 1) := by decide +kernel
theorem dL_law_861 : decode cL_law 861 = .ok (.aload_n 0, 1) := by decide +kernel
theorem dL_law_862 : decode cL_law 862 = .ok (.iload_n 3, 1) := by decide +kernel
theorem dL_law_863 : decode cL_law 863 = .ok (.iconst 1, 1) := by decide +kernel
theorem dL_law_864 : decode cL_law 864 = .ok (.iadd, 1) := by decide +kernel
theorem dL_law_865 : decode cL_law 865 = .ok (.iaload, 1) := by decide +kernel
theorem dL_law_866 : decode cL_law 866 = .ok (.invokevirtual 116, 3) := by decide +kernel
theorem dL_law_869 : decode cL_law 869 = .ok (.if_icmp .eq 51, 3) := by decide +kernel
theorem dL_law_872 : decode cL_law 872 = .ok (.iconst 0, 1) := by decide +kernel
theorem dL_law_873 : decode cL_law 873 = .ok (.ireturn, 1) := by decide +kernel
theorem dL_law_874 : decode cL_law 874 = .ok (.aload_n 1, 1) := by decide +kernel
theorem dL_law_875 : decode cL_law 875 = .ok (.aload_n 0, 1) := by decide +kernel
theorem dL_law_876 : decode cL_law 876 = .ok (.iload_n 3, 1) := by decide +kernel
theorem dL_law_877 : decode cL_law 877 = .ok (.iconst 1, 1) := by decide +kernel
theorem dL_law_878 : decode cL_law 878 = .ok (.iadd, 1) := by decide +kernel
theorem dL_law_879 : decode cL_law 879 = .ok (.iaload, 1) := by decide +kernel
theorem dL_law_880 : decode cL_law 880 = .ok (.invokevirtual 117, 3) := by decide +kernel
theorem dL_law_883 : decode cL_law 883 = .ok (.aload_n 2, 1) := by decide +kernel
theorem dL_law_884 : decode cL_law 884 = .ok (.aload_n 0, 1) := by decide +kernel
theorem dL_law_885 : decode cL_law 885 = .ok (.iload_n 3, 1) := by decide +kernel
theorem dL_law_886 : decode cL_law 886 = .ok (.iconst 1, 1) := by decide +kernel
theorem dL_law_887 : decode cL_law 887 = .ok (.iadd, 1) := by decide +kernel
theorem dL_law_888 : decode cL_law 888 = .ok (.iaload, 1) := by decide +kernel
theorem dL_law_889 : decode cL_law 889 = .ok (.invokevirtual 120, 3) := by decide +kernel
theorem dL_law_892 : decode cL_law 892 = .ok (.if_icmp .eq 28, 3) := by decide +kernel
theorem dL_law_895 : decode cL_law 895 = .ok (.iconst 0, 1) := by decide +kernel
theorem dL_law_896 : decode cL_law 896 = .ok (.ireturn, 1) := by decide +kernel
theorem dL_law_897 : decode cL_law 897 = .ok (.aload_n 1, 1) := by decide +kernel
theorem dL_law_898 : decode cL_law 898 = .ok (.aload_n 0, 1) := by decide +kernel
theorem dL_law_899 : decode cL_law 899 = .ok (.iload_n 3, 1) := by decide +kernel
theorem dL_law_900 : decode cL_law 900 = .ok (.iconst 1, 1) := by decide +kernel
theorem dL_law_901 : decode cL_law 901 = .ok (.iadd, 1) := by decide +kernel
theorem dL_law_902 : decode cL_law 902 = .ok (.iaload, 1) := by decide +kernel
theorem dL_law_903 : decode cL_law 903 = .ok (.invokevirtual 121, 3) := by decide +kernel
theorem dL_law_906 : decode cL_law 906 = .ok (.aload_n 2, 1) := by decide +kernel
theorem dL_law_907 : decode cL_law 907 = .ok (.aload_n 0, 1) := by decide +kernel
theorem dL_law_908 : decode cL_law 908 = .ok (.iload_n 3, 1) := by decide +kernel
theorem dL_law_909 : decode cL_law 909 = .ok (.iconst 1, 1) := by decide +kernel
theorem dL_law_910 : decode cL_law 910 = .ok (.iadd, 1) := by decide +kernel
theorem dL_law_911 : decode cL_law 911 = .ok (.iaload, 1) := by decide +kernel
theorem dL_law_912 : decode cL_law 912 = .ok (.invokevirtual 124, 3) := by decide +kernel
theorem dL_law_915 : decode cL_law 915 = .ok (.if_icmp .eq 5, 3) := by decide +kernel
theorem dL_law_918 : decode cL_law 918 = .ok (.iconst 0, 1) := by decide +kernel
theorem dL_law_919 : decode cL_law 919 = .ok (.ireturn, 1) := by decide +kernel
theorem dL_law_920 : decode cL_law 920 = .ok (.iinc 3 6, 3) := by decide +kernel
theorem dL_law_923 : decode cL_law 923 = .ok (.goto (-905), 3) := by decide +kernel
theorem dL_law_926 : decode cL_law 926 = .ok (.iconst 1, 1) := by decide +kernel
theorem dL_law_927 : decode cL_law 927 = .ok (.ireturn, 1) := by decide +kernel
end
section
/-- the state of a system whose cells are all made: its int fields by number, its rows by number and place -/
abbrev xS : Type := (Nat → Int32) × (Nat → Nat → Int32)
abbrev xT : Type := Program × Launch × Env × Room × State × MethodId × Array Value × List Frame × Method × Code
/-- D, the cells that may change, the world by the state, the rows' kinds, what else stays -/
abbrev xG : Type := va_G × (Nat → Prop) × (xS → va_W) × List (ClassId × FieldType) × (State → Prop)
def TB : List Cond := lw_tbl.filter goodWord
theorem TB_of {w : Cond} {i : Nat} (h : lw_tbl[i]? = some w) (g : goodWord w = true) : w ∈ TB := List.mem_filter.mpr ⟨List.mem_of_getElem? h, g⟩
theorem TB_good {w : Cond} (h : w ∈ TB) : (w.onTables && w.keeps) = true ∨ ∃ ty, w = .arrayClass ty := good_of_word (List.mem_filter.mp h).2
theorem TB_in {y : MethodName} {b : ByteArray} {n : Nat} {r : Option FieldType} (h : Cond.code y b n r ∈ TB) : GoodIn TB (Cond.code y b n r :: TB) := by
  intro w hw
  rcases List.mem_cons.mp hw with e | e
  · subst e; exact ⟨h, TB_good h⟩
  · exact ⟨e, TB_good e⟩
def xCl : List vw_C := [(RX0, TX0, 5), (RX1, TX1, 8), (RX2, TX2, 5), (RX3, TX3, 4), (RX4, TX4, 9), (RX5, TX5, 3), (RX6, TX6, 7), (RX7, TX7, 2), (RX8, TX8, 5), (RX9, TX9, 9), (RX10, TX10, 53)]
def xOk (G : xG) : Prop := (∀ σ : xS, va_D G.2.1 (G.2.2.1 σ)) ∧ (∀ s U : State, G.2.2.2.2 s → s.WarmedH U.vm → s.heap.size ≤ U.heap.size → (∀ q : Nat, q < s.heap.size → ¬ G.2.1 q → U.heap[q]? = s.heap[q]?) → G.2.2.2.2 U) ∧ (∀ s U : State, G.2.2.2.2 s → U.heap = s.heap → U.vm = s.vm → G.2.2.2.2 U)
def xc (C : xT) (G : xG) (own : String) (cc : ByteArray) (nL : Nat) (ret : Option FieldType) (rm : Room) : Prop :=
  C.1.tables.exec = Jvm.exec ∧ C.2.2.2.2.2.2.2.2.2.code = cc ∧ C.2.2.2.2.2.2.2.2.2.maxLocals = nL ∧ C.2.2.2.2.1.vm.findClass own = some C.2.2.2.2.2.1.cls ∧ (∀ w ∈ TB, w.before C.2.2.2.2.2.2.1 C.2.2.2.2.1 = true) ∧ va_K G.1 xCl G.2.2.2.1 C.2.2.2.2.1 ∧ G.2.2.2.2 C.2.2.2.2.1 ∧ C.2.2.2.2.2.2.2.2.1.locks = false ∧ C.2.2.2.2.2.2.2.2.1.sig.returnType = ret ∧ C.2.2.2.1 = rm ∧ xOk G
def xw (C : xT) (G : xG) (nL : Nat) (Q : State → Prop) (σ : xS) (pc : Nat) (lv : List (Nat × Value)) (st : List Value) : Prop :=
  ∀ (H : Heap) (locs : List Loc) (ls : Array Slot), va_P G.1 xCl (G.2.2.1 σ) H → va_S G.2.1 C.2.2.2.2.1.heap H locs → lv_has ls nL lv → W C.1 C.2.1 C.2.2.1 C.2.2.2.1 C.2.2.2.2.1 C.2.2.2.2.2.1 C.2.2.2.2.2.2.1 C.2.2.2.2.2.2.2.1 C.2.2.2.2.2.2.2.2.1 C.2.2.2.2.2.2.2.2.2 H locs 0 0 Q (F0 C.2.2.2.2.2.1 pc ls st)
def xP (G : xG) (av : List Value) (σ : xS) : Array Value → State → Prop := va_Pc av (fun U => va_P G.1 xCl (G.2.2.1 σ) U.heap ∧ va_K G.1 xCl G.2.2.2.1 U ∧ G.2.2.2.2 U)
def xQ (G : xG) (o : Option Value) (σ : xS) : Array Value → State → Outcome → State → Prop := fun _ st oc t => oc = .returned o ∧ va_P G.1 xCl (G.2.2.1 σ) t.heap ∧ va_F G.2.1 st t
def xMet (l : Launch) (G : xG) (y : MethodName) (bytes : ByteArray) (maxL : Nat) (ret : Option FieldType) (rm : Room) (av : List Value) (σ : xS) (o : Option Value) (σ' : xS) : Prop := Met l y (Cond.code y bytes maxL ret :: TB) rm (xP G av σ) (xQ G o σ') 0 0 G.2.1
def xq (C : xT) (G : xG) (o : Option Value) (σ : xS) : State → Prop := MQ C.2.2.2.2.2.2.2.1 (xQ G o σ) C.2.2.2.2.2.2.1 C.2.2.2.2.1 0 0 G.2.1
theorem x_met {l : Launch} {G : xG} {y : MethodName} {bytes : ByteArray} {maxL : Nat} {ret : Option FieldType} {rm : Room} {av : List Value} {σ : xS} {o : Option Value} {σ' : xS} {own : String} (hy : plainName y.cls = true) (hG : xOk G) (hown : y.cls = own) (hlen : (lg_sl av).length ≤ maxL)
    (body : ∀ C : xT, C.2.1 = l → xc C G own bytes maxL ret rm → xw C G maxL (xq C G o σ') σ 0 (lv_args 0 av) []) : xMet l G y bytes maxL ret rm av σ o σ' := by
  refine Met.ofW (cc := bytes) (maxL := maxL) (ret := ret) hy rfl ?_
  intro p e s m args below meth c s₁ B hml hv
  obtain ⟨rfl, hP, hK, hZ⟩ := hv
  have hts := atoms_spec (ws := Cond.code y bytes maxL ret :: TB) B.pre
  have h := body (p, l, e, rm, s, m, av.toArray, below, meth, c) rfl ⟨B.exec, B.bytes, hml, by rw [← hown]; exact findClass_of_methodNamed B.named, fun w h => hts w (List.mem_cons_of_mem _ h), hK, hZ, B.notSynchronized, B.returns, rfl, hG⟩
  rw [lg_entry_eq]
  exact h s.heap [] _ hP va_S.rf (lv_entry av hlen)
theorem x_lv {C : xT} {G : xG} {nL : Nat} {Q : State → Prop} {σ : xS} {pc : Nat} {lv lv' : List (Nat × Value)} {st : List Value} (ks : List Nat) (h : lv_pick lv ks = lv') (k : xw C G nL Q σ pc lv' st) : xw C G nL Q σ pc lv st := fun H locs ls h1 h2 h3 => k H locs ls h1 h2 (lv_sub h3 ks h)
/-- pure words: a value named; a guard; a call; a store -/
def bnd {α : Type} {β : Type} (e : α) (X : α → β) : β := X e
def xin (i : Int32) (n : Nat) : Bool := decide (¬ i < 0) && decide (i.toNatClampNeg < n)
theorem xin_in {i : Int32} {n : Nat} (h : xin i n = true) : vp_in i n := by
  simp only [xin, Bool.and_eq_true, decide_eq_true_eq] at h
  intro g
  rcases g with g | g
  · exact h.1 g
  · omega
def ald {α : Type} (σ : xS) (a n : Nat) (i : Int32) (X : Int32 → Option α) : Option α := if xin i n = true then X (σ.2 a i.toNatClampNeg) else none
def ast {α : Type} (σ : xS) (a n : Nat) (i : Int32) (v : Int32) (X : xS → Option α) : Option α := if xin i n = true then X (σ.1, va_up σ.2 a (upd (σ.2 a) i.toNatClampNeg v)) else none
def put {α : Type} (σ : xS) (k : Nat) (v : Int32) (X : xS → Option α) : Option α := X (va_up σ.1 k v, σ.2)
def cal {α : Type} (Y : Option (Int32 × xS)) (X : Int32 → xS → Option α) : Option α := match Y with
  | none => none
  | some z => X z.1 z.2
def gdz {α : Type} (y : Int32) (X : Option α) : Option α := if y = 0 then none else X
def gdb {α : Type} (v : Int32) (X : Option α) : Option α := if v &&& 1 = v then X else none
section XR
variable {C : xT} {G : xG} {own : String} {cc : ByteArray} {nL : Nat} {ret : Option FieldType} {rm : Room} {Q : State → Prop} {σ : xS} {pc pc' : Nat} {lv lv' : List (Nat × Value)} {st : List Value} {α : Type} {res : α}
theorem xr_iconst {n : Int} (v : Int32) (hC : xc C G own cc nL ret rm) (hd : decode cc pc = .ok (.iconst n, 1)) (hn : pc + 1 = pc') (hv : Int32.ofInt n = v) (k : xw C G nL Q σ pc' lv (.int v :: st)) : xw C G nL Q σ pc lv st := by
  obtain ⟨p, l, e, R, s, m, args, below, meth, c⟩ := C
  obtain ⟨hx, hb, hml, hown, hts, hK, hZ, hlk, hr, hR, hG⟩ := hC
  subst hn
  intro H locs ls h1 h2 h3
  exact lv_iconst hx hb hd hv (k H locs ls h1 h2 h3)
theorem xr_bipush {n : Int} (v : Int32) (hC : xc C G own cc nL ret rm) (hd : decode cc pc = .ok (.bipush n, 2)) (hn : pc + 2 = pc') (hv : (Int8.ofInt n).toInt32 = v) (k : xw C G nL Q σ pc' lv (.int v :: st)) : xw C G nL Q σ pc lv st := by
  obtain ⟨p, l, e, R, s, m, args, below, meth, c⟩ := C
  obtain ⟨hx, hb, hml, hown, hts, hK, hZ, hlk, hr, hR, hG⟩ := hC
  subst hn
  intro H locs ls h1 h2 h3
  exact lv_bipush hx hb hd hv (k H locs ls h1 h2 h3)
theorem xr_sipush {n : Int} (v : Int32) (hC : xc C G own cc nL ret rm) (hd : decode cc pc = .ok (.sipush n, 3)) (hn : pc + 3 = pc') (hv : (Int16.ofInt n).toInt32 = v) (k : xw C G nL Q σ pc' lv (.int v :: st)) : xw C G nL Q σ pc lv st := by
  obtain ⟨p, l, e, R, s, m, args, below, meth, c⟩ := C
  obtain ⟨hx, hb, hml, hown, hts, hK, hZ, hlk, hr, hR, hG⟩ := hC
  subst hn
  intro H locs ls h1 h2 h3
  exact lv_sipush hx hb hd hv (k H locs ls h1 h2 h3)
theorem xr_ldc {i : Nat} (v : Int32) (hC : xc C G own cc nL ret rm) (hd : decode cc pc = .ok (.ldc i, 2)) (hn : pc + 2 = pc') (hv : Cond.constant own i v ∈ TB) (k : xw C G nL Q σ pc' lv (.int v :: st)) : xw C G nL Q σ pc lv st := by
  obtain ⟨p, l, e, R, s, m, args, below, meth, c⟩ := C
  obtain ⟨hx, hb, hml, hown, hts, hK, hZ, hlk, hr, hR, hG⟩ := hC
  subst hn
  intro H locs ls h1 h2 h3
  exact lv_ldc hx hb hown (hts _ hv) hd (k H locs ls h1 h2 h3)
theorem xr_ldc_w {i : Nat} (v : Int32) (hC : xc C G own cc nL ret rm) (hd : decode cc pc = .ok (.ldc_w i, 3)) (hn : pc + 3 = pc') (hv : Cond.constant own i v ∈ TB) (k : xw C G nL Q σ pc' lv (.int v :: st)) : xw C G nL Q σ pc lv st := by
  obtain ⟨p, l, e, R, s, m, args, below, meth, c⟩ := C
  obtain ⟨hx, hb, hml, hown, hts, hK, hZ, hlk, hr, hR, hG⟩ := hC
  subst hn
  intro H locs ls h1 h2 h3
  exact lv_ldcw hx hb hown (hts _ hv) hd (k H locs ls h1 h2 h3)
theorem xr_iload_n {f : Fin 4} (q : Nat) {i : Nat} {x : Int32} (hC : xc C G own cc nL ret rm) (hd : decode cc pc = .ok (.iload_n f, 1)) (hn : pc + 1 = pc') (hi : (f : Nat) = i) (hl : lv[q]? = some (i, .int x)) (k : xw C G nL Q σ pc' lv (.int x :: st)) : xw C G nL Q σ pc lv st := by
  obtain ⟨p, l, e, R, s, m, args, below, meth, c⟩ := C
  obtain ⟨hx, hb, hml, hown, hts, hK, hZ, hlk, hr, hR, hG⟩ := hC
  subst hn
  intro H locs ls h1 h2 h3
  exact lv_iload_n hx hb hd hi (lv_at h3 q hl) (k H locs ls h1 h2 h3)
theorem xr_iload (q : Nat) {i : Nat} {x : Int32} (hC : xc C G own cc nL ret rm) (hd : decode cc pc = .ok (.iload i, 2)) (hn : pc + 2 = pc') (hl : lv[q]? = some (i, .int x)) (k : xw C G nL Q σ pc' lv (.int x :: st)) : xw C G nL Q σ pc lv st := by
  obtain ⟨p, l, e, R, s, m, args, below, meth, c⟩ := C
  obtain ⟨hx, hb, hml, hown, hts, hK, hZ, hlk, hr, hR, hG⟩ := hC
  subst hn
  intro H locs ls h1 h2 h3
  exact lv_iload hx hb hd (lv_at h3 q hl) (k H locs ls h1 h2 h3)
theorem xr_aload_n {f : Fin 4} (q : Nat) {i : Nat} {x : Nat} (hC : xc C G own cc nL ret rm) (hd : decode cc pc = .ok (.aload_n f, 1)) (hn : pc + 1 = pc') (hi : (f : Nat) = i) (hl : lv[q]? = some (i, .ref x)) (k : xw C G nL Q σ pc' lv (.ref x :: st)) : xw C G nL Q σ pc lv st := by
  obtain ⟨p, l, e, R, s, m, args, below, meth, c⟩ := C
  obtain ⟨hx, hb, hml, hown, hts, hK, hZ, hlk, hr, hR, hG⟩ := hC
  subst hn
  intro H locs ls h1 h2 h3
  exact lv_aload_n hx hb hd hi (lv_at h3 q hl) (k H locs ls h1 h2 h3)
theorem xr_aload (q : Nat) {i : Nat} {x : Nat} (hC : xc C G own cc nL ret rm) (hd : decode cc pc = .ok (.aload i, 2)) (hn : pc + 2 = pc') (hl : lv[q]? = some (i, .ref x)) (k : xw C G nL Q σ pc' lv (.ref x :: st)) : xw C G nL Q σ pc lv st := by
  obtain ⟨p, l, e, R, s, m, args, below, meth, c⟩ := C
  obtain ⟨hx, hb, hml, hown, hts, hK, hZ, hlk, hr, hR, hG⟩ := hC
  subst hn
  intro H locs ls h1 h2 h3
  exact lv_aload hx hb hd (lv_at h3 q hl) (k H locs ls h1 h2 h3)
theorem xr_istore_n {f : Fin 4} {i : Nat} {x : Int32} (hC : xc C G own cc nL ret rm) (hd : decode cc pc = .ok (.istore_n f, 1)) (hn : pc + 1 = pc') (hi : (f : Nat) = i) (hb0 : i < nL) (ks : List Nat) (hl : lv_pick ((i, Value.int x) :: lv.filter (fun q => !(q.1 == i) && !(q.1 + 1 == i && q.2.category == 2))) ks = lv') (k : xw C G nL Q σ pc' lv' st) : xw C G nL Q σ pc lv (.int x :: st) := by
  obtain ⟨p, l, e, R, s, m, args, below, meth, c⟩ := C
  obtain ⟨hx, hb, hml, hown, hts, hK, hZ, hlk, hr, hR, hG⟩ := hC
  subst hn
  intro H locs ls h1 h2 h3
  exact lv_istore_n hx hb hd hi h3 hb0 rfl (fun ls h3 => k H locs ls h1 h2 (lv_sub h3 ks hl))
theorem xr_istore {i : Nat} {x : Int32} (hC : xc C G own cc nL ret rm) (hd : decode cc pc = .ok (.istore i, 2)) (hn : pc + 2 = pc') (hb0 : i < nL) (ks : List Nat) (hl : lv_pick ((i, Value.int x) :: lv.filter (fun q => !(q.1 == i) && !(q.1 + 1 == i && q.2.category == 2))) ks = lv') (k : xw C G nL Q σ pc' lv' st) : xw C G nL Q σ pc lv (.int x :: st) := by
  obtain ⟨p, l, e, R, s, m, args, below, meth, c⟩ := C
  obtain ⟨hx, hb, hml, hown, hts, hK, hZ, hlk, hr, hR, hG⟩ := hC
  subst hn
  intro H locs ls h1 h2 h3
  exact lv_istore hx hb hd h3 hb0 rfl (fun ls h3 => k H locs ls h1 h2 (lv_sub h3 ks hl))
theorem xr_astore_n {f : Fin 4} {i : Nat} {x : Nat} (hC : xc C G own cc nL ret rm) (hd : decode cc pc = .ok (.astore_n f, 1)) (hn : pc + 1 = pc') (hi : (f : Nat) = i) (hb0 : i < nL) (ks : List Nat) (hl : lv_pick ((i, Value.ref x) :: lv.filter (fun q => !(q.1 == i) && !(q.1 + 1 == i && q.2.category == 2))) ks = lv') (k : xw C G nL Q σ pc' lv' st) : xw C G nL Q σ pc lv (.ref x :: st) := by
  obtain ⟨p, l, e, R, s, m, args, below, meth, c⟩ := C
  obtain ⟨hx, hb, hml, hown, hts, hK, hZ, hlk, hr, hR, hG⟩ := hC
  subst hn
  intro H locs ls h1 h2 h3
  exact lv_astore_n hx hb hd hi h3 hb0 rfl (fun ls h3 => k H locs ls h1 h2 (lv_sub h3 ks hl))
theorem xr_astore {i : Nat} {x : Nat} (hC : xc C G own cc nL ret rm) (hd : decode cc pc = .ok (.astore i, 2)) (hn : pc + 2 = pc') (hb0 : i < nL) (ks : List Nat) (hl : lv_pick ((i, Value.ref x) :: lv.filter (fun q => !(q.1 == i) && !(q.1 + 1 == i && q.2.category == 2))) ks = lv') (k : xw C G nL Q σ pc' lv' st) : xw C G nL Q σ pc lv (.ref x :: st) := by
  obtain ⟨p, l, e, R, s, m, args, below, meth, c⟩ := C
  obtain ⟨hx, hb, hml, hown, hts, hK, hZ, hlk, hr, hR, hG⟩ := hC
  subst hn
  intro H locs ls h1 h2 h3
  exact lv_astore hx hb hd h3 hb0 rfl (fun ls h3 => k H locs ls h1 h2 (lv_sub h3 ks hl))
theorem xr_istoreb_n {f : Fin 4} {i : Nat} {x : Int32} {X : Int32 → Option α} (hC : xc C G own cc nL ret rm) (hd : decode cc pc = .ok (.istore_n f, 1)) (hn : pc + 1 = pc') (hf : bnd x X = some res) (hi : (f : Nat) = i) (hb0 : i < nL) (ks : List Nat) (lw : Int32 → List (Nat × Value)) (hl : ∀ x : Int32, lv_pick ((i, Value.int x) :: lv.filter (fun q => !(q.1 == i) && !(q.1 + 1 == i && q.2.category == 2))) ks = lw x) (k : ∀ x : Int32, X x = some res → xw C G nL Q σ pc' (lw x) st) : xw C G nL Q σ pc lv (.int x :: st) := by
  obtain ⟨p, l, e, R, s, m, args, below, meth, c⟩ := C
  obtain ⟨hx, hb, hml, hown, hts, hK, hZ, hlk, hr, hR, hG⟩ := hC
  subst hn
  intro H locs ls h1 h2 h3
  exact lv_istore_n hx hb hd hi h3 hb0 rfl (fun ls h3 => k x hf H locs ls h1 h2 (lv_sub h3 ks (hl x)))
theorem xr_istoreb {i : Nat} {x : Int32} {X : Int32 → Option α} (hC : xc C G own cc nL ret rm) (hd : decode cc pc = .ok (.istore i, 2)) (hn : pc + 2 = pc') (hf : bnd x X = some res) (hb0 : i < nL) (ks : List Nat) (lw : Int32 → List (Nat × Value)) (hl : ∀ x : Int32, lv_pick ((i, Value.int x) :: lv.filter (fun q => !(q.1 == i) && !(q.1 + 1 == i && q.2.category == 2))) ks = lw x) (k : ∀ x : Int32, X x = some res → xw C G nL Q σ pc' (lw x) st) : xw C G nL Q σ pc lv (.int x :: st) := by
  obtain ⟨p, l, e, R, s, m, args, below, meth, c⟩ := C
  obtain ⟨hx, hb, hml, hown, hts, hK, hZ, hlk, hr, hR, hG⟩ := hC
  subst hn
  intro H locs ls h1 h2 h3
  exact lv_istore hx hb hd h3 hb0 rfl (fun ls h3 => k x hf H locs ls h1 h2 (lv_sub h3 ks (hl x)))
theorem xr_iinc {i : Nat} {n : Int} {x : Int32} {X : Int32 → Option α} (hC : xc C G own cc nL ret rm) (hd : decode cc pc = .ok (.iinc i n, 3)) (hn : pc + 3 = pc') (v : Int32) (hv : x + Int32.ofInt n = v) (hf : bnd v X = some res) (q : Nat) (hq : lv[q]? = some (i, .int x)) (hb0 : i < nL) (ks : List Nat) (lw : Int32 → List (Nat × Value)) (hl : ∀ x : Int32, lv_pick ((i, Value.int x) :: lv.filter (fun q => !(q.1 == i) && !(q.1 + 1 == i && q.2.category == 2))) ks = lw x) (k : ∀ x : Int32, X x = some res → xw C G nL Q σ pc' (lw x) st) : xw C G nL Q σ pc lv st := by
  obtain ⟨p, l, e, R, s, m, args, below, meth, c⟩ := C
  obtain ⟨hx, hb, hml, hown, hts, hK, hZ, hlk, hr, hR, hG⟩ := hC
  subst hn
  intro H locs ls h1 h2 h3
  exact lv_iinc hx hb hd h3 hq hv hb0 rfl (fun ls h3 => k v hf H locs ls h1 h2 (lv_sub h3 ks (hl v)))
theorem xr_iadd {x y : Int32} (hC : xc C G own cc nL ret rm) (hd : decode cc pc = .ok (.iadd, 1)) (hn : pc + 1 = pc')  (k : xw C G nL Q σ pc' lv (.int (x + y) :: st)) : xw C G nL Q σ pc lv (.int y :: .int x :: st) := by
  obtain ⟨p, l, e, R, s, m, args, below, meth, c⟩ := C
  obtain ⟨hx, hb, hml, hown, hts, hK, hZ, hlk, hr, hR, hG⟩ := hC
  subst hn
  intro H locs ls h1 h2 h3
  exact lv_iadd hx hb hd (k H locs ls h1 h2 h3)
theorem xr_isub {x y : Int32} (hC : xc C G own cc nL ret rm) (hd : decode cc pc = .ok (.isub, 1)) (hn : pc + 1 = pc')  (k : xw C G nL Q σ pc' lv (.int (x - y) :: st)) : xw C G nL Q σ pc lv (.int y :: .int x :: st) := by
  obtain ⟨p, l, e, R, s, m, args, below, meth, c⟩ := C
  obtain ⟨hx, hb, hml, hown, hts, hK, hZ, hlk, hr, hR, hG⟩ := hC
  subst hn
  intro H locs ls h1 h2 h3
  exact lv_isub hx hb hd (k H locs ls h1 h2 h3)
theorem xr_imul {x y : Int32} (hC : xc C G own cc nL ret rm) (hd : decode cc pc = .ok (.imul, 1)) (hn : pc + 1 = pc')  (k : xw C G nL Q σ pc' lv (.int (x * y) :: st)) : xw C G nL Q σ pc lv (.int y :: .int x :: st) := by
  obtain ⟨p, l, e, R, s, m, args, below, meth, c⟩ := C
  obtain ⟨hx, hb, hml, hown, hts, hK, hZ, hlk, hr, hR, hG⟩ := hC
  subst hn
  intro H locs ls h1 h2 h3
  exact lv_imul hx hb hd (k H locs ls h1 h2 h3)
theorem xr_iand {x y : Int32} (hC : xc C G own cc nL ret rm) (hd : decode cc pc = .ok (.iand, 1)) (hn : pc + 1 = pc')  (k : xw C G nL Q σ pc' lv (.int (x &&& y) :: st)) : xw C G nL Q σ pc lv (.int y :: .int x :: st) := by
  obtain ⟨p, l, e, R, s, m, args, below, meth, c⟩ := C
  obtain ⟨hx, hb, hml, hown, hts, hK, hZ, hlk, hr, hR, hG⟩ := hC
  subst hn
  intro H locs ls h1 h2 h3
  exact lv_iand hx hb hd (k H locs ls h1 h2 h3)
theorem xr_ior {x y : Int32} (hC : xc C G own cc nL ret rm) (hd : decode cc pc = .ok (.ior, 1)) (hn : pc + 1 = pc')  (k : xw C G nL Q σ pc' lv (.int (x ||| y) :: st)) : xw C G nL Q σ pc lv (.int y :: .int x :: st) := by
  obtain ⟨p, l, e, R, s, m, args, below, meth, c⟩ := C
  obtain ⟨hx, hb, hml, hown, hts, hK, hZ, hlk, hr, hR, hG⟩ := hC
  subst hn
  intro H locs ls h1 h2 h3
  exact lv_ior hx hb hd (k H locs ls h1 h2 h3)
theorem xr_ixor {x y : Int32} (hC : xc C G own cc nL ret rm) (hd : decode cc pc = .ok (.ixor, 1)) (hn : pc + 1 = pc')  (k : xw C G nL Q σ pc' lv (.int (x ^^^ y) :: st)) : xw C G nL Q σ pc lv (.int y :: .int x :: st) := by
  obtain ⟨p, l, e, R, s, m, args, below, meth, c⟩ := C
  obtain ⟨hx, hb, hml, hown, hts, hK, hZ, hlk, hr, hR, hG⟩ := hC
  subst hn
  intro H locs ls h1 h2 h3
  exact lv_ixor hx hb hd (k H locs ls h1 h2 h3)
theorem xr_ishl {x y : Int32} (hC : xc C G own cc nL ret rm) (hd : decode cc pc = .ok (.ishl, 1)) (hn : pc + 1 = pc')  (k : xw C G nL Q σ pc' lv (.int (x <<< (y &&& 31)) :: st)) : xw C G nL Q σ pc lv (.int y :: .int x :: st) := by
  obtain ⟨p, l, e, R, s, m, args, below, meth, c⟩ := C
  obtain ⟨hx, hb, hml, hown, hts, hK, hZ, hlk, hr, hR, hG⟩ := hC
  subst hn
  intro H locs ls h1 h2 h3
  exact lv_ishl hx hb hd (k H locs ls h1 h2 h3)
theorem xr_ishr {x y : Int32} (hC : xc C G own cc nL ret rm) (hd : decode cc pc = .ok (.ishr, 1)) (hn : pc + 1 = pc')  (k : xw C G nL Q σ pc' lv (.int (x >>> (y &&& 31)) :: st)) : xw C G nL Q σ pc lv (.int y :: .int x :: st) := by
  obtain ⟨p, l, e, R, s, m, args, below, meth, c⟩ := C
  obtain ⟨hx, hb, hml, hown, hts, hK, hZ, hlk, hr, hR, hG⟩ := hC
  subst hn
  intro H locs ls h1 h2 h3
  exact lv_ishr hx hb hd (k H locs ls h1 h2 h3)
theorem xr_iushr {x y : Int32} (hC : xc C G own cc nL ret rm) (hd : decode cc pc = .ok (.iushr, 1)) (hn : pc + 1 = pc')  (k : xw C G nL Q σ pc' lv (.int ((x.toUInt32 >>> (y.toUInt32 &&& Int32.toUInt32 31)).toInt32) :: st)) : xw C G nL Q σ pc lv (.int y :: .int x :: st) := by
  obtain ⟨p, l, e, R, s, m, args, below, meth, c⟩ := C
  obtain ⟨hx, hb, hml, hown, hts, hK, hZ, hlk, hr, hR, hG⟩ := hC
  subst hn
  intro H locs ls h1 h2 h3
  exact lv_iushr hx hb hd rfl (k H locs ls h1 h2 h3)
theorem xr_ineg {x : Int32} (hC : xc C G own cc nL ret rm) (hd : decode cc pc = .ok (.ineg, 1)) (hn : pc + 1 = pc')  (k : xw C G nL Q σ pc' lv (.int (-x) :: st)) : xw C G nL Q σ pc lv (.int x :: st) := by
  obtain ⟨p, l, e, R, s, m, args, below, meth, c⟩ := C
  obtain ⟨hx, hb, hml, hown, hts, hK, hZ, hlk, hr, hR, hG⟩ := hC
  subst hn
  intro H locs ls h1 h2 h3
  exact lv_ineg hx hb hd (k H locs ls h1 h2 h3)
theorem xr_i2c {x : Int32} (hC : xc C G own cc nL ret rm) (hd : decode cc pc = .ok (.i2c, 1)) (hn : pc + 1 = pc')  (k : xw C G nL Q σ pc' lv (.int ((x.toUInt32 % 65536).toInt32) :: st)) : xw C G nL Q σ pc lv (.int x :: st) := by
  obtain ⟨p, l, e, R, s, m, args, below, meth, c⟩ := C
  obtain ⟨hx, hb, hml, hown, hts, hK, hZ, hlk, hr, hR, hG⟩ := hC
  subst hn
  intro H locs ls h1 h2 h3
  exact lv_i2c hx hb hd rfl (k H locs ls h1 h2 h3)
theorem xr_idiv {x y : Int32} {X : Option α} (hC : xc C G own cc nL ret rm) (hd : decode cc pc = .ok (.idiv, 1)) (hn : pc + 1 = pc') (hf : gdz y X = some res) (k : X = some res → xw C G nL Q σ pc' lv (.int (x / y) :: st)) : xw C G nL Q σ pc lv (.int y :: .int x :: st) := by
  obtain ⟨p, l, e, R, s, m, args, below, meth, c⟩ := C
  obtain ⟨hx, hb, hml, hown, hts, hK, hZ, hlk, hr, hR, hG⟩ := hC
  subst hn
  intro H locs ls h1 h2 h3
  by_cases h0 : y = 0
  · rw [gdz, if_pos h0] at hf; cases hf
  · rw [gdz, if_neg h0] at hf
    exact lv_idiv hx hb hd h0 (k hf H locs ls h1 h2 h3)
theorem xr_irem {x y : Int32} {X : Option α} (hC : xc C G own cc nL ret rm) (hd : decode cc pc = .ok (.irem, 1)) (hn : pc + 1 = pc') (hf : gdz y X = some res) (k : X = some res → xw C G nL Q σ pc' lv (.int (x - x / y * y) :: st)) : xw C G nL Q σ pc lv (.int y :: .int x :: st) := by
  obtain ⟨p, l, e, R, s, m, args, below, meth, c⟩ := C
  obtain ⟨hx, hb, hml, hown, hts, hK, hZ, hlk, hr, hR, hG⟩ := hC
  subst hn
  intro H locs ls h1 h2 h3
  by_cases h0 : y = 0
  · rw [gdz, if_pos h0] at hf; cases hf
  · rw [gdz, if_neg h0] at hf
    exact lv_irem hx hb hd h0 (k hf H locs ls h1 h2 h3)
theorem xr_dup {va : Value} (hC : xc C G own cc nL ret rm) (hd : decode cc pc = .ok (.dup, 1)) (hn : pc + 1 = pc') (hv : va.category = 1) (k : xw C G nL Q σ pc' lv (va :: va :: st)) : xw C G nL Q σ pc lv (va :: st) := by
  obtain ⟨p, l, e, R, s, m, args, below, meth, c⟩ := C
  obtain ⟨hx, hb, hml, hown, hts, hK, hZ, hlk, hr, hR, hG⟩ := hC
  subst hn
  intro H locs ls h1 h2 h3
  exact lv_dup hx hb hd hv (k H locs ls h1 h2 h3)
theorem xr_pop {va : Value} (hC : xc C G own cc nL ret rm) (hd : decode cc pc = .ok (.pop, 1)) (hn : pc + 1 = pc') (hv : va.category = 1) (k : xw C G nL Q σ pc' lv st) : xw C G nL Q σ pc lv (va :: st) := by
  obtain ⟨p, l, e, R, s, m, args, below, meth, c⟩ := C
  obtain ⟨hx, hb, hml, hown, hts, hK, hZ, hlk, hr, hR, hG⟩ := hC
  subst hn
  intro H locs ls h1 h2 h3
  exact lv_pop hx hb hd hv (k H locs ls h1 h2 h3)
theorem xr_dup2 {va vb : Value} (hC : xc C G own cc nL ret rm) (hd : decode cc pc = .ok (.dup2, 1)) (hn : pc + 1 = pc') (hv : va.category = 1) (hv2 : vb.category = 1) (k : xw C G nL Q σ pc' lv (va :: vb :: va :: vb :: st)) : xw C G nL Q σ pc lv (va :: vb :: st) := by
  obtain ⟨p, l, e, R, s, m, args, below, meth, c⟩ := C
  obtain ⟨hx, hb, hml, hown, hts, hK, hZ, hlk, hr, hR, hG⟩ := hC
  subst hn
  intro H locs ls h1 h2 h3
  exact lv_dup2_11 hx hb hd hv hv2 (k H locs ls h1 h2 h3)
theorem xr_top {x : Int32} {X : Int32 → Option α} (hf : bnd x X = some res) (k : ∀ x : Int32, X x = some res → xw C G nL Q σ pc lv (.int x :: st)) : xw C G nL Q σ pc lv (.int x :: st) := k x hf
theorem xr_nm {x : Int32} (k : ∀ x : Int32, xw C G nL Q σ pc lv (.int x :: st)) : xw C G nL Q σ pc lv (.int x :: st) := k x
theorem xr_icmp_eq {x y : Int32} {off : Int} {inst : Decidable (x = y)} {X Y : Option α} (tgt : Nat) (hC : xc C G own cc nL ret rm) (hd : decode cc pc = .ok (.if_icmp .eq off, 3)) (hn : pc + 3 = pc') (ht : (pc : Int) + off = (tgt : Int)) (hf : (if x = y then X else Y) = some res) (kt : X = some res → xw C G nL Q σ tgt lv st) (kf : Y = some res → xw C G nL Q σ pc' lv st) : xw C G nL Q σ pc lv (.int y :: .int x :: st) := by
  obtain ⟨p, l, e, R, s, m, args, below, meth, c⟩ := C
  obtain ⟨hx, hb, hml, hown, hts, hK, hZ, hlk, hr, hR, hG⟩ := hC
  subst hn
  intro H locs ls h1 h2 h3
  exact lv_icmp_eq hx hb hd ht (fun c => kt (by rw [if_pos c] at hf; exact hf) H locs ls h1 h2 h3) (fun c => kf (by rw [if_neg c] at hf; exact hf) H locs ls h1 h2 h3)
theorem xr_if_eq {x : Int32} {off : Int} {inst : Decidable (x = 0)} {X Y : Option α} (tgt : Nat) (hC : xc C G own cc nL ret rm) (hd : decode cc pc = .ok (.ifCond .eq off, 3)) (hn : pc + 3 = pc') (ht : (pc : Int) + off = (tgt : Int)) (hf : (if x = 0 then X else Y) = some res) (kt : X = some res → xw C G nL Q σ tgt lv st) (kf : Y = some res → xw C G nL Q σ pc' lv st) : xw C G nL Q σ pc lv (.int x :: st) := by
  obtain ⟨p, l, e, R, s, m, args, below, meth, c⟩ := C
  obtain ⟨hx, hb, hml, hown, hts, hK, hZ, hlk, hr, hR, hG⟩ := hC
  subst hn
  intro H locs ls h1 h2 h3
  exact lv_if_eq hx hb hd ht (fun c => kt (by rw [if_pos c] at hf; exact hf) H locs ls h1 h2 h3) (fun c => kf (by rw [if_neg c] at hf; exact hf) H locs ls h1 h2 h3)
theorem xr_icmp_ne {x y : Int32} {off : Int} {inst : Decidable (x = y)} {X Y : Option α} (tgt : Nat) (hC : xc C G own cc nL ret rm) (hd : decode cc pc = .ok (.if_icmp .ne off, 3)) (hn : pc + 3 = pc') (ht : (pc : Int) + off = (tgt : Int)) (hf : (if x = y then X else Y) = some res) (kt : Y = some res → xw C G nL Q σ tgt lv st) (kf : X = some res → xw C G nL Q σ pc' lv st) : xw C G nL Q σ pc lv (.int y :: .int x :: st) := by
  obtain ⟨p, l, e, R, s, m, args, below, meth, c⟩ := C
  obtain ⟨hx, hb, hml, hown, hts, hK, hZ, hlk, hr, hR, hG⟩ := hC
  subst hn
  intro H locs ls h1 h2 h3
  exact lv_icmp_ne hx hb hd ht (fun c => kt (by rw [if_neg c] at hf; exact hf) H locs ls h1 h2 h3) (fun c => kf (by rw [if_pos c] at hf; exact hf) H locs ls h1 h2 h3)
theorem xr_if_ne {x : Int32} {off : Int} {inst : Decidable (x = 0)} {X Y : Option α} (tgt : Nat) (hC : xc C G own cc nL ret rm) (hd : decode cc pc = .ok (.ifCond .ne off, 3)) (hn : pc + 3 = pc') (ht : (pc : Int) + off = (tgt : Int)) (hf : (if x = 0 then X else Y) = some res) (kt : Y = some res → xw C G nL Q σ tgt lv st) (kf : X = some res → xw C G nL Q σ pc' lv st) : xw C G nL Q σ pc lv (.int x :: st) := by
  obtain ⟨p, l, e, R, s, m, args, below, meth, c⟩ := C
  obtain ⟨hx, hb, hml, hown, hts, hK, hZ, hlk, hr, hR, hG⟩ := hC
  subst hn
  intro H locs ls h1 h2 h3
  exact lv_if_ne hx hb hd ht (fun c => kt (by rw [if_neg c] at hf; exact hf) H locs ls h1 h2 h3) (fun c => kf (by rw [if_pos c] at hf; exact hf) H locs ls h1 h2 h3)
theorem xr_icmp_lt {x y : Int32} {off : Int} {inst : Decidable (x < y)} {X Y : Option α} (tgt : Nat) (hC : xc C G own cc nL ret rm) (hd : decode cc pc = .ok (.if_icmp .lt off, 3)) (hn : pc + 3 = pc') (ht : (pc : Int) + off = (tgt : Int)) (hf : (if x < y then X else Y) = some res) (kt : X = some res → xw C G nL Q σ tgt lv st) (kf : Y = some res → xw C G nL Q σ pc' lv st) : xw C G nL Q σ pc lv (.int y :: .int x :: st) := by
  obtain ⟨p, l, e, R, s, m, args, below, meth, c⟩ := C
  obtain ⟨hx, hb, hml, hown, hts, hK, hZ, hlk, hr, hR, hG⟩ := hC
  subst hn
  intro H locs ls h1 h2 h3
  exact lv_icmp_lt hx hb hd ht (fun c => kt (by rw [if_pos c] at hf; exact hf) H locs ls h1 h2 h3) (fun c => kf (by rw [if_neg c] at hf; exact hf) H locs ls h1 h2 h3)
theorem xr_if_lt {x : Int32} {off : Int} {inst : Decidable (x < 0)} {X Y : Option α} (tgt : Nat) (hC : xc C G own cc nL ret rm) (hd : decode cc pc = .ok (.ifCond .lt off, 3)) (hn : pc + 3 = pc') (ht : (pc : Int) + off = (tgt : Int)) (hf : (if x < 0 then X else Y) = some res) (kt : X = some res → xw C G nL Q σ tgt lv st) (kf : Y = some res → xw C G nL Q σ pc' lv st) : xw C G nL Q σ pc lv (.int x :: st) := by
  obtain ⟨p, l, e, R, s, m, args, below, meth, c⟩ := C
  obtain ⟨hx, hb, hml, hown, hts, hK, hZ, hlk, hr, hR, hG⟩ := hC
  subst hn
  intro H locs ls h1 h2 h3
  exact lv_if_lt hx hb hd ht (fun c => kt (by rw [if_pos c] at hf; exact hf) H locs ls h1 h2 h3) (fun c => kf (by rw [if_neg c] at hf; exact hf) H locs ls h1 h2 h3)
theorem xr_icmp_ge {x y : Int32} {off : Int} {inst : Decidable (y ≤ x)} {X Y : Option α} (tgt : Nat) (hC : xc C G own cc nL ret rm) (hd : decode cc pc = .ok (.if_icmp .ge off, 3)) (hn : pc + 3 = pc') (ht : (pc : Int) + off = (tgt : Int)) (hf : (if y ≤ x then X else Y) = some res) (kt : X = some res → xw C G nL Q σ tgt lv st) (kf : Y = some res → xw C G nL Q σ pc' lv st) : xw C G nL Q σ pc lv (.int y :: .int x :: st) := by
  obtain ⟨p, l, e, R, s, m, args, below, meth, c⟩ := C
  obtain ⟨hx, hb, hml, hown, hts, hK, hZ, hlk, hr, hR, hG⟩ := hC
  subst hn
  intro H locs ls h1 h2 h3
  exact lv_icmp_ge hx hb hd ht (fun c => kt (by rw [if_pos c] at hf; exact hf) H locs ls h1 h2 h3) (fun c => kf (by rw [if_neg c] at hf; exact hf) H locs ls h1 h2 h3)
theorem xr_if_ge {x : Int32} {off : Int} {inst : Decidable (0 ≤ x)} {X Y : Option α} (tgt : Nat) (hC : xc C G own cc nL ret rm) (hd : decode cc pc = .ok (.ifCond .ge off, 3)) (hn : pc + 3 = pc') (ht : (pc : Int) + off = (tgt : Int)) (hf : (if 0 ≤ x then X else Y) = some res) (kt : X = some res → xw C G nL Q σ tgt lv st) (kf : Y = some res → xw C G nL Q σ pc' lv st) : xw C G nL Q σ pc lv (.int x :: st) := by
  obtain ⟨p, l, e, R, s, m, args, below, meth, c⟩ := C
  obtain ⟨hx, hb, hml, hown, hts, hK, hZ, hlk, hr, hR, hG⟩ := hC
  subst hn
  intro H locs ls h1 h2 h3
  exact lv_if_ge hx hb hd ht (fun c => kt (by rw [if_pos c] at hf; exact hf) H locs ls h1 h2 h3) (fun c => kf (by rw [if_neg c] at hf; exact hf) H locs ls h1 h2 h3)
theorem xr_icmp_gt {x y : Int32} {off : Int} {inst : Decidable (y < x)} {X Y : Option α} (tgt : Nat) (hC : xc C G own cc nL ret rm) (hd : decode cc pc = .ok (.if_icmp .gt off, 3)) (hn : pc + 3 = pc') (ht : (pc : Int) + off = (tgt : Int)) (hf : (if y < x then X else Y) = some res) (kt : X = some res → xw C G nL Q σ tgt lv st) (kf : Y = some res → xw C G nL Q σ pc' lv st) : xw C G nL Q σ pc lv (.int y :: .int x :: st) := by
  obtain ⟨p, l, e, R, s, m, args, below, meth, c⟩ := C
  obtain ⟨hx, hb, hml, hown, hts, hK, hZ, hlk, hr, hR, hG⟩ := hC
  subst hn
  intro H locs ls h1 h2 h3
  exact lv_icmp_gt hx hb hd ht (fun c => kt (by rw [if_pos c] at hf; exact hf) H locs ls h1 h2 h3) (fun c => kf (by rw [if_neg c] at hf; exact hf) H locs ls h1 h2 h3)
theorem xr_if_gt {x : Int32} {off : Int} {inst : Decidable (0 < x)} {X Y : Option α} (tgt : Nat) (hC : xc C G own cc nL ret rm) (hd : decode cc pc = .ok (.ifCond .gt off, 3)) (hn : pc + 3 = pc') (ht : (pc : Int) + off = (tgt : Int)) (hf : (if 0 < x then X else Y) = some res) (kt : X = some res → xw C G nL Q σ tgt lv st) (kf : Y = some res → xw C G nL Q σ pc' lv st) : xw C G nL Q σ pc lv (.int x :: st) := by
  obtain ⟨p, l, e, R, s, m, args, below, meth, c⟩ := C
  obtain ⟨hx, hb, hml, hown, hts, hK, hZ, hlk, hr, hR, hG⟩ := hC
  subst hn
  intro H locs ls h1 h2 h3
  exact lv_if_gt hx hb hd ht (fun c => kt (by rw [if_pos c] at hf; exact hf) H locs ls h1 h2 h3) (fun c => kf (by rw [if_neg c] at hf; exact hf) H locs ls h1 h2 h3)
theorem xr_icmp_le {x y : Int32} {off : Int} {inst : Decidable (x ≤ y)} {X Y : Option α} (tgt : Nat) (hC : xc C G own cc nL ret rm) (hd : decode cc pc = .ok (.if_icmp .le off, 3)) (hn : pc + 3 = pc') (ht : (pc : Int) + off = (tgt : Int)) (hf : (if x ≤ y then X else Y) = some res) (kt : X = some res → xw C G nL Q σ tgt lv st) (kf : Y = some res → xw C G nL Q σ pc' lv st) : xw C G nL Q σ pc lv (.int y :: .int x :: st) := by
  obtain ⟨p, l, e, R, s, m, args, below, meth, c⟩ := C
  obtain ⟨hx, hb, hml, hown, hts, hK, hZ, hlk, hr, hR, hG⟩ := hC
  subst hn
  intro H locs ls h1 h2 h3
  exact lv_icmp_le hx hb hd ht (fun c => kt (by rw [if_pos c] at hf; exact hf) H locs ls h1 h2 h3) (fun c => kf (by rw [if_neg c] at hf; exact hf) H locs ls h1 h2 h3)
theorem xr_if_le {x : Int32} {off : Int} {inst : Decidable (x ≤ 0)} {X Y : Option α} (tgt : Nat) (hC : xc C G own cc nL ret rm) (hd : decode cc pc = .ok (.ifCond .le off, 3)) (hn : pc + 3 = pc') (ht : (pc : Int) + off = (tgt : Int)) (hf : (if x ≤ 0 then X else Y) = some res) (kt : X = some res → xw C G nL Q σ tgt lv st) (kf : Y = some res → xw C G nL Q σ pc' lv st) : xw C G nL Q σ pc lv (.int x :: st) := by
  obtain ⟨p, l, e, R, s, m, args, below, meth, c⟩ := C
  obtain ⟨hx, hb, hml, hown, hts, hK, hZ, hlk, hr, hR, hG⟩ := hC
  subst hn
  intro H locs ls h1 h2 h3
  exact lv_if_le hx hb hd ht (fun c => kt (by rw [if_pos c] at hf; exact hf) H locs ls h1 h2 h3) (fun c => kf (by rw [if_neg c] at hf; exact hf) H locs ls h1 h2 h3)
theorem xr_goto {off : Int} (tgt : Nat) (hC : xc C G own cc nL ret rm) (hd : decode cc pc = .ok (.goto off, 3)) (ht : (pc : Int) + off = (tgt : Int)) (k : xw C G nL Q σ tgt lv st) : xw C G nL Q σ pc lv st := by
  obtain ⟨p, l, e, R, s, m, args, below, meth, c⟩ := C
  obtain ⟨hx, hb, hml, hown, hts, hK, hZ, hlk, hr, hR, hG⟩ := hC
  intro H locs ls h1 h2 h3
  exact lv_goto hx hb hd ht (k H locs ls h1 h2 h3)
theorem xr_tableOut {dflt lo hi : Int} {offs : Array Int} {len : Nat} {x : Int32} (tgt : Nat) (hC : xc C G own cc nL ret rm) (hd : decode cc pc = .ok (.tableswitch dflt lo hi offs, len)) (h : x.toInt < lo ∨ hi < x.toInt) (ht : (pc : Int) + dflt = (tgt : Int)) (k : xw C G nL Q σ tgt lv st) : xw C G nL Q σ pc lv (.int x :: st) := by
  obtain ⟨p, l, e, R, s, m, args, below, meth, c⟩ := C
  obtain ⟨hx, hb, hml, hown, hts, hK, hZ, hlk, hr, hR, hG⟩ := hC
  intro H locs ls h1 h2 h3
  exact lv_tableOut hx hb hd h ht (k H locs ls h1 h2 h3)
theorem xr_tableIn {dflt lo hi : Int} {offs : Array Int} {len : Nat} {x : Int32} {off : Int} (tgt : Nat) (hC : xc C G own cc nL ret rm) (hd : decode cc pc = .ok (.tableswitch dflt lo hi offs, len)) (g1 : ¬ x.toInt < lo) (g2 : ¬ hi < x.toInt) (ho : offs[(x.toInt - lo).toNat]? = some off) (ht : (pc : Int) + off = (tgt : Int)) (k : xw C G nL Q σ tgt lv st) : xw C G nL Q σ pc lv (.int x :: st) := by
  obtain ⟨p, l, e, R, s, m, args, below, meth, c⟩ := C
  obtain ⟨hx, hb, hml, hown, hts, hK, hZ, hlk, hr, hR, hG⟩ := hC
  intro H locs ls h1 h2 h3
  exact lv_tableIn hx hb hd g1 g2 ho ht (k H locs ls h1 h2 h3)
theorem xr_lookup {dflt : Int} {ps : Array (Int × Int)} {len : Nat} {x : Int32} {off : Int} (tgt : Nat) (hC : xc C G own cc nL ret rm) (hd : decode cc pc = .ok (.lookupswitch dflt ps, len)) (hp : (ps.toList.zip (ps.toList.drop 1)).all (fun (a, next) => a.1 < next.1) = true) (ho : Op.lookupswitch.offset ps.toList dflt x.toInt = off) (ht : (pc : Int) + off = (tgt : Int)) (k : xw C G nL Q σ tgt lv st) : xw C G nL Q σ pc lv (.int x :: st) := by
  obtain ⟨p, l, e, R, s, m, args, below, meth, c⟩ := C
  obtain ⟨hx, hb, hml, hown, hts, hK, hZ, hlk, hr, hR, hG⟩ := hC
  intro H locs ls h1 h2 h3
  exact lv_lookup hx hb hd hp ho ht (k H locs ls h1 h2 h3)
theorem xr_get {idx : Nat} {T : u_T} {N ci : Nat} {Cn : String} {a : Nat} {fs : List Value} (v : Value) (q0 kf : Nat) (hC : xc C G own cc nL ret rm) (hd : decode cc pc = .ok (.getfield idx, 3)) (hn : pc + 3 = pc') (he : (G.2.2.1 σ)[q0]? = some (a, .inr (ci, fs))) (hc : xCl[ci]? = some (Cn, T, N)) (hin : ∀ w ∈ u_ws Cn T N, w ∈ TB) (hk : kf < N) (hlink : Cond.fieldLink own idx (T kf).1 (T kf).2.1 (T kf).2.2.1 ∈ TB) (hv : fs[kf]? = some v) (k : xw C G nL Q σ pc' lv (v :: st)) : xw C G nL Q σ pc lv (.ref a :: st) := by
  obtain ⟨p, l, e, R, s, m, args, below, meth, c⟩ := C
  obtain ⟨hx, hb, hml, hown, hts, hK, hZ, hlk, hr, hR, hG⟩ := hC
  subst hn
  intro H locs ls h1 h2 h3
  exact va_get (C := Cn) (T := T) (N := N) hx hb hts hin hown hK h1 q0 he hc kf hk (hts _ hlink) (fun _ h9 => h9) hv hd (k H locs ls h1 h2 h3)
theorem xr_getN {idx : Nat} {T : u_T} {N ci : Nat} {Cn host : String} {a : Nat} {fs : List Value} (v : Value) (q0 kf : Nat) (hC : xc C G own cc nL ret rm) (hd : decode cc pc = .ok (.getfield idx, 3)) (hn : pc + 3 = pc') (he : (G.2.2.1 σ)[q0]? = some (a, .inr (ci, fs))) (hc : xCl[ci]? = some (Cn, T, N)) (hin : ∀ w ∈ u_ws Cn T N, w ∈ TB) (hk : kf < N) (hlink : ∀ s : State, G.2.2.2.2 s → va_Nw (Cond.fieldLinkNest own idx (T kf).1 (T kf).2.1 (T kf).2.2.1 host) s) (hv : fs[kf]? = some v) (k : xw C G nL Q σ pc' lv (v :: st)) : xw C G nL Q σ pc lv (.ref a :: st) := by
  obtain ⟨p, l, e, R, s, m, args, below, meth, c⟩ := C
  obtain ⟨hx, hb, hml, hown, hts, hK, hZ, hlk, hr, hR, hG⟩ := hC
  subst hn
  intro H locs ls h1 h2 h3
  exact va_getN (C := Cn) (T := T) (N := N) hx hb hts hin hown hK h1 q0 he hc kf hk (va_Nw.use rfl (hlink _ hZ)) (fun _ h9 => h9) hv hd (k H locs ls h1 h2 h3)
theorem xr_put {idx : Nat} {T : u_T} {N ci : Nat} {Cn : String} {a : Nat} {fs : List Value} {x : Int32} {X : xS → Option α} (q0 kf kn : Nat) (hC : xc C G own cc nL ret rm) (hd : decode cc pc = .ok (.putfield idx, 3)) (hn : pc + 3 = pc') (he : (G.2.2.1 σ)[q0]? = some (a, .inr (ci, fs))) (hc : xCl[ci]? = some (Cn, T, N)) (hin : ∀ w ∈ u_ws Cn T N, w ∈ TB) (ty0 : Nat → FieldType) (hty : ∀ k, k < N → parseFieldDescriptor (T k).2.2.1 = some (ty0 k)) (hnm : ∀ a, a < N → ∀ b, b < N → a ≠ b → (T a).2.1 ≠ (T b).2.1) (hk : kf < N) (hlink : Cond.fieldLink own idx (T kf).1 (T kf).2.1 (T kf).2.2.1 ∈ TB) (hfin : (T kf).2.2.2 = false) {ty : FieldType} (hdd : parseFieldDescriptor (T kf).2.2.1 = some ty) (hna : narrow ty (.int x) = .int x) (hfit : fits ty (.int x) = true) (hlen : kf < fs.length)
    (hset : (G.2.2.1 σ).set q0 (a, .inr (ci, fs.set kf (.int x))) = G.2.2.1 (va_up σ.1 kn x, σ.2)) (hf : put σ kn x X = some res) (k : ∀ σ' : xS, X σ' = some res → xw C G nL Q σ' pc' lv st) : xw C G nL Q σ pc lv (.int x :: .ref a :: st) := by
  obtain ⟨p, l, e, R, s, m, args, below, meth, c⟩ := C
  obtain ⟨hx, hb, hml, hown, hts, hK, hZ, hlk, hr, hR, hG⟩ := hC
  subst hn
  intro H locs ls h1 h2 h3
  refine va_put (C := Cn) (T := T) (N := N) hx hb hts hin ty0 hty hnm hown hK h1 (hG.1 σ) h2 q0 he hc kf hk (hts _ hlink) (fun _ h9 => h9) hfin hdd hna hfit hlen hd (fun H1 locs1 g1 g2 g3 => ?_)
  rw [hset] at g1
  exact k _ hf H1 locs1 ls g1 g3 h3
theorem xr_iald {a an n : Nat} {cA : ClassId} {i : Int32} {X : Int32 → Option α} (q0 t0 : Nat) (hC : xc C G own cc nL ret rm) (hd : decode cc pc = .ok (.iaload, 1)) (hn : pc + 1 = pc') (ha : (G.2.2.1 σ)[q0]? = some (a, .inl (cA, n, .inl (σ.2 an)))) (ht : G.2.2.2.1[t0]? = some (cA, .int)) (hf : ald σ an n i X = some res) (k : ∀ x : Int32, X x = some res → xw C G nL Q σ pc' lv (.int x :: st)) : xw C G nL Q σ pc lv (.int i :: .ref a :: st) := by
  obtain ⟨p, l, e, R, s, m, args, below, meth, c⟩ := C
  obtain ⟨hx, hb, hml, hown, hts, hK, hZ, hlk, hr, hR, hG⟩ := hC
  subst hn
  intro H locs ls h1 h2 h3
  by_cases h0 : xin i n = true
  · rw [ald, if_pos h0] at hf
    exact va_iald hx hb hK h1 q0 t0 ha ht (xin_in h0) hd (k _ hf H locs ls h1 h2 h3)
  · rw [ald, if_neg h0] at hf; cases hf
theorem xr_zald {a an n : Nat} {cA : ClassId} {i : Int32} {X : Int32 → Option α} (q0 t0 : Nat) (hC : xc C G own cc nL ret rm) (hd : decode cc pc = .ok (.baload, 1)) (hn : pc + 1 = pc') (ha : (G.2.2.1 σ)[q0]? = some (a, .inl (cA, n, .inl (σ.2 an)))) (ht : G.2.2.2.1[t0]? = some (cA, .boolean)) (hf : ald σ an n i X = some res) (k : ∀ x : Int32, X x = some res → xw C G nL Q σ pc' lv (.int x :: st)) : xw C G nL Q σ pc lv (.int i :: .ref a :: st) := by
  obtain ⟨p, l, e, R, s, m, args, below, meth, c⟩ := C
  obtain ⟨hx, hb, hml, hown, hts, hK, hZ, hlk, hr, hR, hG⟩ := hC
  subst hn
  intro H locs ls h1 h2 h3
  by_cases h0 : xin i n = true
  · rw [ald, if_pos h0] at hf
    exact va_zald hx hb hK h1 q0 t0 ha ht (xin_in h0) hd (k _ hf H locs ls h1 h2 h3)
  · rw [ald, if_neg h0] at hf; cases hf
theorem xr_cald {a an n : Nat} {cA : ClassId} {i : Int32} {X : Int32 → Option α} (q0 t0 : Nat) (hC : xc C G own cc nL ret rm) (hd : decode cc pc = .ok (.caload, 1)) (hn : pc + 1 = pc') (ha : (G.2.2.1 σ)[q0]? = some (a, .inl (cA, n, .inl (σ.2 an)))) (ht : G.2.2.2.1[t0]? = some (cA, .char)) (hf : ald σ an n i X = some res) (k : ∀ x : Int32, X x = some res → xw C G nL Q σ pc' lv (.int x :: st)) : xw C G nL Q σ pc lv (.int i :: .ref a :: st) := by
  obtain ⟨p, l, e, R, s, m, args, below, meth, c⟩ := C
  obtain ⟨hx, hb, hml, hown, hts, hK, hZ, hlk, hr, hR, hG⟩ := hC
  subst hn
  intro H locs ls h1 h2 h3
  by_cases h0 : xin i n = true
  · rw [ald, if_pos h0] at hf
    exact va_cald hx hb hK h1 q0 t0 ha ht (xin_in h0) hd (k _ hf H locs ls h1 h2 h3)
  · rw [ald, if_neg h0] at hf; cases hf
theorem xr_iast {a an n : Nat} {cA : ClassId} {i x : Int32} {X : xS → Option α} (q0 t0 : Nat) (hC : xc C G own cc nL ret rm) (hd : decode cc pc = .ok (.iastore, 1)) (hn : pc + 1 = pc') (ha : (G.2.2.1 σ)[q0]? = some (a, .inl (cA, n, .inl (σ.2 an)))) (ht : G.2.2.2.1[t0]? = some (cA, .int)) (hset : ∀ f : Nat → Int32, (G.2.2.1 σ).set q0 (a, .inl (cA, n, .inl f)) = G.2.2.1 (σ.1, va_up σ.2 an f)) (hf : ast σ an n i x X = some res) (k : ∀ σ' : xS, X σ' = some res → xw C G nL Q σ' pc' lv st) : xw C G nL Q σ pc lv (.int x :: .int i :: .ref a :: st) := by
  obtain ⟨p, l, e, R, s, m, args, below, meth, c⟩ := C
  obtain ⟨hx, hb, hml, hown, hts, hK, hZ, hlk, hr, hR, hG⟩ := hC
  subst hn
  intro H locs ls h1 h2 h3
  by_cases h0 : xin i n = true
  · rw [ast, if_pos h0] at hf
    refine va_iast hx hb hK h1 (hG.1 σ) h2 q0 t0 ha ht (xin_in h0) hd (fun H1 locs1 g1 g2 g3 => ?_)
    rw [hset] at g1
    exact k _ hf H1 locs1 ls g1 g3 h3
  · rw [ast, if_neg h0] at hf; cases hf
theorem xr_zast {a an n : Nat} {cA : ClassId} {i x : Int32} {X : xS → Option α} (q0 t0 : Nat) (hC : xc C G own cc nL ret rm) (hd : decode cc pc = .ok (.bastore, 1)) (hn : pc + 1 = pc') (ha : (G.2.2.1 σ)[q0]? = some (a, .inl (cA, n, .inl (σ.2 an)))) (ht : G.2.2.2.1[t0]? = some (cA, .boolean)) (hset : ∀ f : Nat → Int32, (G.2.2.1 σ).set q0 (a, .inl (cA, n, .inl f)) = G.2.2.1 (σ.1, va_up σ.2 an f)) (hf : ast σ an n i (vp_nar .boolean x) X = some res) (k : ∀ σ' : xS, X σ' = some res → xw C G nL Q σ' pc' lv st) : xw C G nL Q σ pc lv (.int x :: .int i :: .ref a :: st) := by
  obtain ⟨p, l, e, R, s, m, args, below, meth, c⟩ := C
  obtain ⟨hx, hb, hml, hown, hts, hK, hZ, hlk, hr, hR, hG⟩ := hC
  subst hn
  intro H locs ls h1 h2 h3
  by_cases h0 : xin i n = true
  · rw [ast, if_pos h0] at hf
    refine va_zast hx hb hK h1 (hG.1 σ) h2 q0 t0 ha ht (xin_in h0) hd (fun H1 locs1 g1 g2 g3 => ?_)
    rw [hset] at g1
    exact k _ hf H1 locs1 ls g1 g3 h3
  · rw [ast, if_neg h0] at hf; cases hf
theorem xr_alen {a : Nat} {cA : ClassId} {y : vp_A} {ty : FieldType} (v : Int32) (q0 t0 : Nat) (hC : xc C G own cc nL ret rm) (hd : decode cc pc = .ok (.arraylength, 1)) (hn : pc + 1 = pc') (ha : (G.2.2.1 σ)[q0]? = some (a, .inl (cA, y))) (ht : G.2.2.2.1[t0]? = some (cA, ty)) (hv : Int32.ofNat y.1 = v) (k : xw C G nL Q σ pc' lv (.int v :: st)) : xw C G nL Q σ pc lv (.ref a :: st) := by
  obtain ⟨p, l, e, R, s, m, args, below, meth, c⟩ := C
  obtain ⟨hx, hb, hml, hown, hts, hK, hZ, hlk, hr, hR, hG⟩ := hC
  subst hn
  intro H locs ls h1 h2 h3
  exact va_alen hx hb hK h1 q0 t0 ha ht hv hd (k H locs ls h1 h2 h3)
theorem xr_ireturn {v r : Int32} {σ' : xS} (hC : xc C G own cc nL (some .int) rm) (hd : decode cc pc = .ok (.ireturn, 1)) (hf : some (v, σ) = some (r, σ')) : xw C G nL (xq C G (some (.int r)) σ') σ pc lv [.int v] := by
  obtain ⟨p, l, e, R, s, m, args, below, meth, c⟩ := C
  obtain ⟨hx, hb, hml, hown, hts, hK, hZ, hlk, hr, hR, hG⟩ := hC
  obtain ⟨rfl, rfl⟩ := Prod.mk.inj (Option.some.inj hf)
  intro H locs ls h1 h2 h3
  exact W.iret hx hb hr (fun t ht hW => ⟨rfl, by rw [ht]; exact h1, h2.F ht⟩) h2.2.2 hd hlk
theorem xr_zreturn {v r : Int32} {σ' : xS} {ty : FieldType} (hC : xc C G own cc nL (some ty) rm) (hd : decode cc pc = .ok (.ireturn, 1)) (hz : narrow ty (.int v) = .int v) (hf : some (v, σ) = some (r, σ')) : xw C G nL (xq C G (some (.int r)) σ') σ pc lv [.int v] := by
  obtain ⟨p, l, e, R, s, m, args, below, meth, c⟩ := C
  obtain ⟨hx, hb, hml, hown, hts, hK, hZ, hlk, hr, hR, hG⟩ := hC
  obtain ⟨rfl, rfl⟩ := Prod.mk.inj (Option.some.inj hf)
  intro H locs ls h1 h2 h3
  exact W.zret hx hb hr hz (fun t ht hW => ⟨rfl, by rw [ht]; exact h1, h2.F ht⟩) h2.2.2 hd hlk
theorem xr_breturn {v r : Int32} {σ' : xS} (hC : xc C G own cc nL (some .boolean) rm) (hd : decode cc pc = .ok (.ireturn, 1)) (hf : gdb v (some (v, σ)) = some (r, σ')) : xw C G nL (xq C G (some (.int r)) σ') σ pc lv [.int v] := by
  by_cases h : v &&& 1 = v
  · rw [gdb, if_pos h] at hf
    exact xr_zreturn hC hd (by simp only [narrow]; rw [h]) hf
  · rw [gdb, if_neg h] at hf; cases hf
theorem xr_return {v r : Int32} {σ' : xS} (hC : xc C G own cc nL none rm) (hd : decode cc pc = .ok (.return_, 1)) (hf : some (v, σ) = some (r, σ')) : xw C G nL (xq C G none σ') σ pc lv [] := by
  obtain ⟨p, l, e, R, s, m, args, below, meth, c⟩ := C
  obtain ⟨hx, hb, hml, hown, hts, hK, hZ, hlk, hr, hR, hG⟩ := hC
  obtain ⟨rfl, rfl⟩ := Prod.mk.inj (Option.some.inj hf)
  intro H locs ls h1 h2 h3
  exact W.vret hx hb hr (fun t ht hW => ⟨rfl, by rw [ht]; exact h1, h2.F ht⟩) h2.2.2 hd hlk
end XR

section XC
variable {p : Program} {l : Launch} {e : Env} {R : Room} {s : State} {m : MethodId} {args : Array Value} {below : List Frame} {meth : Method} {c : Code} {H : Heap} {locs : List Loc} {Q : State → Prop} {G : xG} {pc : Nat} {ls : Array Slot} {stk st : List Value}
theorem x_run {o : Option Value} {σ' : xS} {a : Array Value} (hr : va_Run p l e R s m args below meth c H locs 0 0 0 0 (F0 m pc ls stk) st (xQ G o σ' a) G.2.1) (hS : va_S G.2.1 s.heap H locs)
    (k : ∀ (H1 : Heap) (locs1 : List Loc), va_P G.1 xCl (G.2.2.1 σ') H1 → va_S G.2.1 s.heap H1 locs1 → W p l e R s m args below meth c H1 locs1 0 0 Q (F0 m (pc + 3) ls (o.toList ++ st))) : W p l e R s m args below meth c H locs 0 0 Q (F0 m pc ls stk) := by
  intro T hT X
  obtain ⟨v, st₀, t, T', L, h0, X', hL, e1, e2, ⟨hv, hp, hz, hk⟩, sg⟩ := hr T hT X
  cases hv
  rw [h0] at hz hk
  obtain ⟨t2, a1, b1⟩ := k T'.heap (locs ++ L) (by rw [e1]; exact hp)
    ⟨Nat.le_trans hS.1 (by rw [e1]; exact hz), fun q h1 h2 => by rw [e1, hk q (Nat.lt_of_lt_of_le h1 hS.1) h2]; exact hS.2.1 q h1 h2, fun q hq => by
      rcases List.mem_append.mp hq with h | h
      · exact hS.2.2 q h
      · exact hL q h⟩ T' rfl X'
  exact ⟨t2, sg t2 a1, b1⟩
theorem x_blind {av : List Value} {σ : xS} (hG : xOk G) : FrameBlind (xP G av σ) := by
  intro a U g mk h
  obtain ⟨h0, h1, h2, h3⟩ := h
  exact ⟨h0, h1, va_K.moved (u := U) (U := U.calling g mk a) (Vm.Alike.refl U.vm) h2, hG.2.2 U _ h3 rfl rfl⟩
theorem x_pre {av : List Value} {σ : xS} (hG : xOk G) (hK : va_K G.1 xCl G.2.2.2.1 s) (hZ : G.2.2.2.2 s) (hP : va_P G.1 xCl (G.2.2.1 σ) H) (hS : va_S G.2.1 s.heap H locs) : ∀ U : State, U.heap = H → s.WarmedH U.vm → xP G av σ av.toArray U := by
  intro U hU hW
  subst hU
  exact ⟨rfl, hP, va_K.moved hW.alike hK, hG.2.1 s U hZ hW hS.1 hS.2.1⟩
end XC
/-- what a call site's tables say, for a method of an object -/
def xLk (own : String) (idx : Nat) (Cn : String) (y : MethodName) (bytes : ByteArray) (maxL : Nat) (rety : Option FieldType) (n : Nat) : Prop :=
  (y.cls = Cn ∧ y.cls ≠ "java/lang/invoke/MethodHandle" ∧ y.cls ≠ "java/lang/invoke/VarHandle" ∧ (parseMethodDescriptor y.desc).map (fun d => d.parameters.length) = some n) ∧ Cond.code y bytes maxL rety ∈ TB ∧ Cond.methodLink own idx y ∈ TB ∧ Cond.instanceMethod y ∈ TB ∧ Cond.selects Cn y y ∈ TB ∧ Cond.initialized Cn ∈ TB
def xLs (own : String) (idx : Nat) (y : MethodName) (bytes : ByteArray) (maxL : Nat) (rety : Option FieldType) (n : Nat) : Prop :=
  (y.cls ≠ "java/lang/invoke/MethodHandle" ∧ y.cls ≠ "java/lang/invoke/VarHandle" ∧ (parseMethodDescriptor y.desc).map (fun d => d.parameters.length) = some n) ∧ Cond.code y bytes maxL rety ∈ TB ∧ Cond.methodLink own idx y ∈ TB ∧ Cond.static y ∈ TB ∧ Cond.initialized y.cls ∈ TB
section XV
variable {C : xT} {G : xG} {own : String} {cc : ByteArray} {nL : Nat} {ret : Option FieldType} {rm : Room} {Q : State → Prop} {σ : xS} {pc pc' : Nat} {lv : List (Nat × Value)} {st stk : List Value} {α : Type} {res : α}
  {idx : Nat} {Cn : String} {y : MethodName} {bytes : ByteArray} {maxL n : Nat} {rety : Option FieldType} {rmy : Room} {b : Nat} {ci : Nat} {T : u_T} {N : Nat} {fs : List Value}
theorem x_callV {o : Option Value} {σ' : xS} (As : List Value) (q0 : Nat) (hC : xc C G own cc nL ret rm) (hd : decode cc pc = .ok (.invokevirtual idx, 3)) (hn : pc + 3 = pc') (hL : xLk own idx Cn y bytes maxL rety n) (he : (G.2.2.1 σ)[q0]? = some (b, .inr (ci, fs))) (hc : xCl[ci]? = some (Cn, T, N)) (hlen : As.length = n) (hrc : rmy.cells = 0) (hrs : rmy.slots = 0) (hroom : rmy.frames + 1 ≤ rm.frames ∧ 8 + (maxL + 11) + rmy.locals ≤ rm.locals) (hst : stk = As.reverse ++ .ref b :: st) (hcat : (st.map fun v => v.category).sum ≤ 8)
    (hM : xMet C.2.1 G y bytes maxL rety rmy (.ref b :: As) σ o σ') (k : xw C G nL Q σ' pc' lv (o.toList ++ st)) : xw C G nL Q σ pc lv stk := by
  obtain ⟨p, l, e, R, s, m, args, below, meth, c⟩ := C
  obtain ⟨hx, hb, hml, hown, hts, hK, hZ, hlk, hr, hR, hG⟩ := hC
  obtain ⟨hy, w1, w2, w3, w4, w5⟩ := hL
  dsimp only at hR
  subst hn; subst hR; subst hst
  intro H locs ls h1 h2 h3
  refine x_run (va_runV (As := As) (rest := st) (cc := cc) (nL := nL) ⟨hx, hb, hml, hown, hts⟩ hM ⟨callB_of n hts (TB_in w1) rfl hrc hrs (by rw [hy.1]; exact hts _ w5) (hts _ w2) hy.2 hroom, hts _ w3, hts _ w4⟩ ⟨x_blind hG, va_recv hK h1 hc he, x_pre hG hK hZ h1 h2⟩ rfl hlen h3.1 rfl (lv_room hcat) hd ⟨Nat.zero_le _, Nat.zero_le _⟩) h2 (fun H1 locs1 g1 g2 => k H1 locs1 ls g1 g2 h3)
theorem x_callS {o : Option Value} {σ' : xS} (As : List Value) (hC : xc C G own cc nL ret rm) (hd : decode cc pc = .ok (.invokestatic idx, 3)) (hn : pc + 3 = pc') (hL : xLs own idx y bytes maxL rety n) (hlen : As.length = n) (hrc : rmy.cells = 0) (hrs : rmy.slots = 0) (hroom : rmy.frames + 1 ≤ rm.frames ∧ 8 + (maxL + 11) + rmy.locals ≤ rm.locals) (hst : stk = As.reverse ++ st) (hcat : (st.map fun v => v.category).sum ≤ 8)
    (hM : xMet C.2.1 G y bytes maxL rety rmy As σ o σ') (k : xw C G nL Q σ' pc' lv (o.toList ++ st)) : xw C G nL Q σ pc lv stk := by
  obtain ⟨p, l, e, R, s, m, args, below, meth, c⟩ := C
  obtain ⟨hx, hb, hml, hown, hts, hK, hZ, hlk, hr, hR, hG⟩ := hC
  obtain ⟨hy, w1, w2, w3, w5⟩ := hL
  dsimp only at hR
  subst hn; subst hR; subst hst
  intro H locs ls h1 h2 h3
  refine x_run (va_runS (As := As) (rest := st) (cc := cc) (nL := nL) ⟨hx, hb, hml, hown, hts⟩ hM ⟨callB_of n hts (TB_in w1) rfl hrc hrs (hts _ w5) (hts _ w2) hy hroom, hts _ w3⟩ ⟨x_blind hG, x_pre hG hK hZ h1 h2⟩ rfl hlen h3.1 rfl (lv_room hcat) hd ⟨Nat.zero_le _, Nat.zero_le _⟩) h2 (fun H1 locs1 g1 g2 => k H1 locs1 ls g1 g2 h3)
theorem xr_callV {Y : Option (Int32 × xS)} {X : Int32 → xS → Option α} (As : List Value) (q0 : Nat) (hC : xc C G own cc nL ret rm) (hd : decode cc pc = .ok (.invokevirtual idx, 3)) (hn : pc + 3 = pc') (hL : xLk own idx Cn y bytes maxL rety n) (he : (G.2.2.1 σ)[q0]? = some (b, .inr (ci, fs))) (hc : xCl[ci]? = some (Cn, T, N)) (hlen : As.length = n) (hrc : rmy.cells = 0) (hrs : rmy.slots = 0) (hroom : rmy.frames + 1 ≤ rm.frames ∧ 8 + (maxL + 11) + rmy.locals ≤ rm.locals) (hst : stk = As.reverse ++ .ref b :: st) (hcat : (st.map fun v => v.category).sum ≤ 8) (hf : cal Y X = some res)
    (hM : ∀ r σ', Y = some (r, σ') → xMet C.2.1 G y bytes maxL rety rmy (.ref b :: As) σ (some (.int r)) σ') (k : ∀ r σ', X r σ' = some res → xw C G nL Q σ' pc' lv (.int r :: st)) : xw C G nL Q σ pc lv stk := by
  cases hY : Y with
  | none => rw [hY] at hf; cases hf
  | some z =>
    obtain ⟨r, σ'⟩ := z
    rw [hY] at hf
    exact x_callV As q0 hC hd hn hL he hc hlen hrc hrs hroom hst hcat (hM r σ' hY) (k r σ' hf)
theorem xr_callVv {Y : Option (Int32 × xS)} {X : Int32 → xS → Option α} (As : List Value) (q0 : Nat) (hC : xc C G own cc nL ret rm) (hd : decode cc pc = .ok (.invokevirtual idx, 3)) (hn : pc + 3 = pc') (hL : xLk own idx Cn y bytes maxL rety n) (he : (G.2.2.1 σ)[q0]? = some (b, .inr (ci, fs))) (hc : xCl[ci]? = some (Cn, T, N)) (hlen : As.length = n) (hrc : rmy.cells = 0) (hrs : rmy.slots = 0) (hroom : rmy.frames + 1 ≤ rm.frames ∧ 8 + (maxL + 11) + rmy.locals ≤ rm.locals) (hst : stk = As.reverse ++ .ref b :: st) (hcat : (st.map fun v => v.category).sum ≤ 8) (hf : cal Y X = some res)
    (hM : ∀ r σ', Y = some (r, σ') → xMet C.2.1 G y bytes maxL rety rmy (.ref b :: As) σ none σ') (k : ∀ r σ', X r σ' = some res → xw C G nL Q σ' pc' lv st) : xw C G nL Q σ pc lv stk := by
  cases hY : Y with
  | none => rw [hY] at hf; cases hf
  | some z =>
    obtain ⟨r, σ'⟩ := z
    rw [hY] at hf
    exact x_callV As q0 hC hd hn hL he hc hlen hrc hrs hroom hst hcat (hM r σ' hY) (k r σ' hf)
theorem xr_callS {Y : Option (Int32 × xS)} {X : Int32 → xS → Option α} (As : List Value) (hC : xc C G own cc nL ret rm) (hd : decode cc pc = .ok (.invokestatic idx, 3)) (hn : pc + 3 = pc') (hL : xLs own idx y bytes maxL rety n) (hlen : As.length = n) (hrc : rmy.cells = 0) (hrs : rmy.slots = 0) (hroom : rmy.frames + 1 ≤ rm.frames ∧ 8 + (maxL + 11) + rmy.locals ≤ rm.locals) (hst : stk = As.reverse ++ st) (hcat : (st.map fun v => v.category).sum ≤ 8) (hf : cal Y X = some res)
    (hM : ∀ r σ', Y = some (r, σ') → xMet C.2.1 G y bytes maxL rety rmy As σ (some (.int r)) σ') (k : ∀ r σ', X r σ' = some res → xw C G nL Q σ' pc' lv (.int r :: st)) : xw C G nL Q σ pc lv stk := by
  cases hY : Y with
  | none => rw [hY] at hf; cases hf
  | some z =>
    obtain ⟨r, σ'⟩ := z
    rw [hY] at hf
    exact x_callS As hC hd hn hL hlen hrc hrs hroom hst hcat (hM r σ' hY) (k r σ' hf)
theorem xr_callSv {Y : Option (Int32 × xS)} {X : Int32 → xS → Option α} (As : List Value) (hC : xc C G own cc nL ret rm) (hd : decode cc pc = .ok (.invokestatic idx, 3)) (hn : pc + 3 = pc') (hL : xLs own idx y bytes maxL rety n) (hlen : As.length = n) (hrc : rmy.cells = 0) (hrs : rmy.slots = 0) (hroom : rmy.frames + 1 ≤ rm.frames ∧ 8 + (maxL + 11) + rmy.locals ≤ rm.locals) (hst : stk = As.reverse ++ st) (hcat : (st.map fun v => v.category).sum ≤ 8) (hf : cal Y X = some res)
    (hM : ∀ r σ', Y = some (r, σ') → xMet C.2.1 G y bytes maxL rety rmy As σ none σ') (k : ∀ r σ', X r σ' = some res → xw C G nL Q σ' pc' lv st) : xw C G nL Q σ pc lv stk := by
  cases hY : Y with
  | none => rw [hY] at hf; cases hf
  | some z =>
    obtain ⟨r, σ'⟩ := z
    rw [hY] at hf
    exact x_callS As hC hd hn hL hlen hrc hrs hroom hst hcat (hM r σ' hY) (k r σ' hf)

theorem xr_mmax {x y : Int32} (hC : xc C G own cc nL ret rm) (hd : decode cc pc = .ok (.invokestatic idx, 3)) (hn : pc + 3 = pc') (hL : Cond.methodLink own idx Lib.Math.max.name ∈ TB ∧ Cond.static Lib.Math.max.name ∈ TB ∧ Cond.initialized "java/lang/Math" ∈ TB ∧ Cond.code Lib.Math.max.name Lib.Math.max.code 2 (some .int) ∈ TB) (hfr : 1 ≤ rm.frames) (hlo : (st.map fun v => v.category).sum + 13 ≤ rm.locals) (k : xw C G nL Q σ pc' lv (.int (if x < y then y else x) :: st)) : xw C G nL Q σ pc lv (.int y :: .int x :: st) := by
  obtain ⟨p, l, e, R, s, m, args, below, meth, c⟩ := C
  obtain ⟨hx, hb, hml, hown, hts, hK, hZ, hlk, hr, hR, hG⟩ := hC
  dsimp only at hR
  subst hn; subst hR
  intro H locs ls h1 h2 h3
  exact va_mmax hx hb (hml.trans h3.1.symm) hown (hts _ hL.1) (hts _ hL.2.1) (hts _ hL.2.2.1) (hts _ hL.2.2.2) hfr hlo (Nat.zero_le _) (Nat.zero_le _) hd (k H locs ls h1 h2 h3)
theorem xr_mmin {x y : Int32} (hC : xc C G own cc nL ret rm) (hd : decode cc pc = .ok (.invokestatic idx, 3)) (hn : pc + 3 = pc') (hL : Cond.methodLink own idx Lib.Math.min.name ∈ TB ∧ Cond.static Lib.Math.min.name ∈ TB ∧ Cond.initialized "java/lang/Math" ∈ TB ∧ Cond.code Lib.Math.min.name Lib.Math.min.code 2 (some .int) ∈ TB) (hfr : 1 ≤ rm.frames) (hlo : (st.map fun v => v.category).sum + 13 ≤ rm.locals) (k : xw C G nL Q σ pc' lv (.int (if y < x then y else x) :: st)) : xw C G nL Q σ pc lv (.int y :: .int x :: st) := by
  obtain ⟨p, l, e, R, s, m, args, below, meth, c⟩ := C
  obtain ⟨hx, hb, hml, hown, hts, hK, hZ, hlk, hr, hR, hG⟩ := hC
  dsimp only at hR
  subst hn; subst hR
  intro H locs ls h1 h2 h3
  exact va_mmin hx hb (hml.trans h3.1.symm) hown (hts _ hL.1) (hts _ hL.2.1) (hts _ hL.2.2.1) (hts _ hL.2.2.2) hfr hlo (Nat.zero_le _) (Nat.zero_le _) hd (k H locs ls h1 h2 h3)
theorem xr_mabs {x : Int32} (hC : xc C G own cc nL ret rm) (hd : decode cc pc = .ok (.invokestatic idx, 3)) (hn : pc + 3 = pc') (hL : Cond.methodLink own idx Lib.Math.abs.name ∈ TB ∧ Cond.static Lib.Math.abs.name ∈ TB ∧ Cond.initialized "java/lang/Math" ∈ TB ∧ Cond.code Lib.Math.abs.name Lib.Math.abs.code 1 (some .int) ∈ TB) (hfr : 1 ≤ rm.frames) (hlo : (st.map fun v => v.category).sum + 13 ≤ rm.locals) (k : xw C G nL Q σ pc' lv (.int (if 0 ≤ x then x else 0 - x) :: st)) : xw C G nL Q σ pc lv (.int x :: st) := by
  obtain ⟨p, l, e, R, s, m, args, below, meth, c⟩ := C
  obtain ⟨hx, hb, hml, hown, hts, hK, hZ, hlk, hr, hR, hG⟩ := hC
  dsimp only at hR
  subst hn; subst hR
  intro H locs ls h1 h2 h3
  exact va_mabs hx hb (hml.trans h3.1.symm) hown (hts _ hL.1) (hts _ hL.2.1) (hts _ hL.2.2.1) (hts _ hL.2.2.2) hfr hlo (Nat.zero_le _) (Nat.zero_le _) hd (k H locs ls h1 h2 h3)
end XV
end
section
theorem kX9_74 : xLk RX9 74 RX7 yX7_hasRoomForTwenty cX7_hasRoomForTwenty 1 (some .boolean) 0 := ⟨⟨rfl, by decide +kernel, by decide +kernel, by decide +kernel⟩, TB_of (i := 332) (by decide +kernel) rfl, TB_of (i := 329) (by decide +kernel) rfl, TB_of (i := 330) (by decide +kernel) rfl, TB_of (i := 331) (by decide +kernel) rfl, TB_of (i := 60) (by decide +kernel) rfl⟩
theorem kX9_78 : xLk RX9 78 RX7 yX7_addFour cX7_addFour 3 none 1 := ⟨⟨rfl, by decide +kernel, by decide +kernel, by decide +kernel⟩, TB_of (i := 336) (by decide +kernel) rfl, TB_of (i := 333) (by decide +kernel) rfl, TB_of (i := 334) (by decide +kernel) rfl, TB_of (i := 335) (by decide +kernel) rfl, TB_of (i := 60) (by decide +kernel) rfl⟩
theorem kX9_82 : xLk RX9 82 RX7 yX7_size cX7_size 1 (some .int) 0 := ⟨⟨rfl, by decide +kernel, by decide +kernel, by decide +kernel⟩, TB_of (i := 340) (by decide +kernel) rfl, TB_of (i := 337) (by decide +kernel) rfl, TB_of (i := 338) (by decide +kernel) rfl, TB_of (i := 339) (by decide +kernel) rfl, TB_of (i := 60) (by decide +kernel) rfl⟩
theorem kX9_86 : xLk RX9 86 RX7 yX7_keepFirst cX7_keepFirst 2 (some .boolean) 1 := ⟨⟨rfl, by decide +kernel, by decide +kernel, by decide +kernel⟩, TB_of (i := 348) (by decide +kernel) rfl, TB_of (i := 345) (by decide +kernel) rfl, TB_of (i := 346) (by decide +kernel) rfl, TB_of (i := 347) (by decide +kernel) rfl, TB_of (i := 60) (by decide +kernel) rfl⟩
theorem kX9_90 : xLs RX9 90 yX0_canBeSide cX0_canBeSide 1 (some .boolean) 1 := ⟨⟨by decide +kernel, by decide +kernel, by decide +kernel⟩, TB_of (i := 355) (by decide +kernel) rfl, TB_of (i := 353) (by decide +kernel) rfl, TB_of (i := 354) (by decide +kernel) rfl, TB_of (i := 62) (by decide +kernel) rfl⟩
theorem kX9_93 : xLk RX9 93 RX0 yX0_begin cX0_begin 4 none 3 := ⟨⟨rfl, by decide +kernel, by decide +kernel, by decide +kernel⟩, TB_of (i := 359) (by decide +kernel) rfl, TB_of (i := 356) (by decide +kernel) rfl, TB_of (i := 357) (by decide +kernel) rfl, TB_of (i := 358) (by decide +kernel) rfl, TB_of (i := 62) (by decide +kernel) rfl⟩
theorem kX9_97 : xLk RX9 97 RX8 yX8_readOnto cX8_readOnto 3 (some .boolean) 1 := ⟨⟨rfl, by decide +kernel, by decide +kernel, by decide +kernel⟩, TB_of (i := 366) (by decide +kernel) rfl, TB_of (i := 363) (by decide +kernel) rfl, TB_of (i := 364) (by decide +kernel) rfl, TB_of (i := 365) (by decide +kernel) rfl, TB_of (i := 61) (by decide +kernel) rfl⟩
theorem kX9_101 : xLk RX9 101 RX0 yX0_copyFrom cX0_copyFrom 2 none 1 := ⟨⟨rfl, by decide +kernel, by decide +kernel, by decide +kernel⟩, TB_of (i := 515) (by decide +kernel) rfl, TB_of (i := 512) (by decide +kernel) rfl, TB_of (i := 513) (by decide +kernel) rfl, TB_of (i := 514) (by decide +kernel) rfl, TB_of (i := 62) (by decide +kernel) rfl⟩
theorem kX9_104 : xLk RX9 104 RX3 yX3_makeAnew cX3_makeAnew 4 none 0 := ⟨⟨rfl, by decide +kernel, by decide +kernel, by decide +kernel⟩, TB_of (i := 522) (by decide +kernel) rfl, TB_of (i := 519) (by decide +kernel) rfl, TB_of (i := 520) (by decide +kernel) rfl, TB_of (i := 521) (by decide +kernel) rfl, TB_of (i := 63) (by decide +kernel) rfl⟩
theorem kX9_107 : xLk RX9 107 RX1 yX1_forget cX1_forget 1 none 0 := ⟨⟨rfl, by decide +kernel, by decide +kernel, by decide +kernel⟩, TB_of (i := 550) (by decide +kernel) rfl, TB_of (i := 547) (by decide +kernel) rfl, TB_of (i := 548) (by decide +kernel) rfl, TB_of (i := 549) (by decide +kernel) rfl, TB_of (i := 65) (by decide +kernel) rfl⟩
theorem kX9_110 : xLk RX9 110 RX0 yX0_countSolid cX0_countSolid 3 (some .int) 0 := ⟨⟨rfl, by decide +kernel, by decide +kernel, by decide +kernel⟩, TB_of (i := 558) (by decide +kernel) rfl, TB_of (i := 555) (by decide +kernel) rfl, TB_of (i := 556) (by decide +kernel) rfl, TB_of (i := 557) (by decide +kernel) rfl, TB_of (i := 62) (by decide +kernel) rfl⟩
theorem kX9_113 : xLk RX9 113 RX8 yX8_faultKind cX8_faultKind 1 (some .int) 0 := ⟨⟨rfl, by decide +kernel, by decide +kernel, by decide +kernel⟩, TB_of (i := 567) (by decide +kernel) rfl, TB_of (i := 564) (by decide +kernel) rfl, TB_of (i := 565) (by decide +kernel) rfl, TB_of (i := 566) (by decide +kernel) rfl, TB_of (i := 61) (by decide +kernel) rfl⟩
theorem kX9_116 : xLk RX9 116 RX8 yX8_faultPlace cX8_faultPlace 1 (some .int) 0 := ⟨⟨rfl, by decide +kernel, by decide +kernel, by decide +kernel⟩, TB_of (i := 571) (by decide +kernel) rfl, TB_of (i := 568) (by decide +kernel) rfl, TB_of (i := 569) (by decide +kernel) rfl, TB_of (i := 570) (by decide +kernel) rfl, TB_of (i := 61) (by decide +kernel) rfl⟩
theorem kX9_119 : xLk RX9 119 RX0 yX0_areWithin cX0_areWithin 5 (some .boolean) 4 := ⟨⟨rfl, by decide +kernel, by decide +kernel, by decide +kernel⟩, TB_of (i := 469) (by decide +kernel) rfl, TB_of (i := 576) (by decide +kernel) rfl, TB_of (i := 467) (by decide +kernel) rfl, TB_of (i := 468) (by decide +kernel) rfl, TB_of (i := 62) (by decide +kernel) rfl⟩
theorem kX9_123 : xLs RX9 123 yX0_indexOf cX0_indexOf 3 (some .int) 3 := ⟨⟨by decide +kernel, by decide +kernel, by decide +kernel⟩, TB_of (i := 472) (by decide +kernel) rfl, TB_of (i := 577) (by decide +kernel) rfl, TB_of (i := 471) (by decide +kernel) rfl, TB_of (i := 62) (by decide +kernel) rfl⟩
theorem kX9_127 : xLk RX9 127 RX0 yX0_isSolid cX0_isSolid 2 (some .boolean) 1 := ⟨⟨rfl, by decide +kernel, by decide +kernel, by decide +kernel⟩, TB_of (i := 493) (by decide +kernel) rfl, TB_of (i := 578) (by decide +kernel) rfl, TB_of (i := 491) (by decide +kernel) rfl, TB_of (i := 492) (by decide +kernel) rfl, TB_of (i := 62) (by decide +kernel) rfl⟩
theorem kX9_130 : xLk RX9 130 RX3 yX3_cellAt cX3_cellAt 5 (some .int) 3 := ⟨⟨rfl, by decide +kernel, by decide +kernel, by decide +kernel⟩, TB_of (i := 527) (by decide +kernel) rfl, TB_of (i := 583) (by decide +kernel) rfl, TB_of (i := 525) (by decide +kernel) rfl, TB_of (i := 526) (by decide +kernel) rfl, TB_of (i := 63) (by decide +kernel) rfl⟩
theorem kX9_133 : xLk RX9 133 RX3 yX3_freeWays cX3_freeWays 2 (some .int) 1 := ⟨⟨rfl, by decide +kernel, by decide +kernel, by decide +kernel⟩, TB_of (i := 587) (by decide +kernel) rfl, TB_of (i := 584) (by decide +kernel) rfl, TB_of (i := 585) (by decide +kernel) rfl, TB_of (i := 586) (by decide +kernel) rfl, TB_of (i := 63) (by decide +kernel) rfl⟩
theorem kX9_137 : xLk RX9 137 RX0 yX0_isThere cX0_isThere 1 (some .boolean) 0 := ⟨⟨rfl, by decide +kernel, by decide +kernel, by decide +kernel⟩, TB_of (i := 595) (by decide +kernel) rfl, TB_of (i := 592) (by decide +kernel) rfl, TB_of (i := 593) (by decide +kernel) rfl, TB_of (i := 594) (by decide +kernel) rfl, TB_of (i := 62) (by decide +kernel) rfl⟩
theorem kX9_140 : xLk RX9 140 RX3 yX3_countShut cX3_countShut 3 (some .int) 0 := ⟨⟨rfl, by decide +kernel, by decide +kernel, by decide +kernel⟩, TB_of (i := 599) (by decide +kernel) rfl, TB_of (i := 596) (by decide +kernel) rfl, TB_of (i := 597) (by decide +kernel) rfl, TB_of (i := 598) (by decide +kernel) rfl, TB_of (i := 63) (by decide +kernel) rfl⟩
theorem kX9_143 : xLk RX9 143 RX1 yX1_find cX1_find 2 (some .boolean) 0 := ⟨⟨rfl, by decide +kernel, by decide +kernel, by decide +kernel⟩, TB_of (i := 608) (by decide +kernel) rfl, TB_of (i := 605) (by decide +kernel) rfl, TB_of (i := 606) (by decide +kernel) rfl, TB_of (i := 607) (by decide +kernel) rfl, TB_of (i := 65) (by decide +kernel) rfl⟩
theorem kX9_146 : xLk RX9 146 RX6 yX6_count cX6_count 1 (some .int) 0 := ⟨⟨rfl, by decide +kernel, by decide +kernel, by decide +kernel⟩, TB_of (i := 682) (by decide +kernel) rfl, TB_of (i := 702) (by decide +kernel) rfl, TB_of (i := 680) (by decide +kernel) rfl, TB_of (i := 681) (by decide +kernel) rfl, TB_of (i := 64) (by decide +kernel) rfl⟩
theorem kX9_149 : xLk RX9 149 RX1 yX1_wayNumber cX1_wayNumber 2 (some .int) 1 := ⟨⟨rfl, by decide +kernel, by decide +kernel, by decide +kernel⟩, TB_of (i := 710) (by decide +kernel) rfl, TB_of (i := 707) (by decide +kernel) rfl, TB_of (i := 708) (by decide +kernel) rfl, TB_of (i := 709) (by decide +kernel) rfl, TB_of (i := 65) (by decide +kernel) rfl⟩
theorem kX9_152 : xLk RX9 152 RX1 yX1_pieceOfCell cX1_pieceOfCell 2 (some .int) 1 := ⟨⟨rfl, by decide +kernel, by decide +kernel, by decide +kernel⟩, TB_of (i := 718) (by decide +kernel) rfl, TB_of (i := 715) (by decide +kernel) rfl, TB_of (i := 716) (by decide +kernel) rfl, TB_of (i := 717) (by decide +kernel) rfl, TB_of (i := 65) (by decide +kernel) rfl⟩
theorem kX9_155 : xLk RX9 155 RX6 yX6_tell cX6_tell 3 (some .int) 2 := ⟨⟨rfl, by decide +kernel, by decide +kernel, by decide +kernel⟩, TB_of (i := 727) (by decide +kernel) rfl, TB_of (i := 724) (by decide +kernel) rfl, TB_of (i := 725) (by decide +kernel) rfl, TB_of (i := 726) (by decide +kernel) rfl, TB_of (i := 64) (by decide +kernel) rfl⟩
theorem kX9_159 : xLk RX9 159 RX6 yX6_setWear cX6_setWear 3 (some .boolean) 2 := ⟨⟨rfl, by decide +kernel, by decide +kernel, by decide +kernel⟩, TB_of (i := 742) (by decide +kernel) rfl, TB_of (i := 739) (by decide +kernel) rfl, TB_of (i := 740) (by decide +kernel) rfl, TB_of (i := 741) (by decide +kernel) rfl, TB_of (i := 64) (by decide +kernel) rfl⟩
theorem kX9_163 : xLk RX9 163 RX6 yX6_canPour cX6_canPour 2 (some .boolean) 1 := ⟨⟨rfl, by decide +kernel, by decide +kernel, by decide +kernel⟩, TB_of (i := 750) (by decide +kernel) rfl, TB_of (i := 747) (by decide +kernel) rfl, TB_of (i := 748) (by decide +kernel) rfl, TB_of (i := 749) (by decide +kernel) rfl, TB_of (i := 64) (by decide +kernel) rfl⟩
theorem kX9_166 : xLk RX9 166 RX6 yX6_pourWhileBorne cX6_pourWhileBorne 4 (some .int) 1 := ⟨⟨rfl, by decide +kernel, by decide +kernel, by decide +kernel⟩, TB_of (i := 754) (by decide +kernel) rfl, TB_of (i := 751) (by decide +kernel) rfl, TB_of (i := 752) (by decide +kernel) rfl, TB_of (i := 753) (by decide +kernel) rfl, TB_of (i := 64) (by decide +kernel) rfl⟩
theorem kX9_169 : xLk RX9 169 RX6 yX6_has cX6_has 2 (some .boolean) 1 := ⟨⟨rfl, by decide +kernel, by decide +kernel, by decide +kernel⟩, TB_of (i := 697) (by decide +kernel) rfl, TB_of (i := 764) (by decide +kernel) rfl, TB_of (i := 695) (by decide +kernel) rfl, TB_of (i := 696) (by decide +kernel) rfl, TB_of (i := 64) (by decide +kernel) rfl⟩
theorem kX9_172 : xLk RX9 172 RX6 yX6_mendOne cX6_mendOne 2 (some .int) 1 := ⟨⟨rfl, by decide +kernel, by decide +kernel, by decide +kernel⟩, TB_of (i := 768) (by decide +kernel) rfl, TB_of (i := 765) (by decide +kernel) rfl, TB_of (i := 766) (by decide +kernel) rfl, TB_of (i := 767) (by decide +kernel) rfl, TB_of (i := 64) (by decide +kernel) rfl⟩
theorem kX9_175 : xLk RX9 175 RX6 yX6_pourAndMend cX6_pourAndMend 4 (some .int) 1 := ⟨⟨rfl, by decide +kernel, by decide +kernel, by decide +kernel⟩, TB_of (i := 776) (by decide +kernel) rfl, TB_of (i := 773) (by decide +kernel) rfl, TB_of (i := 774) (by decide +kernel) rfl, TB_of (i := 775) (by decide +kernel) rfl, TB_of (i := 64) (by decide +kernel) rfl⟩
theorem kX9_178 : xLk RX9 178 RX4 yX4_setDry cX4_setDry 3 (some .int) 1 := ⟨⟨rfl, by decide +kernel, by decide +kernel, by decide +kernel⟩, TB_of (i := 788) (by decide +kernel) rfl, TB_of (i := 785) (by decide +kernel) rfl, TB_of (i := 786) (by decide +kernel) rfl, TB_of (i := 787) (by decide +kernel) rfl, TB_of (i := 67) (by decide +kernel) rfl⟩
theorem kX9_181 : xLk RX9 181 RX4 yX4_add cX4_add 6 (some .int) 3 := ⟨⟨rfl, by decide +kernel, by decide +kernel, by decide +kernel⟩, TB_of (i := 796) (by decide +kernel) rfl, TB_of (i := 793) (by decide +kernel) rfl, TB_of (i := 794) (by decide +kernel) rfl, TB_of (i := 795) (by decide +kernel) rfl, TB_of (i := 67) (by decide +kernel) rfl⟩
theorem kX9_184 : xLk RX9 184 RX4 yX4_remove cX4_remove 2 (some .boolean) 1 := ⟨⟨rfl, by decide +kernel, by decide +kernel, by decide +kernel⟩, TB_of (i := 804) (by decide +kernel) rfl, TB_of (i := 801) (by decide +kernel) rfl, TB_of (i := 802) (by decide +kernel) rfl, TB_of (i := 803) (by decide +kernel) rfl, TB_of (i := 67) (by decide +kernel) rfl⟩
theorem kX9_187 : xLk RX9 187 RX4 yX4_findRow cX4_findRow 4 (some .int) 0 := ⟨⟨rfl, by decide +kernel, by decide +kernel, by decide +kernel⟩, TB_of (i := 812) (by decide +kernel) rfl, TB_of (i := 809) (by decide +kernel) rfl, TB_of (i := 810) (by decide +kernel) rfl, TB_of (i := 811) (by decide +kernel) rfl, TB_of (i := 67) (by decide +kernel) rfl⟩
theorem kX9_190 : xLk RX9 190 RX4 yX4_rowNumber cX4_rowNumber 2 (some .int) 1 := ⟨⟨rfl, by decide +kernel, by decide +kernel, by decide +kernel⟩, TB_of (i := 842) (by decide +kernel) rfl, TB_of (i := 839) (by decide +kernel) rfl, TB_of (i := 840) (by decide +kernel) rfl, TB_of (i := 841) (by decide +kernel) rfl, TB_of (i := 67) (by decide +kernel) rfl⟩
theorem kX9_193 : xLk RX9 193 RX4 yX4_rowLateness cX4_rowLateness 2 (some .int) 1 := ⟨⟨rfl, by decide +kernel, by decide +kernel, by decide +kernel⟩, TB_of (i := 850) (by decide +kernel) rfl, TB_of (i := 847) (by decide +kernel) rfl, TB_of (i := 848) (by decide +kernel) rfl, TB_of (i := 849) (by decide +kernel) rfl, TB_of (i := 67) (by decide +kernel) rfl⟩
theorem kX9_196 : xLk RX9 196 RX2 yX2_set cX2_set 4 (some .boolean) 3 := ⟨⟨rfl, by decide +kernel, by decide +kernel, by decide +kernel⟩, TB_of (i := 858) (by decide +kernel) rfl, TB_of (i := 855) (by decide +kernel) rfl, TB_of (i := 856) (by decide +kernel) rfl, TB_of (i := 857) (by decide +kernel) rfl, TB_of (i := 68) (by decide +kernel) rfl⟩
theorem kX9_200 : xLk RX9 200 RX2 yX2_setCopying cX2_setCopying 4 (some .boolean) 3 := ⟨⟨rfl, by decide +kernel, by decide +kernel, by decide +kernel⟩, TB_of (i := 867) (by decide +kernel) rfl, TB_of (i := 864) (by decide +kernel) rfl, TB_of (i := 865) (by decide +kernel) rfl, TB_of (i := 866) (by decide +kernel) rfl, TB_of (i := 68) (by decide +kernel) rfl⟩
theorem kX9_203 : xLk RX9 203 RX2 yX2_has cX2_has 2 (some .boolean) 1 := ⟨⟨rfl, by decide +kernel, by decide +kernel, by decide +kernel⟩, TB_of (i := 875) (by decide +kernel) rfl, TB_of (i := 872) (by decide +kernel) rfl, TB_of (i := 873) (by decide +kernel) rfl, TB_of (i := 874) (by decide +kernel) rfl, TB_of (i := 68) (by decide +kernel) rfl⟩
theorem kX9_204 : xLk RX9 204 RX2 yX2_motherOf cX2_motherOf 6 (some .int) 1 := ⟨⟨rfl, by decide +kernel, by decide +kernel, by decide +kernel⟩, TB_of (i := 879) (by decide +kernel) rfl, TB_of (i := 876) (by decide +kernel) rfl, TB_of (i := 877) (by decide +kernel) rfl, TB_of (i := 878) (by decide +kernel) rfl, TB_of (i := 68) (by decide +kernel) rfl⟩
theorem kX9_207 : xLk RX9 207 RX2 yX2_stepsFrom cX2_stepsFrom 5 (some .int) 1 := ⟨⟨rfl, by decide +kernel, by decide +kernel, by decide +kernel⟩, TB_of (i := 899) (by decide +kernel) rfl, TB_of (i := 896) (by decide +kernel) rfl, TB_of (i := 897) (by decide +kernel) rfl, TB_of (i := 898) (by decide +kernel) rfl, TB_of (i := 68) (by decide +kernel) rfl⟩
theorem kX9_210 : xLk RX9 210 RX2 yX2_countMotherless cX2_countMotherless 3 (some .int) 0 := ⟨⟨rfl, by decide +kernel, by decide +kernel, by decide +kernel⟩, TB_of (i := 908) (by decide +kernel) rfl, TB_of (i := 905) (by decide +kernel) rfl, TB_of (i := 906) (by decide +kernel) rfl, TB_of (i := 907) (by decide +kernel) rfl, TB_of (i := 68) (by decide +kernel) rfl⟩
theorem kX9_213 : xLk RX9 213 RX2 yX2_sumQuarrels cX2_sumQuarrels 4 (some .int) 0 := ⟨⟨rfl, by decide +kernel, by decide +kernel, by decide +kernel⟩, TB_of (i := 912) (by decide +kernel) rfl, TB_of (i := 909) (by decide +kernel) rfl, TB_of (i := 910) (by decide +kernel) rfl, TB_of (i := 911) (by decide +kernel) rfl, TB_of (i := 68) (by decide +kernel) rfl⟩
theorem kX0_26 : xLs RX0 26 yJ7_fill_53178 cJ7_fill_53178 4 none 2 := ⟨⟨by decide +kernel, by decide +kernel, by decide +kernel⟩, TB_of (i := 362) (by decide +kernel) rfl, TB_of (i := 360) (by decide +kernel) rfl, TB_of (i := 361) (by decide +kernel) rfl, TB_of (i := 70) (by decide +kernel) rfl⟩
theorem kX0_44 : xLk RX0 44 RX0 yX0_put cX0_put 5 none 4 := ⟨⟨rfl, by decide +kernel, by decide +kernel, by decide +kernel⟩, TB_of (i := 465) (by decide +kernel) rfl, TB_of (i := 462) (by decide +kernel) rfl, TB_of (i := 464) (by decide +kernel) rfl, TB_of (i := 7) (by decide +kernel) rfl, TB_of (i := 62) (by decide +kernel) rfl⟩
theorem kX0_48 : xLs RX0 48 yX0_indexOf cX0_indexOf 3 (some .int) 3 := ⟨⟨by decide +kernel, by decide +kernel, by decide +kernel⟩, TB_of (i := 472) (by decide +kernel) rfl, TB_of (i := 470) (by decide +kernel) rfl, TB_of (i := 471) (by decide +kernel) rfl, TB_of (i := 62) (by decide +kernel) rfl⟩
theorem kX0_52 : xLk RX0 52 RX0 yX0_isSolid cX0_isSolid 2 (some .boolean) 1 := ⟨⟨rfl, by decide +kernel, by decide +kernel, by decide +kernel⟩, TB_of (i := 493) (by decide +kernel) rfl, TB_of (i := 490) (by decide +kernel) rfl, TB_of (i := 491) (by decide +kernel) rfl, TB_of (i := 492) (by decide +kernel) rfl, TB_of (i := 62) (by decide +kernel) rfl⟩
theorem kX0_56 : xLk RX0 56 RX0 yX0_canTurn cX0_canTurn 1 (some .boolean) 0 := ⟨⟨rfl, by decide +kernel, by decide +kernel, by decide +kernel⟩, TB_of (i := 502) (by decide +kernel) rfl, TB_of (i := 507) (by decide +kernel) rfl, TB_of (i := 500) (by decide +kernel) rfl, TB_of (i := 501) (by decide +kernel) rfl, TB_of (i := 62) (by decide +kernel) rfl⟩
theorem kX0_60 : xLk RX0 60 RX0 yX0_keepLayer cX0_keepLayer 4 none 1 := ⟨⟨rfl, by decide +kernel, by decide +kernel, by decide +kernel⟩, TB_of (i := 511) (by decide +kernel) rfl, TB_of (i := 508) (by decide +kernel) rfl, TB_of (i := 510) (by decide +kernel) rfl, TB_of (i := 11) (by decide +kernel) rfl, TB_of (i := 62) (by decide +kernel) rfl⟩
theorem kX0_64 : xLk RX0 64 RX0 yX0_areWithin cX0_areWithin 5 (some .boolean) 4 := ⟨⟨rfl, by decide +kernel, by decide +kernel, by decide +kernel⟩, TB_of (i := 469) (by decide +kernel) rfl, TB_of (i := 466) (by decide +kernel) rfl, TB_of (i := 467) (by decide +kernel) rfl, TB_of (i := 468) (by decide +kernel) rfl, TB_of (i := 62) (by decide +kernel) rfl⟩
theorem kX1_47 : xLk RX1 47 RX6 yX6_clear cX6_clear 1 none 0 := ⟨⟨rfl, by decide +kernel, by decide +kernel, by decide +kernel⟩, TB_of (i := 554) (by decide +kernel) rfl, TB_of (i := 551) (by decide +kernel) rfl, TB_of (i := 552) (by decide +kernel) rfl, TB_of (i := 553) (by decide +kernel) rfl, TB_of (i := 64) (by decide +kernel) rfl⟩
theorem kX1_52 : xLk RX1 52 RX6 yX6_takeBackPours cX6_takeBackPours 1 none 0 := ⟨⟨rfl, by decide +kernel, by decide +kernel, by decide +kernel⟩, TB_of (i := 612) (by decide +kernel) rfl, TB_of (i := 609) (by decide +kernel) rfl, TB_of (i := 610) (by decide +kernel) rfl, TB_of (i := 611) (by decide +kernel) rfl, TB_of (i := 64) (by decide +kernel) rfl⟩
theorem kX1_55 : xLk RX1 55 RX1 yX1_noteFreedoms cX1_noteFreedoms 2 none 0 := ⟨⟨rfl, by decide +kernel, by decide +kernel, by decide +kernel⟩, TB_of (i := 617) (by decide +kernel) rfl, TB_of (i := 614) (by decide +kernel) rfl, TB_of (i := 616) (by decide +kernel) rfl, TB_of (i := 15) (by decide +kernel) rfl, TB_of (i := 65) (by decide +kernel) rfl⟩
theorem kX1_58 : xLk RX1 58 RX1 yX1_fewestWays cX1_fewestWays 4 (some .int) 0 := ⟨⟨rfl, by decide +kernel, by decide +kernel, by decide +kernel⟩, TB_of (i := 631) (by decide +kernel) rfl, TB_of (i := 628) (by decide +kernel) rfl, TB_of (i := 630) (by decide +kernel) rfl, TB_of (i := 16) (by decide +kernel) rfl, TB_of (i := 65) (by decide +kernel) rfl⟩
theorem kX1_62 : xLk RX1 62 RX1 yX1_weighSets cX1_weighSets 4 none 1 := ⟨⟨rfl, by decide +kernel, by decide +kernel, by decide +kernel⟩, TB_of (i := 645) (by decide +kernel) rfl, TB_of (i := 642) (by decide +kernel) rfl, TB_of (i := 644) (by decide +kernel) rfl, TB_of (i := 18) (by decide +kernel) rfl, TB_of (i := 65) (by decide +kernel) rfl⟩
theorem kX1_66 : xLk RX1 66 RX1 yX1_keepBest cX1_keepBest 5 none 1 := ⟨⟨rfl, by decide +kernel, by decide +kernel, by decide +kernel⟩, TB_of (i := 678) (by decide +kernel) rfl, TB_of (i := 675) (by decide +kernel) rfl, TB_of (i := 677) (by decide +kernel) rfl, TB_of (i := 23) (by decide +kernel) rfl, TB_of (i := 65) (by decide +kernel) rfl⟩
theorem kX1_69 : xLk RX1 69 RX6 yX6_gather cX6_gather 6 none 2 := ⟨⟨rfl, by decide +kernel, by decide +kernel, by decide +kernel⟩, TB_of (i := 690) (by decide +kernel) rfl, TB_of (i := 687) (by decide +kernel) rfl, TB_of (i := 688) (by decide +kernel) rfl, TB_of (i := 689) (by decide +kernel) rfl, TB_of (i := 64) (by decide +kernel) rfl⟩
theorem kX1_73 : xLk RX1 73 RX5 yX5_numberAt cX5_numberAt 2 (some .int) 1 := ⟨⟨rfl, by decide +kernel, by decide +kernel, by decide +kernel⟩, TB_of (i := 665) (by decide +kernel) rfl, TB_of (i := 719) (by decide +kernel) rfl, TB_of (i := 663) (by decide +kernel) rfl, TB_of (i := 664) (by decide +kernel) rfl, TB_of (i := 66) (by decide +kernel) rfl⟩
theorem kX1_77 : xLs RX1 77 yJ7_fill_53178 cJ7_fill_53178 4 none 2 := ⟨⟨by decide +kernel, by decide +kernel, by decide +kernel⟩, TB_of (i := 362) (by decide +kernel) rfl, TB_of (i := 618) (by decide +kernel) rfl, TB_of (i := 361) (by decide +kernel) rfl, TB_of (i := 70) (by decide +kernel) rfl⟩
theorem kX1_83 : xLk RX1 83 RX3 yX3_size cX3_size 1 (some .int) 0 := ⟨⟨rfl, by decide +kernel, by decide +kernel, by decide +kernel⟩, TB_of (i := 622) (by decide +kernel) rfl, TB_of (i := 619) (by decide +kernel) rfl, TB_of (i := 620) (by decide +kernel) rfl, TB_of (i := 621) (by decide +kernel) rfl, TB_of (i := 63) (by decide +kernel) rfl⟩
theorem kX1_86 : xLk RX1 86 RX3 yX3_member cX3_member 2 (some .int) 1 := ⟨⟨rfl, by decide +kernel, by decide +kernel, by decide +kernel⟩, TB_of (i := 626) (by decide +kernel) rfl, TB_of (i := 623) (by decide +kernel) rfl, TB_of (i := 624) (by decide +kernel) rfl, TB_of (i := 625) (by decide +kernel) rfl, TB_of (i := 63) (by decide +kernel) rfl⟩
theorem kX1_89 : xLk RX1 89 RX3 yX3_freeWays cX3_freeWays 2 (some .int) 1 := ⟨⟨rfl, by decide +kernel, by decide +kernel, by decide +kernel⟩, TB_of (i := 587) (by decide +kernel) rfl, TB_of (i := 627) (by decide +kernel) rfl, TB_of (i := 585) (by decide +kernel) rfl, TB_of (i := 586) (by decide +kernel) rfl, TB_of (i := 63) (by decide +kernel) rfl⟩
theorem kX1_92 : xLs RX1 92 yJ6_bitCount_0f7a4 cJ6_bitCount_0f7a4 1 (some .int) 1 := ⟨⟨by decide +kernel, by decide +kernel, by decide +kernel⟩, TB_of (i := 634) (by decide +kernel) rfl, TB_of (i := 632) (by decide +kernel) rfl, TB_of (i := 633) (by decide +kernel) rfl, TB_of (i := 77) (by decide +kernel) rfl⟩
theorem kX1_97 : xLk RX1 97 RX1 yX1_frees cX1_frees 3 (some .boolean) 1 := ⟨⟨rfl, by decide +kernel, by decide +kernel, by decide +kernel⟩, TB_of (i := 641) (by decide +kernel) rfl, TB_of (i := 638) (by decide +kernel) rfl, TB_of (i := 640) (by decide +kernel) rfl, TB_of (i := 17) (by decide +kernel) rfl, TB_of (i := 65) (by decide +kernel) rfl⟩
theorem kX1_102 : xLk RX1 102 RX1 yX1_weighWays cX1_weighWays 5 none 1 := ⟨⟨rfl, by decide +kernel, by decide +kernel, by decide +kernel⟩, TB_of (i := 650) (by decide +kernel) rfl, TB_of (i := 647) (by decide +kernel) rfl, TB_of (i := 649) (by decide +kernel) rfl, TB_of (i := 19) (by decide +kernel) rfl, TB_of (i := 65) (by decide +kernel) rfl⟩
theorem kX1_105 : xLk RX1 105 RX5 yX5_part cX5_part 7 (some .int) 3 := ⟨⟨rfl, by decide +kernel, by decide +kernel, by decide +kernel⟩, TB_of (i := 654) (by decide +kernel) rfl, TB_of (i := 651) (by decide +kernel) rfl, TB_of (i := 652) (by decide +kernel) rfl, TB_of (i := 653) (by decide +kernel) rfl, TB_of (i := 66) (by decide +kernel) rfl⟩
theorem kX1_109 : xLk RX1 109 RX6 yX6_count cX6_count 1 (some .int) 0 := ⟨⟨rfl, by decide +kernel, by decide +kernel, by decide +kernel⟩, TB_of (i := 682) (by decide +kernel) rfl, TB_of (i := 679) (by decide +kernel) rfl, TB_of (i := 680) (by decide +kernel) rfl, TB_of (i := 681) (by decide +kernel) rfl, TB_of (i := 64) (by decide +kernel) rfl⟩
theorem kX1_112 : xLk RX1 112 RX6 yX6_add cX6_add 4 none 2 := ⟨⟨rfl, by decide +kernel, by decide +kernel, by decide +kernel⟩, TB_of (i := 686) (by decide +kernel) rfl, TB_of (i := 683) (by decide +kernel) rfl, TB_of (i := 684) (by decide +kernel) rfl, TB_of (i := 685) (by decide +kernel) rfl, TB_of (i := 64) (by decide +kernel) rfl⟩
theorem kX2_29 : xLk RX2 29 RX2 yX2_canBeMother cX2_canBeMother 3 (some .boolean) 2 := ⟨⟨rfl, by decide +kernel, by decide +kernel, by decide +kernel⟩, TB_of (i := 883) (by decide +kernel) rfl, TB_of (i := 880) (by decide +kernel) rfl, TB_of (i := 882) (by decide +kernel) rfl, TB_of (i := 32) (by decide +kernel) rfl, TB_of (i := 68) (by decide +kernel) rfl⟩
theorem kX2_33 : xLk RX2 33 RX2 yX2_quarrelOf cX2_quarrelOf 5 (some .int) 2 := ⟨⟨rfl, by decide +kernel, by decide +kernel, by decide +kernel⟩, TB_of (i := 888) (by decide +kernel) rfl, TB_of (i := 885) (by decide +kernel) rfl, TB_of (i := 887) (by decide +kernel) rfl, TB_of (i := 33) (by decide +kernel) rfl, TB_of (i := 68) (by decide +kernel) rfl⟩
theorem kX2_37 : xLk RX2 37 RX2 yX2_motherOf cX2_motherOf 6 (some .int) 1 := ⟨⟨rfl, by decide +kernel, by decide +kernel, by decide +kernel⟩, TB_of (i := 879) (by decide +kernel) rfl, TB_of (i := 900) (by decide +kernel) rfl, TB_of (i := 877) (by decide +kernel) rfl, TB_of (i := 878) (by decide +kernel) rfl, TB_of (i := 68) (by decide +kernel) rfl⟩
theorem kX2_41 : xLk RX2 41 RX2 yX2_has cX2_has 2 (some .boolean) 1 := ⟨⟨rfl, by decide +kernel, by decide +kernel, by decide +kernel⟩, TB_of (i := 875) (by decide +kernel) rfl, TB_of (i := 884) (by decide +kernel) rfl, TB_of (i := 873) (by decide +kernel) rfl, TB_of (i := 874) (by decide +kernel) rfl, TB_of (i := 68) (by decide +kernel) rfl⟩
theorem kX3_24 : xLs RX3 24 yJ7_fill_53178 cJ7_fill_53178 4 none 2 := ⟨⟨by decide +kernel, by decide +kernel, by decide +kernel⟩, TB_of (i := 362) (by decide +kernel) rfl, TB_of (i := 523) (by decide +kernel) rfl, TB_of (i := 361) (by decide +kernel) rfl, TB_of (i := 70) (by decide +kernel) rfl⟩
theorem kX3_43 : xLk RX3 43 RX3 yX3_cellAt cX3_cellAt 5 (some .int) 3 := ⟨⟨rfl, by decide +kernel, by decide +kernel, by decide +kernel⟩, TB_of (i := 527) (by decide +kernel) rfl, TB_of (i := 524) (by decide +kernel) rfl, TB_of (i := 525) (by decide +kernel) rfl, TB_of (i := 526) (by decide +kernel) rfl, TB_of (i := 63) (by decide +kernel) rfl⟩
theorem kX3_47 : xLk RX3 47 RX3 yX3_addMember cX3_addMember 2 none 1 := ⟨⟨rfl, by decide +kernel, by decide +kernel, by decide +kernel⟩, TB_of (i := 534) (by decide +kernel) rfl, TB_of (i := 531) (by decide +kernel) rfl, TB_of (i := 533) (by decide +kernel) rfl, TB_of (i := 12) (by decide +kernel) rfl, TB_of (i := 63) (by decide +kernel) rfl⟩
theorem kX3_51 : xLk RX3 51 RX3 yX3_freeFromEdge cX3_freeFromEdge 3 none 1 := ⟨⟨rfl, by decide +kernel, by decide +kernel, by decide +kernel⟩, TB_of (i := 538) (by decide +kernel) rfl, TB_of (i := 535) (by decide +kernel) rfl, TB_of (i := 537) (by decide +kernel) rfl, TB_of (i := 13) (by decide +kernel) rfl, TB_of (i := 63) (by decide +kernel) rfl⟩
theorem kX3_54 : xLk RX3 54 RX0 yX0_areWithin cX0_areWithin 5 (some .boolean) 4 := ⟨⟨rfl, by decide +kernel, by decide +kernel, by decide +kernel⟩, TB_of (i := 469) (by decide +kernel) rfl, TB_of (i := 528) (by decide +kernel) rfl, TB_of (i := 467) (by decide +kernel) rfl, TB_of (i := 468) (by decide +kernel) rfl, TB_of (i := 62) (by decide +kernel) rfl⟩
theorem kX3_58 : xLs RX3 58 yX0_indexOf cX0_indexOf 3 (some .int) 3 := ⟨⟨by decide +kernel, by decide +kernel, by decide +kernel⟩, TB_of (i := 472) (by decide +kernel) rfl, TB_of (i := 529) (by decide +kernel) rfl, TB_of (i := 471) (by decide +kernel) rfl, TB_of (i := 62) (by decide +kernel) rfl⟩
theorem kX3_61 : xLk RX3 61 RX0 yX0_isSolid cX0_isSolid 2 (some .boolean) 1 := ⟨⟨rfl, by decide +kernel, by decide +kernel, by decide +kernel⟩, TB_of (i := 493) (by decide +kernel) rfl, TB_of (i := 530) (by decide +kernel) rfl, TB_of (i := 491) (by decide +kernel) rfl, TB_of (i := 492) (by decide +kernel) rfl, TB_of (i := 62) (by decide +kernel) rfl⟩
theorem kX3_65 : xLk RX3 65 RX3 yX3_freeWays cX3_freeWays 2 (some .int) 1 := ⟨⟨rfl, by decide +kernel, by decide +kernel, by decide +kernel⟩, TB_of (i := 587) (by decide +kernel) rfl, TB_of (i := 600) (by decide +kernel) rfl, TB_of (i := 585) (by decide +kernel) rfl, TB_of (i := 586) (by decide +kernel) rfl, TB_of (i := 63) (by decide +kernel) rfl⟩
theorem kX3_69 : xLk RX3 69 RX3 yX3_beside cX3_beside 3 (some .int) 2 := ⟨⟨rfl, by decide +kernel, by decide +kernel, by decide +kernel⟩, TB_of (i := 542) (by decide +kernel) rfl, TB_of (i := 539) (by decide +kernel) rfl, TB_of (i := 540) (by decide +kernel) rfl, TB_of (i := 541) (by decide +kernel) rfl, TB_of (i := 63) (by decide +kernel) rfl⟩
theorem kX3_73 : xLk RX3 73 RX3 yX3_freeInwards cX3_freeInwards 5 none 2 := ⟨⟨rfl, by decide +kernel, by decide +kernel, by decide +kernel⟩, TB_of (i := 546) (by decide +kernel) rfl, TB_of (i := 543) (by decide +kernel) rfl, TB_of (i := 545) (by decide +kernel) rfl, TB_of (i := 14) (by decide +kernel) rfl, TB_of (i := 63) (by decide +kernel) rfl⟩
theorem kX4_40 : xLk RX4 40 RX4 yX4_allOrders cX4_allOrders 3 (some .int) 0 := ⟨⟨rfl, by decide +kernel, by decide +kernel, by decide +kernel⟩, TB_of (i := 816) (by decide +kernel) rfl, TB_of (i := 813) (by decide +kernel) rfl, TB_of (i := 815) (by decide +kernel) rfl, TB_of (i := 27) (by decide +kernel) rfl, TB_of (i := 67) (by decide +kernel) rfl⟩
theorem kX4_44 : xLk RX4 44 RX4 yX4_poursOf cX4_poursOf 4 (some .int) 1 := ⟨⟨rfl, by decide +kernel, by decide +kernel, by decide +kernel⟩, TB_of (i := 820) (by decide +kernel) rfl, TB_of (i := 817) (by decide +kernel) rfl, TB_of (i := 819) (by decide +kernel) rfl, TB_of (i := 28) (by decide +kernel) rfl, TB_of (i := 67) (by decide +kernel) rfl⟩
theorem kX4_48 : xLk RX4 48 RX4 yX4_weighSet cX4_weighSet 6 none 2 := ⟨⟨rfl, by decide +kernel, by decide +kernel, by decide +kernel⟩, TB_of (i := 824) (by decide +kernel) rfl, TB_of (i := 821) (by decide +kernel) rfl, TB_of (i := 823) (by decide +kernel) rfl, TB_of (i := 29) (by decide +kernel) rfl, TB_of (i := 67) (by decide +kernel) rfl⟩
theorem kX4_52 : xLk RX4 52 RX4 yX4_keepRow cX4_keepRow 6 none 1 := ⟨⟨rfl, by decide +kernel, by decide +kernel, by decide +kernel⟩, TB_of (i := 834) (by decide +kernel) rfl, TB_of (i := 831) (by decide +kernel) rfl, TB_of (i := 833) (by decide +kernel) rfl, TB_of (i := 31) (by decide +kernel) rfl, TB_of (i := 67) (by decide +kernel) rfl⟩
theorem kX4_57 : xLk RX4 57 RX4 yX4_latenessOf cX4_latenessOf 3 (some .int) 2 := ⟨⟨rfl, by decide +kernel, by decide +kernel, by decide +kernel⟩, TB_of (i := 829) (by decide +kernel) rfl, TB_of (i := 826) (by decide +kernel) rfl, TB_of (i := 828) (by decide +kernel) rfl, TB_of (i := 30) (by decide +kernel) rfl, TB_of (i := 67) (by decide +kernel) rfl⟩
theorem kX5_24 : xLk RX5 24 RX5 yX5_openCells cX5_openCells 6 none 2 := ⟨⟨rfl, by decide +kernel, by decide +kernel, by decide +kernel⟩, TB_of (i := 658) (by decide +kernel) rfl, TB_of (i := 655) (by decide +kernel) rfl, TB_of (i := 657) (by decide +kernel) rfl, TB_of (i := 20) (by decide +kernel) rfl, TB_of (i := 66) (by decide +kernel) rfl⟩
theorem kX5_28 : xLk RX5 28 RX3 yX3_size cX3_size 1 (some .int) 0 := ⟨⟨rfl, by decide +kernel, by decide +kernel, by decide +kernel⟩, TB_of (i := 622) (by decide +kernel) rfl, TB_of (i := 659) (by decide +kernel) rfl, TB_of (i := 620) (by decide +kernel) rfl, TB_of (i := 621) (by decide +kernel) rfl, TB_of (i := 63) (by decide +kernel) rfl⟩
theorem kX5_34 : xLk RX5 34 RX3 yX3_member cX3_member 2 (some .int) 1 := ⟨⟨rfl, by decide +kernel, by decide +kernel, by decide +kernel⟩, TB_of (i := 626) (by decide +kernel) rfl, TB_of (i := 660) (by decide +kernel) rfl, TB_of (i := 624) (by decide +kernel) rfl, TB_of (i := 625) (by decide +kernel) rfl, TB_of (i := 63) (by decide +kernel) rfl⟩
theorem kX5_38 : xLk RX5 38 RX5 yX5_numberAt cX5_numberAt 2 (some .int) 1 := ⟨⟨rfl, by decide +kernel, by decide +kernel, by decide +kernel⟩, TB_of (i := 665) (by decide +kernel) rfl, TB_of (i := 662) (by decide +kernel) rfl, TB_of (i := 663) (by decide +kernel) rfl, TB_of (i := 664) (by decide +kernel) rfl, TB_of (i := 66) (by decide +kernel) rfl⟩
theorem kX5_41 : xLk RX5 41 RX5 yX5_spread cX5_spread 6 none 2 := ⟨⟨rfl, by decide +kernel, by decide +kernel, by decide +kernel⟩, TB_of (i := 669) (by decide +kernel) rfl, TB_of (i := 666) (by decide +kernel) rfl, TB_of (i := 668) (by decide +kernel) rfl, TB_of (i := 21) (by decide +kernel) rfl, TB_of (i := 66) (by decide +kernel) rfl⟩
theorem kX5_44 : xLk RX5 44 RX3 yX3_freeWays cX3_freeWays 2 (some .int) 1 := ⟨⟨rfl, by decide +kernel, by decide +kernel, by decide +kernel⟩, TB_of (i := 587) (by decide +kernel) rfl, TB_of (i := 661) (by decide +kernel) rfl, TB_of (i := 585) (by decide +kernel) rfl, TB_of (i := 586) (by decide +kernel) rfl, TB_of (i := 63) (by decide +kernel) rfl⟩
theorem kX5_47 : xLk RX5 47 RX5 yX5_reach cX5_reach 4 (some .int) 3 := ⟨⟨rfl, by decide +kernel, by decide +kernel, by decide +kernel⟩, TB_of (i := 673) (by decide +kernel) rfl, TB_of (i := 670) (by decide +kernel) rfl, TB_of (i := 672) (by decide +kernel) rfl, TB_of (i := 22) (by decide +kernel) rfl, TB_of (i := 66) (by decide +kernel) rfl⟩
theorem kX5_51 : xLk RX5 51 RX3 yX3_beside cX3_beside 3 (some .int) 2 := ⟨⟨rfl, by decide +kernel, by decide +kernel, by decide +kernel⟩, TB_of (i := 542) (by decide +kernel) rfl, TB_of (i := 674) (by decide +kernel) rfl, TB_of (i := 540) (by decide +kernel) rfl, TB_of (i := 541) (by decide +kernel) rfl, TB_of (i := 63) (by decide +kernel) rfl⟩
theorem kX6_36 : xLk RX6 36 RX3 yX3_size cX3_size 1 (some .int) 0 := ⟨⟨rfl, by decide +kernel, by decide +kernel, by decide +kernel⟩, TB_of (i := 622) (by decide +kernel) rfl, TB_of (i := 691) (by decide +kernel) rfl, TB_of (i := 620) (by decide +kernel) rfl, TB_of (i := 621) (by decide +kernel) rfl, TB_of (i := 63) (by decide +kernel) rfl⟩
theorem kX6_42 : xLk RX6 42 RX3 yX3_member cX3_member 2 (some .int) 1 := ⟨⟨rfl, by decide +kernel, by decide +kernel, by decide +kernel⟩, TB_of (i := 626) (by decide +kernel) rfl, TB_of (i := 692) (by decide +kernel) rfl, TB_of (i := 624) (by decide +kernel) rfl, TB_of (i := 625) (by decide +kernel) rfl, TB_of (i := 63) (by decide +kernel) rfl⟩
theorem kX6_46 : xLk RX6 46 RX5 yX5_numberAt cX5_numberAt 2 (some .int) 1 := ⟨⟨rfl, by decide +kernel, by decide +kernel, by decide +kernel⟩, TB_of (i := 665) (by decide +kernel) rfl, TB_of (i := 693) (by decide +kernel) rfl, TB_of (i := 663) (by decide +kernel) rfl, TB_of (i := 664) (by decide +kernel) rfl, TB_of (i := 66) (by decide +kernel) rfl⟩
theorem kX6_51 : xLk RX6 51 RX6 yX6_has cX6_has 2 (some .boolean) 1 := ⟨⟨rfl, by decide +kernel, by decide +kernel, by decide +kernel⟩, TB_of (i := 697) (by decide +kernel) rfl, TB_of (i := 694) (by decide +kernel) rfl, TB_of (i := 695) (by decide +kernel) rfl, TB_of (i := 696) (by decide +kernel) rfl, TB_of (i := 64) (by decide +kernel) rfl⟩
theorem kX6_55 : xLk RX6 55 RX3 yX3_touchesSolid cX3_touchesSolid 3 (some .boolean) 1 := ⟨⟨rfl, by decide +kernel, by decide +kernel, by decide +kernel⟩, TB_of (i := 701) (by decide +kernel) rfl, TB_of (i := 698) (by decide +kernel) rfl, TB_of (i := 699) (by decide +kernel) rfl, TB_of (i := 700) (by decide +kernel) rfl, TB_of (i := 63) (by decide +kernel) rfl⟩
theorem kX6_58 : xLs RX6 58 yJ7_fill_53178 cJ7_fill_53178 4 none 2 := ⟨⟨by decide +kernel, by decide +kernel, by decide +kernel⟩, TB_of (i := 362) (by decide +kernel) rfl, TB_of (i := 613) (by decide +kernel) rfl, TB_of (i := 361) (by decide +kernel) rfl, TB_of (i := 70) (by decide +kernel) rfl⟩
theorem kX6_64 : xLk RX6 64 RX6 yX6_borneBy cX6_borneBy 2 (some .int) 1 := ⟨⟨rfl, by decide +kernel, by decide +kernel, by decide +kernel⟩, TB_of (i := 731) (by decide +kernel) rfl, TB_of (i := 728) (by decide +kernel) rfl, TB_of (i := 730) (by decide +kernel) rfl, TB_of (i := 24) (by decide +kernel) rfl, TB_of (i := 64) (by decide +kernel) rfl⟩
theorem kX6_67 : xLk RX6 67 RX6 yX6_leftOn cX6_leftOn 2 (some .int) 1 := ⟨⟨rfl, by decide +kernel, by decide +kernel, by decide +kernel⟩, TB_of (i := 758) (by decide +kernel) rfl, TB_of (i := 755) (by decide +kernel) rfl, TB_of (i := 757) (by decide +kernel) rfl, TB_of (i := 25) (by decide +kernel) rfl, TB_of (i := 64) (by decide +kernel) rfl⟩
theorem kX6_76 : xLk RX6 76 RX6 yX6_pourAndMendOne cX6_pourAndMendOne 7 (some .int) 2 := ⟨⟨rfl, by decide +kernel, by decide +kernel, by decide +kernel⟩, TB_of (i := 780) (by decide +kernel) rfl, TB_of (i := 777) (by decide +kernel) rfl, TB_of (i := 779) (by decide +kernel) rfl, TB_of (i := 26) (by decide +kernel) rfl, TB_of (i := 64) (by decide +kernel) rfl⟩
theorem kX8_29 : xLk RX8 29 RX8 yX8_skipBlanks cX8_skipBlanks 1 none 0 := ⟨⟨rfl, by decide +kernel, by decide +kernel, by decide +kernel⟩, TB_of (i := 370) (by decide +kernel) rfl, TB_of (i := 367) (by decide +kernel) rfl, TB_of (i := 369) (by decide +kernel) rfl, TB_of (i := 0) (by decide +kernel) rfl, TB_of (i := 61) (by decide +kernel) rfl⟩
theorem kX8_34 : xLk RX8 34 RX7 yX7_size cX7_size 1 (some .int) 0 := ⟨⟨rfl, by decide +kernel, by decide +kernel, by decide +kernel⟩, TB_of (i := 340) (by decide +kernel) rfl, TB_of (i := 371) (by decide +kernel) rfl, TB_of (i := 338) (by decide +kernel) rfl, TB_of (i := 339) (by decide +kernel) rfl, TB_of (i := 60) (by decide +kernel) rfl⟩
theorem kX8_38 : xLk RX8 38 RX8 yX8_readStatement cX8_readStatement 3 none 1 := ⟨⟨rfl, by decide +kernel, by decide +kernel, by decide +kernel⟩, TB_of (i := 382) (by decide +kernel) rfl, TB_of (i := 379) (by decide +kernel) rfl, TB_of (i := 381) (by decide +kernel) rfl, TB_of (i := 1) (by decide +kernel) rfl, TB_of (i := 61) (by decide +kernel) rfl⟩
theorem kX8_44 : xLk RX8 44 RX8 yX8_takeWord cX8_takeWord 4 (some .boolean) 1 := ⟨⟨rfl, by decide +kernel, by decide +kernel, by decide +kernel⟩, TB_of (i := 387) (by decide +kernel) rfl, TB_of (i := 384) (by decide +kernel) rfl, TB_of (i := 386) (by decide +kernel) rfl, TB_of (i := 2) (by decide +kernel) rfl, TB_of (i := 61) (by decide +kernel) rfl⟩
theorem kX8_48 : xLk RX8 48 RX8 yX8_readBlock cX8_readBlock 4 none 2 := ⟨⟨rfl, by decide +kernel, by decide +kernel, by decide +kernel⟩, TB_of (i := 442) (by decide +kernel) rfl, TB_of (i := 439) (by decide +kernel) rfl, TB_of (i := 441) (by decide +kernel) rfl, TB_of (i := 3) (by decide +kernel) rfl, TB_of (i := 61) (by decide +kernel) rfl⟩
theorem kX8_56 : xLk RX8 56 RX8 yX8_readMirror cX8_readMirror 4 none 1 := ⟨⟨rfl, by decide +kernel, by decide +kernel, by decide +kernel⟩, TB_of (i := 478) (by decide +kernel) rfl, TB_of (i := 475) (by decide +kernel) rfl, TB_of (i := 477) (by decide +kernel) rfl, TB_of (i := 8) (by decide +kernel) rfl, TB_of (i := 61) (by decide +kernel) rfl⟩
theorem kX8_61 : xLk RX8 61 RX8 yX8_readTurn cX8_readTurn 3 none 2 := ⟨⟨rfl, by decide +kernel, by decide +kernel, by decide +kernel⟩, TB_of (i := 498) (by decide +kernel) rfl, TB_of (i := 495) (by decide +kernel) rfl, TB_of (i := 497) (by decide +kernel) rfl, TB_of (i := 10) (by decide +kernel) rfl, TB_of (i := 61) (by decide +kernel) rfl⟩
theorem kX8_64 : xLk RX8 64 RX8 yX8_refuse cX8_refuse 3 none 2 := ⟨⟨rfl, by decide +kernel, by decide +kernel, by decide +kernel⟩, TB_of (i := 450) (by decide +kernel) rfl, TB_of (i := 447) (by decide +kernel) rfl, TB_of (i := 449) (by decide +kernel) rfl, TB_of (i := 5) (by decide +kernel) rfl, TB_of (i := 61) (by decide +kernel) rfl⟩
theorem kX8_68 : xLk RX8 68 RX8 yX8_readNumber cX8_readNumber 5 none 1 := ⟨⟨rfl, by decide +kernel, by decide +kernel, by decide +kernel⟩, TB_of (i := 446) (by decide +kernel) rfl, TB_of (i := 443) (by decide +kernel) rfl, TB_of (i := 445) (by decide +kernel) rfl, TB_of (i := 4) (by decide +kernel) rfl, TB_of (i := 61) (by decide +kernel) rfl⟩
theorem kX8_72 : xLk RX8 72 RX8 yX8_readSemicolon cX8_readSemicolon 1 none 0 := ⟨⟨rfl, by decide +kernel, by decide +kernel, by decide +kernel⟩, TB_of (i := 454) (by decide +kernel) rfl, TB_of (i := 451) (by decide +kernel) rfl, TB_of (i := 453) (by decide +kernel) rfl, TB_of (i := 6) (by decide +kernel) rfl, TB_of (i := 61) (by decide +kernel) rfl⟩
theorem kX8_75 : xLk RX8 75 RX0 yX0_fillBlock cX0_fillBlock 9 none 2 := ⟨⟨rfl, by decide +kernel, by decide +kernel, by decide +kernel⟩, TB_of (i := 458) (by decide +kernel) rfl, TB_of (i := 455) (by decide +kernel) rfl, TB_of (i := 456) (by decide +kernel) rfl, TB_of (i := 457) (by decide +kernel) rfl, TB_of (i := 62) (by decide +kernel) rfl⟩
theorem kX8_81 : xLk RX8 81 RX7 yX7_byteAt cX7_byteAt 2 (some .int) 1 := ⟨⟨rfl, by decide +kernel, by decide +kernel, by decide +kernel⟩, TB_of (i := 375) (by decide +kernel) rfl, TB_of (i := 372) (by decide +kernel) rfl, TB_of (i := 373) (by decide +kernel) rfl, TB_of (i := 374) (by decide +kernel) rfl, TB_of (i := 60) (by decide +kernel) rfl⟩
theorem kX8_85 : xLk RX8 85 RX8 yX8_takeAxis cX8_takeAxis 1 (some .int) 0 := ⟨⟨rfl, by decide +kernel, by decide +kernel, by decide +kernel⟩, TB_of (i := 482) (by decide +kernel) rfl, TB_of (i := 479) (by decide +kernel) rfl, TB_of (i := 481) (by decide +kernel) rfl, TB_of (i := 9) (by decide +kernel) rfl, TB_of (i := 61) (by decide +kernel) rfl⟩
theorem kX8_88 : xLk RX8 88 RX0 yX0_mirrorAcross cX0_mirrorAcross 5 none 1 := ⟨⟨rfl, by decide +kernel, by decide +kernel, by decide +kernel⟩, TB_of (i := 489) (by decide +kernel) rfl, TB_of (i := 486) (by decide +kernel) rfl, TB_of (i := 487) (by decide +kernel) rfl, TB_of (i := 488) (by decide +kernel) rfl, TB_of (i := 62) (by decide +kernel) rfl⟩
theorem kX8_91 : xLk RX8 91 RX0 yX0_canTurn cX0_canTurn 1 (some .boolean) 0 := ⟨⟨rfl, by decide +kernel, by decide +kernel, by decide +kernel⟩, TB_of (i := 502) (by decide +kernel) rfl, TB_of (i := 499) (by decide +kernel) rfl, TB_of (i := 500) (by decide +kernel) rfl, TB_of (i := 501) (by decide +kernel) rfl, TB_of (i := 62) (by decide +kernel) rfl⟩
theorem kX8_95 : xLk RX8 95 RX0 yX0_turnOnce cX0_turnOnce 4 none 0 := ⟨⟨rfl, by decide +kernel, by decide +kernel, by decide +kernel⟩, TB_of (i := 506) (by decide +kernel) rfl, TB_of (i := 503) (by decide +kernel) rfl, TB_of (i := 504) (by decide +kernel) rfl, TB_of (i := 505) (by decide +kernel) rfl, TB_of (i := 62) (by decide +kernel) rfl⟩
theorem kX8_104 : xLk RX8 104 RJ0 yJ0_length_8abf5 cJ0_length_8abf5 1 (some .int) 0 := ⟨⟨rfl, by decide +kernel, by decide +kernel, by decide +kernel⟩, TB_of (i := 391) (by decide +kernel) rfl, TB_of (i := 388) (by decide +kernel) rfl, TB_of (i := 389) (by decide +kernel) rfl, TB_of (i := 390) (by decide +kernel) rfl, TB_of (i := 71) (by decide +kernel) rfl⟩
theorem kX8_109 : xLk RX8 109 RJ0 yJ0_charAt_5068e cJ0_charAt_5068e 2 (some .char) 1 := ⟨⟨rfl, by decide +kernel, by decide +kernel, by decide +kernel⟩, TB_of (i := 401) (by decide +kernel) rfl, TB_of (i := 398) (by decide +kernel) rfl, TB_of (i := 399) (by decide +kernel) rfl, TB_of (i := 400) (by decide +kernel) rfl, TB_of (i := 71) (by decide +kernel) rfl⟩
theorem kX8_113 : xLs RX8 113 yX8_isLetter cX8_isLetter 1 (some .boolean) 1 := ⟨⟨by decide +kernel, by decide +kernel, by decide +kernel⟩, TB_of (i := 438) (by decide +kernel) rfl, TB_of (i := 436) (by decide +kernel) rfl, TB_of (i := 437) (by decide +kernel) rfl, TB_of (i := 61) (by decide +kernel) rfl⟩
theorem kX8_117 : xLs RX8 117 yX8_isBlank cX8_isBlank 1 (some .boolean) 1 := ⟨⟨by decide +kernel, by decide +kernel, by decide +kernel⟩, TB_of (i := 378) (by decide +kernel) rfl, TB_of (i := 376) (by decide +kernel) rfl, TB_of (i := 377) (by decide +kernel) rfl, TB_of (i := 61) (by decide +kernel) rfl⟩
theorem kL_13 : xLk RL 13 RX9 yX9_feed cX9_feed 6 (some .int) 5 := ⟨⟨rfl, by decide +kernel, by decide +kernel, by decide +kernel⟩, TB_of (i := 328) (by decide +kernel) rfl, TB_of (i := 325) (by decide +kernel) rfl, TB_of (i := 326) (by decide +kernel) rfl, TB_of (i := 327) (by decide +kernel) rfl, TB_of (i := 59) (by decide +kernel) rfl⟩
theorem kL_17 : xLk RL 17 RX10 yX10_feed cX10_feed 8 (some .int) 5 := ⟨⟨rfl, by decide +kernel, by decide +kernel, by decide +kernel⟩, TB_of (i := 1084) (by decide +kernel) rfl, TB_of (i := 1081) (by decide +kernel) rfl, TB_of (i := 1082) (by decide +kernel) rfl, TB_of (i := 1083) (by decide +kernel) rfl, TB_of (i := 69) (by decide +kernel) rfl⟩
theorem kL_18 : xLk RL 18 RX9 yX9_end cX9_end 2 (some .boolean) 1 := ⟨⟨rfl, by decide +kernel, by decide +kernel, by decide +kernel⟩, TB_of (i := 344) (by decide +kernel) rfl, TB_of (i := 341) (by decide +kernel) rfl, TB_of (i := 342) (by decide +kernel) rfl, TB_of (i := 343) (by decide +kernel) rfl, TB_of (i := 59) (by decide +kernel) rfl⟩
theorem kL_22 : xLk RL 22 RX10 yX10_end cX10_end 2 (some .boolean) 1 := ⟨⟨rfl, by decide +kernel, by decide +kernel, by decide +kernel⟩, TB_of (i := 1088) (by decide +kernel) rfl, TB_of (i := 1085) (by decide +kernel) rfl, TB_of (i := 1086) (by decide +kernel) rfl, TB_of (i := 1087) (by decide +kernel) rfl, TB_of (i := 69) (by decide +kernel) rfl⟩
theorem kL_23 : xLk RL 23 RX9 yX9_form cX9_form 5 (some .int) 3 := ⟨⟨rfl, by decide +kernel, by decide +kernel, by decide +kernel⟩, TB_of (i := 352) (by decide +kernel) rfl, TB_of (i := 349) (by decide +kernel) rfl, TB_of (i := 350) (by decide +kernel) rfl, TB_of (i := 351) (by decide +kernel) rfl, TB_of (i := 59) (by decide +kernel) rfl⟩
theorem kL_27 : xLk RL 27 RX10 yX10_form cX10_form 8 (some .int) 3 := ⟨⟨rfl, by decide +kernel, by decide +kernel, by decide +kernel⟩, TB_of (i := 1092) (by decide +kernel) rfl, TB_of (i := 1089) (by decide +kernel) rfl, TB_of (i := 1090) (by decide +kernel) rfl, TB_of (i := 1091) (by decide +kernel) rfl, TB_of (i := 69) (by decide +kernel) rfl⟩
theorem kL_28 : xLk RL 28 RX9 yX9_fault cX9_fault 2 (some .int) 1 := ⟨⟨rfl, by decide +kernel, by decide +kernel, by decide +kernel⟩, TB_of (i := 563) (by decide +kernel) rfl, TB_of (i := 560) (by decide +kernel) rfl, TB_of (i := 561) (by decide +kernel) rfl, TB_of (i := 562) (by decide +kernel) rfl, TB_of (i := 59) (by decide +kernel) rfl⟩
theorem kL_32 : xLk RL 32 RX10 yX10_fault cX10_fault 2 (some .int) 1 := ⟨⟨rfl, by decide +kernel, by decide +kernel, by decide +kernel⟩, TB_of (i := 1160) (by decide +kernel) rfl, TB_of (i := 1157) (by decide +kernel) rfl, TB_of (i := 1158) (by decide +kernel) rfl, TB_of (i := 1159) (by decide +kernel) rfl, TB_of (i := 69) (by decide +kernel) rfl⟩
theorem kL_33 : xLk RL 33 RX9 yX9_solid cX9_solid 4 (some .int) 3 := ⟨⟨rfl, by decide +kernel, by decide +kernel, by decide +kernel⟩, TB_of (i := 575) (by decide +kernel) rfl, TB_of (i := 572) (by decide +kernel) rfl, TB_of (i := 573) (by decide +kernel) rfl, TB_of (i := 574) (by decide +kernel) rfl, TB_of (i := 59) (by decide +kernel) rfl⟩
theorem kL_36 : xLk RL 36 RX10 yX10_solid cX10_solid 4 (some .int) 3 := ⟨⟨rfl, by decide +kernel, by decide +kernel, by decide +kernel⟩, TB_of (i := 1164) (by decide +kernel) rfl, TB_of (i := 1161) (by decide +kernel) rfl, TB_of (i := 1162) (by decide +kernel) rfl, TB_of (i := 1163) (by decide +kernel) rfl, TB_of (i := 69) (by decide +kernel) rfl⟩
theorem kL_37 : xLk RL 37 RX9 yX9_free cX9_free 5 (some .int) 3 := ⟨⟨rfl, by decide +kernel, by decide +kernel, by decide +kernel⟩, TB_of (i := 582) (by decide +kernel) rfl, TB_of (i := 579) (by decide +kernel) rfl, TB_of (i := 580) (by decide +kernel) rfl, TB_of (i := 581) (by decide +kernel) rfl, TB_of (i := 59) (by decide +kernel) rfl⟩
theorem kL_40 : xLk RL 40 RX10 yX10_free cX10_free 4 (some .int) 3 := ⟨⟨rfl, by decide +kernel, by decide +kernel, by decide +kernel⟩, TB_of (i := 1168) (by decide +kernel) rfl, TB_of (i := 1165) (by decide +kernel) rfl, TB_of (i := 1166) (by decide +kernel) rfl, TB_of (i := 1167) (by decide +kernel) rfl, TB_of (i := 69) (by decide +kernel) rfl⟩
theorem kL_41 : xLk RL 41 RX9 yX9_shut cX9_shut 1 (some .int) 0 := ⟨⟨rfl, by decide +kernel, by decide +kernel, by decide +kernel⟩, TB_of (i := 591) (by decide +kernel) rfl, TB_of (i := 588) (by decide +kernel) rfl, TB_of (i := 589) (by decide +kernel) rfl, TB_of (i := 590) (by decide +kernel) rfl, TB_of (i := 59) (by decide +kernel) rfl⟩
theorem kL_45 : xLk RL 45 RX10 yX10_shut cX10_shut 5 (some .int) 0 := ⟨⟨rfl, by decide +kernel, by decide +kernel, by decide +kernel⟩, TB_of (i := 1172) (by decide +kernel) rfl, TB_of (i := 1169) (by decide +kernel) rfl, TB_of (i := 1170) (by decide +kernel) rfl, TB_of (i := 1171) (by decide +kernel) rfl, TB_of (i := 69) (by decide +kernel) rfl⟩
theorem kL_46 : xLk RL 46 RX9 yX9_draw cX9_draw 1 (some .int) 0 := ⟨⟨rfl, by decide +kernel, by decide +kernel, by decide +kernel⟩, TB_of (i := 604) (by decide +kernel) rfl, TB_of (i := 601) (by decide +kernel) rfl, TB_of (i := 602) (by decide +kernel) rfl, TB_of (i := 603) (by decide +kernel) rfl, TB_of (i := 59) (by decide +kernel) rfl⟩
theorem kL_49 : xLk RL 49 RX10 yX10_draw cX10_draw 9 (some .int) 0 := ⟨⟨rfl, by decide +kernel, by decide +kernel, by decide +kernel⟩, TB_of (i := 1176) (by decide +kernel) rfl, TB_of (i := 1173) (by decide +kernel) rfl, TB_of (i := 1174) (by decide +kernel) rfl, TB_of (i := 1175) (by decide +kernel) rfl, TB_of (i := 69) (by decide +kernel) rfl⟩
theorem kL_50 : xLk RL 50 RX9 yX9_way cX9_way 2 (some .int) 1 := ⟨⟨rfl, by decide +kernel, by decide +kernel, by decide +kernel⟩, TB_of (i := 706) (by decide +kernel) rfl, TB_of (i := 703) (by decide +kernel) rfl, TB_of (i := 704) (by decide +kernel) rfl, TB_of (i := 705) (by decide +kernel) rfl, TB_of (i := 59) (by decide +kernel) rfl⟩
theorem kL_53 : xLk RL 53 RX10 yX10_way cX10_way 2 (some .int) 1 := ⟨⟨rfl, by decide +kernel, by decide +kernel, by decide +kernel⟩, TB_of (i := 1208) (by decide +kernel) rfl, TB_of (i := 1205) (by decide +kernel) rfl, TB_of (i := 1206) (by decide +kernel) rfl, TB_of (i := 1207) (by decide +kernel) rfl, TB_of (i := 69) (by decide +kernel) rfl⟩
theorem kL_54 : xLk RL 54 RX9 yX9_pieceAt cX9_pieceAt 5 (some .int) 3 := ⟨⟨rfl, by decide +kernel, by decide +kernel, by decide +kernel⟩, TB_of (i := 714) (by decide +kernel) rfl, TB_of (i := 711) (by decide +kernel) rfl, TB_of (i := 712) (by decide +kernel) rfl, TB_of (i := 713) (by decide +kernel) rfl, TB_of (i := 59) (by decide +kernel) rfl⟩
theorem kL_57 : xLk RL 57 RX10 yX10_pieceAt cX10_pieceAt 4 (some .int) 3 := ⟨⟨rfl, by decide +kernel, by decide +kernel, by decide +kernel⟩, TB_of (i := 1212) (by decide +kernel) rfl, TB_of (i := 1209) (by decide +kernel) rfl, TB_of (i := 1210) (by decide +kernel) rfl, TB_of (i := 1211) (by decide +kernel) rfl, TB_of (i := 69) (by decide +kernel) rfl⟩
theorem kL_58 : xLk RL 58 RX9 yX9_piece cX9_piece 3 (some .int) 2 := ⟨⟨rfl, by decide +kernel, by decide +kernel, by decide +kernel⟩, TB_of (i := 723) (by decide +kernel) rfl, TB_of (i := 720) (by decide +kernel) rfl, TB_of (i := 721) (by decide +kernel) rfl, TB_of (i := 722) (by decide +kernel) rfl, TB_of (i := 59) (by decide +kernel) rfl⟩
theorem kL_62 : xLk RL 62 RX10 yX10_piece cX10_piece 3 (some .int) 2 := ⟨⟨rfl, by decide +kernel, by decide +kernel, by decide +kernel⟩, TB_of (i := 1216) (by decide +kernel) rfl, TB_of (i := 1213) (by decide +kernel) rfl, TB_of (i := 1214) (by decide +kernel) rfl, TB_of (i := 1215) (by decide +kernel) rfl, TB_of (i := 69) (by decide +kernel) rfl⟩
theorem kL_63 : xLk RL 63 RX9 yX9_wear cX9_wear 3 (some .boolean) 2 := ⟨⟨rfl, by decide +kernel, by decide +kernel, by decide +kernel⟩, TB_of (i := 738) (by decide +kernel) rfl, TB_of (i := 735) (by decide +kernel) rfl, TB_of (i := 736) (by decide +kernel) rfl, TB_of (i := 737) (by decide +kernel) rfl, TB_of (i := 59) (by decide +kernel) rfl⟩
theorem kL_67 : xLk RL 67 RX10 yX10_wear cX10_wear 3 (some .boolean) 2 := ⟨⟨rfl, by decide +kernel, by decide +kernel, by decide +kernel⟩, TB_of (i := 1228) (by decide +kernel) rfl, TB_of (i := 1225) (by decide +kernel) rfl, TB_of (i := 1226) (by decide +kernel) rfl, TB_of (i := 1227) (by decide +kernel) rfl, TB_of (i := 69) (by decide +kernel) rfl⟩
theorem kL_68 : xLk RL 68 RX9 yX9_pour cX9_pour 2 (some .int) 1 := ⟨⟨rfl, by decide +kernel, by decide +kernel, by decide +kernel⟩, TB_of (i := 746) (by decide +kernel) rfl, TB_of (i := 743) (by decide +kernel) rfl, TB_of (i := 744) (by decide +kernel) rfl, TB_of (i := 745) (by decide +kernel) rfl, TB_of (i := 59) (by decide +kernel) rfl⟩
theorem kL_71 : xLk RL 71 RX10 yX10_pour cX10_pour 3 (some .int) 1 := ⟨⟨rfl, by decide +kernel, by decide +kernel, by decide +kernel⟩, TB_of (i := 1232) (by decide +kernel) rfl, TB_of (i := 1229) (by decide +kernel) rfl, TB_of (i := 1230) (by decide +kernel) rfl, TB_of (i := 1231) (by decide +kernel) rfl, TB_of (i := 69) (by decide +kernel) rfl⟩
theorem kL_72 : xLk RL 72 RX9 yX9_mend cX9_mend 2 (some .int) 1 := ⟨⟨rfl, by decide +kernel, by decide +kernel, by decide +kernel⟩, TB_of (i := 763) (by decide +kernel) rfl, TB_of (i := 760) (by decide +kernel) rfl, TB_of (i := 761) (by decide +kernel) rfl, TB_of (i := 762) (by decide +kernel) rfl, TB_of (i := 59) (by decide +kernel) rfl⟩
theorem kL_75 : xLk RL 75 RX10 yX10_mend cX10_mend 2 (some .int) 1 := ⟨⟨rfl, by decide +kernel, by decide +kernel, by decide +kernel⟩, TB_of (i := 1244) (by decide +kernel) rfl, TB_of (i := 1241) (by decide +kernel) rfl, TB_of (i := 1242) (by decide +kernel) rfl, TB_of (i := 1243) (by decide +kernel) rfl, TB_of (i := 69) (by decide +kernel) rfl⟩
theorem kL_76 : xLk RL 76 RX9 yX9_run cX9_run 2 (some .int) 1 := ⟨⟨rfl, by decide +kernel, by decide +kernel, by decide +kernel⟩, TB_of (i := 772) (by decide +kernel) rfl, TB_of (i := 769) (by decide +kernel) rfl, TB_of (i := 770) (by decide +kernel) rfl, TB_of (i := 771) (by decide +kernel) rfl, TB_of (i := 59) (by decide +kernel) rfl⟩
theorem kL_79 : xLk RL 79 RX10 yX10_run cX10_run 5 (some .int) 1 := ⟨⟨rfl, by decide +kernel, by decide +kernel, by decide +kernel⟩, TB_of (i := 1248) (by decide +kernel) rfl, TB_of (i := 1245) (by decide +kernel) rfl, TB_of (i := 1246) (by decide +kernel) rfl, TB_of (i := 1247) (by decide +kernel) rfl, TB_of (i := 69) (by decide +kernel) rfl⟩
theorem kL_80 : xLk RL 80 RX9 yX9_dry cX9_dry 2 (some .int) 1 := ⟨⟨rfl, by decide +kernel, by decide +kernel, by decide +kernel⟩, TB_of (i := 784) (by decide +kernel) rfl, TB_of (i := 781) (by decide +kernel) rfl, TB_of (i := 782) (by decide +kernel) rfl, TB_of (i := 783) (by decide +kernel) rfl, TB_of (i := 59) (by decide +kernel) rfl⟩
theorem kL_83 : xLk RL 83 RX10 yX10_dry cX10_dry 3 (some .int) 1 := ⟨⟨rfl, by decide +kernel, by decide +kernel, by decide +kernel⟩, TB_of (i := 1253) (by decide +kernel) rfl, TB_of (i := 1250) (by decide +kernel) rfl, TB_of (i := 1251) (by decide +kernel) rfl, TB_of (i := 1252) (by decide +kernel) rfl, TB_of (i := 69) (by decide +kernel) rfl⟩
theorem kL_84 : xLk RL 84 RX9 yX9_order cX9_order 4 (some .int) 3 := ⟨⟨rfl, by decide +kernel, by decide +kernel, by decide +kernel⟩, TB_of (i := 792) (by decide +kernel) rfl, TB_of (i := 789) (by decide +kernel) rfl, TB_of (i := 790) (by decide +kernel) rfl, TB_of (i := 791) (by decide +kernel) rfl, TB_of (i := 59) (by decide +kernel) rfl⟩
theorem kL_87 : xLk RL 87 RX10 yX10_order cX10_order 5 (some .int) 3 := ⟨⟨rfl, by decide +kernel, by decide +kernel, by decide +kernel⟩, TB_of (i := 1257) (by decide +kernel) rfl, TB_of (i := 1254) (by decide +kernel) rfl, TB_of (i := 1255) (by decide +kernel) rfl, TB_of (i := 1256) (by decide +kernel) rfl, TB_of (i := 69) (by decide +kernel) rfl⟩
theorem kL_88 : xLk RL 88 RX9 yX9_cancel cX9_cancel 2 (some .boolean) 1 := ⟨⟨rfl, by decide +kernel, by decide +kernel, by decide +kernel⟩, TB_of (i := 800) (by decide +kernel) rfl, TB_of (i := 797) (by decide +kernel) rfl, TB_of (i := 798) (by decide +kernel) rfl, TB_of (i := 799) (by decide +kernel) rfl, TB_of (i := 59) (by decide +kernel) rfl⟩
theorem kL_91 : xLk RL 91 RX10 yX10_cancel cX10_cancel 2 (some .boolean) 1 := ⟨⟨rfl, by decide +kernel, by decide +kernel, by decide +kernel⟩, TB_of (i := 1261) (by decide +kernel) rfl, TB_of (i := 1258) (by decide +kernel) rfl, TB_of (i := 1259) (by decide +kernel) rfl, TB_of (i := 1260) (by decide +kernel) rfl, TB_of (i := 69) (by decide +kernel) rfl⟩
theorem kL_92 : xLk RL 92 RX9 yX9_row cX9_row 1 (some .int) 0 := ⟨⟨rfl, by decide +kernel, by decide +kernel, by decide +kernel⟩, TB_of (i := 808) (by decide +kernel) rfl, TB_of (i := 805) (by decide +kernel) rfl, TB_of (i := 806) (by decide +kernel) rfl, TB_of (i := 807) (by decide +kernel) rfl, TB_of (i := 59) (by decide +kernel) rfl⟩
theorem kL_95 : xLk RL 95 RX10 yX10_row cX10_row 6 (some .int) 0 := ⟨⟨rfl, by decide +kernel, by decide +kernel, by decide +kernel⟩, TB_of (i := 1265) (by decide +kernel) rfl, TB_of (i := 1262) (by decide +kernel) rfl, TB_of (i := 1263) (by decide +kernel) rfl, TB_of (i := 1264) (by decide +kernel) rfl, TB_of (i := 69) (by decide +kernel) rfl⟩
theorem kL_96 : xLk RL 96 RX9 yX9_next cX9_next 2 (some .int) 1 := ⟨⟨rfl, by decide +kernel, by decide +kernel, by decide +kernel⟩, TB_of (i := 838) (by decide +kernel) rfl, TB_of (i := 835) (by decide +kernel) rfl, TB_of (i := 836) (by decide +kernel) rfl, TB_of (i := 837) (by decide +kernel) rfl, TB_of (i := 59) (by decide +kernel) rfl⟩
theorem kL_99 : xLk RL 99 RX10 yX10_next_ cX10_next_ 2 (some .int) 1 := ⟨⟨rfl, by decide +kernel, by decide +kernel, by decide +kernel⟩, TB_of (i := 1278) (by decide +kernel) rfl, TB_of (i := 1275) (by decide +kernel) rfl, TB_of (i := 1276) (by decide +kernel) rfl, TB_of (i := 1277) (by decide +kernel) rfl, TB_of (i := 69) (by decide +kernel) rfl⟩
theorem kL_100 : xLk RL 100 RX9 yX9_late cX9_late 2 (some .int) 1 := ⟨⟨rfl, by decide +kernel, by decide +kernel, by decide +kernel⟩, TB_of (i := 846) (by decide +kernel) rfl, TB_of (i := 843) (by decide +kernel) rfl, TB_of (i := 844) (by decide +kernel) rfl, TB_of (i := 845) (by decide +kernel) rfl, TB_of (i := 59) (by decide +kernel) rfl⟩
theorem kL_103 : xLk RL 103 RX10 yX10_late cX10_late 2 (some .int) 1 := ⟨⟨rfl, by decide +kernel, by decide +kernel, by decide +kernel⟩, TB_of (i := 1282) (by decide +kernel) rfl, TB_of (i := 1279) (by decide +kernel) rfl, TB_of (i := 1280) (by decide +kernel) rfl, TB_of (i := 1281) (by decide +kernel) rfl, TB_of (i := 69) (by decide +kernel) rfl⟩
theorem kL_104 : xLk RL 104 RX9 yX9_cast cX9_cast 4 (some .boolean) 3 := ⟨⟨rfl, by decide +kernel, by decide +kernel, by decide +kernel⟩, TB_of (i := 854) (by decide +kernel) rfl, TB_of (i := 851) (by decide +kernel) rfl, TB_of (i := 852) (by decide +kernel) rfl, TB_of (i := 853) (by decide +kernel) rfl, TB_of (i := 59) (by decide +kernel) rfl⟩
theorem kL_108 : xLk RL 108 RX10 yX10_cast cX10_cast 4 (some .boolean) 3 := ⟨⟨rfl, by decide +kernel, by decide +kernel, by decide +kernel⟩, TB_of (i := 1286) (by decide +kernel) rfl, TB_of (i := 1283) (by decide +kernel) rfl, TB_of (i := 1284) (by decide +kernel) rfl, TB_of (i := 1285) (by decide +kernel) rfl, TB_of (i := 69) (by decide +kernel) rfl⟩
theorem kL_109 : xLk RL 109 RX9 yX9_copies cX9_copies 4 (some .boolean) 3 := ⟨⟨rfl, by decide +kernel, by decide +kernel, by decide +kernel⟩, TB_of (i := 863) (by decide +kernel) rfl, TB_of (i := 860) (by decide +kernel) rfl, TB_of (i := 861) (by decide +kernel) rfl, TB_of (i := 862) (by decide +kernel) rfl, TB_of (i := 59) (by decide +kernel) rfl⟩
theorem kL_112 : xLk RL 112 RX10 yX10_copies cX10_copies 4 (some .boolean) 3 := ⟨⟨rfl, by decide +kernel, by decide +kernel, by decide +kernel⟩, TB_of (i := 1291) (by decide +kernel) rfl, TB_of (i := 1288) (by decide +kernel) rfl, TB_of (i := 1289) (by decide +kernel) rfl, TB_of (i := 1290) (by decide +kernel) rfl, TB_of (i := 69) (by decide +kernel) rfl⟩
theorem kL_113 : xLk RL 113 RX9 yX9_mother cX9_mother 3 (some .int) 1 := ⟨⟨rfl, by decide +kernel, by decide +kernel, by decide +kernel⟩, TB_of (i := 871) (by decide +kernel) rfl, TB_of (i := 868) (by decide +kernel) rfl, TB_of (i := 869) (by decide +kernel) rfl, TB_of (i := 870) (by decide +kernel) rfl, TB_of (i := 59) (by decide +kernel) rfl⟩
theorem kL_116 : xLk RL 116 RX10 yX10_mother cX10_mother 4 (some .int) 1 := ⟨⟨rfl, by decide +kernel, by decide +kernel, by decide +kernel⟩, TB_of (i := 1295) (by decide +kernel) rfl, TB_of (i := 1292) (by decide +kernel) rfl, TB_of (i := 1293) (by decide +kernel) rfl, TB_of (i := 1294) (by decide +kernel) rfl, TB_of (i := 69) (by decide +kernel) rfl⟩
theorem kL_117 : xLk RL 117 RX9 yX9_steps cX9_steps 2 (some .int) 1 := ⟨⟨rfl, by decide +kernel, by decide +kernel, by decide +kernel⟩, TB_of (i := 895) (by decide +kernel) rfl, TB_of (i := 892) (by decide +kernel) rfl, TB_of (i := 893) (by decide +kernel) rfl, TB_of (i := 894) (by decide +kernel) rfl, TB_of (i := 59) (by decide +kernel) rfl⟩
theorem kL_120 : xLk RL 120 RX10 yX10_steps cX10_steps 4 (some .int) 1 := ⟨⟨rfl, by decide +kernel, by decide +kernel, by decide +kernel⟩, TB_of (i := 1310) (by decide +kernel) rfl, TB_of (i := 1307) (by decide +kernel) rfl, TB_of (i := 1308) (by decide +kernel) rfl, TB_of (i := 1309) (by decide +kernel) rfl, TB_of (i := 69) (by decide +kernel) rfl⟩
theorem kL_121 : xLk RL 121 RX9 yX9_told cX9_told 2 (some .int) 1 := ⟨⟨rfl, by decide +kernel, by decide +kernel, by decide +kernel⟩, TB_of (i := 904) (by decide +kernel) rfl, TB_of (i := 901) (by decide +kernel) rfl, TB_of (i := 902) (by decide +kernel) rfl, TB_of (i := 903) (by decide +kernel) rfl, TB_of (i := 59) (by decide +kernel) rfl⟩
theorem kL_124 : xLk RL 124 RX10 yX10_told cX10_told 5 (some .int) 1 := ⟨⟨rfl, by decide +kernel, by decide +kernel, by decide +kernel⟩, TB_of (i := 1315) (by decide +kernel) rfl, TB_of (i := 1312) (by decide +kernel) rfl, TB_of (i := 1313) (by decide +kernel) rfl, TB_of (i := 1314) (by decide +kernel) rfl, TB_of (i := 69) (by decide +kernel) rfl⟩
theorem kX10_133 : xLk RX10 133 RX10 yX10_next cX10_next 1 (some .int) 0 := ⟨⟨rfl, by decide +kernel, by decide +kernel, by decide +kernel⟩, TB_of (i := 1103) (by decide +kernel) rfl, TB_of (i := 1100) (by decide +kernel) rfl, TB_of (i := 1102) (by decide +kernel) rfl, TB_of (i := 35) (by decide +kernel) rfl, TB_of (i := 69) (by decide +kernel) rfl⟩
theorem kX10_137 : xLs RX10 137 yX10_isDigit cX10_isDigit 1 (some .boolean) 1 := ⟨⟨by decide +kernel, by decide +kernel, by decide +kernel⟩, TB_of (i := 1121) (by decide +kernel) rfl, TB_of (i := 1119) (by decide +kernel) rfl, TB_of (i := 1120) (by decide +kernel) rfl, TB_of (i := 69) (by decide +kernel) rfl⟩
theorem kX10_144 : xLk RX10 144 RX10 yX10_fail cX10_fail 3 none 2 := ⟨⟨rfl, by decide +kernel, by decide +kernel, by decide +kernel⟩, TB_of (i := 1125) (by decide +kernel) rfl, TB_of (i := 1122) (by decide +kernel) rfl, TB_of (i := 1124) (by decide +kernel) rfl, TB_of (i := 39) (by decide +kernel) rfl, TB_of (i := 69) (by decide +kernel) rfl⟩
theorem kX10_148 : xLs RX10 148 yX10_isLetter cX10_isLetter 1 (some .boolean) 1 := ⟨⟨by decide +kernel, by decide +kernel, by decide +kernel⟩, TB_of (i := 1110) (by decide +kernel) rfl, TB_of (i := 1108) (by decide +kernel) rfl, TB_of (i := 1109) (by decide +kernel) rfl, TB_of (i := 69) (by decide +kernel) rfl⟩
theorem kX10_151 : xLk RX10 151 RX10 yX10_number cX10_number 3 (some .int) 1 := ⟨⟨rfl, by decide +kernel, by decide +kernel, by decide +kernel⟩, TB_of (i := 1118) (by decide +kernel) rfl, TB_of (i := 1115) (by decide +kernel) rfl, TB_of (i := 1117) (by decide +kernel) rfl, TB_of (i := 38) (by decide +kernel) rfl, TB_of (i := 69) (by decide +kernel) rfl⟩
theorem kX10_164 : xLs RX10 164 yX10_cell cX10_cell 3 (some .int) 3 := ⟨⟨by decide +kernel, by decide +kernel, by decide +kernel⟩, TB_of (i := 1128) (by decide +kernel) rfl, TB_of (i := 1126) (by decide +kernel) rfl, TB_of (i := 1127) (by decide +kernel) rfl, TB_of (i := 69) (by decide +kernel) rfl⟩
theorem kX10_168 : xLk RX10 168 RX10 yX10_isWord cX10_isWord 4 (some .boolean) 1 := ⟨⟨rfl, by decide +kernel, by decide +kernel, by decide +kernel⟩, TB_of (i := 1107) (by decide +kernel) rfl, TB_of (i := 1104) (by decide +kernel) rfl, TB_of (i := 1106) (by decide +kernel) rfl, TB_of (i := 36) (by decide +kernel) rfl, TB_of (i := 69) (by decide +kernel) rfl⟩
theorem kX10_172 : xLk RX10 172 RX10 yX10_boxes cX10_boxes 5 none 1 := ⟨⟨rfl, by decide +kernel, by decide +kernel, by decide +kernel⟩, TB_of (i := 1114) (by decide +kernel) rfl, TB_of (i := 1111) (by decide +kernel) rfl, TB_of (i := 1113) (by decide +kernel) rfl, TB_of (i := 37) (by decide +kernel) rfl, TB_of (i := 69) (by decide +kernel) rfl⟩
theorem kX10_176 : xLk RX10 176 RX10 yX10_mirrors cX10_mirrors 5 none 0 := ⟨⟨rfl, by decide +kernel, by decide +kernel, by decide +kernel⟩, TB_of (i := 1132) (by decide +kernel) rfl, TB_of (i := 1129) (by decide +kernel) rfl, TB_of (i := 1131) (by decide +kernel) rfl, TB_of (i := 40) (by decide +kernel) rfl, TB_of (i := 69) (by decide +kernel) rfl⟩
theorem kX10_179 : xLk RX10 179 RX10 yX10_turns cX10_turns 5 none 1 := ⟨⟨rfl, by decide +kernel, by decide +kernel, by decide +kernel⟩, TB_of (i := 1136) (by decide +kernel) rfl, TB_of (i := 1133) (by decide +kernel) rfl, TB_of (i := 1135) (by decide +kernel) rfl, TB_of (i := 41) (by decide +kernel) rfl, TB_of (i := 69) (by decide +kernel) rfl⟩
theorem kX10_196 : xLs RX10 196 yX10_isIn cX10_isIn 3 (some .boolean) 3 := ⟨⟨by decide +kernel, by decide +kernel, by decide +kernel⟩, TB_of (i := 1095) (by decide +kernel) rfl, TB_of (i := 1093) (by decide +kernel) rfl, TB_of (i := 1094) (by decide +kernel) rfl, TB_of (i := 69) (by decide +kernel) rfl⟩
theorem kX10_200 : xLk RX10 200 RX10 yX10_reads cX10_reads 2 none 0 := ⟨⟨rfl, by decide +kernel, by decide +kernel, by decide +kernel⟩, TB_of (i := 1099) (by decide +kernel) rfl, TB_of (i := 1096) (by decide +kernel) rfl, TB_of (i := 1098) (by decide +kernel) rfl, TB_of (i := 34) (by decide +kernel) rfl, TB_of (i := 69) (by decide +kernel) rfl⟩
theorem kX10_209 : xLs RX10 209 yX10_place cX10_place 3 (some .int) 3 := ⟨⟨by decide +kernel, by decide +kernel, by decide +kernel⟩, TB_of (i := 1139) (by decide +kernel) rfl, TB_of (i := 1137) (by decide +kernel) rfl, TB_of (i := 1138) (by decide +kernel) rfl, TB_of (i := 69) (by decide +kernel) rfl⟩
theorem kX10_212 : xLk RX10 212 RX10 yX10_waysOf cX10_waysOf 10 (some .int) 3 := ⟨⟨rfl, by decide +kernel, by decide +kernel, by decide +kernel⟩, TB_of (i := 1143) (by decide +kernel) rfl, TB_of (i := 1140) (by decide +kernel) rfl, TB_of (i := 1142) (by decide +kernel) rfl, TB_of (i := 42) (by decide +kernel) rfl, TB_of (i := 69) (by decide +kernel) rfl⟩
theorem kX10_215 : xLk RX10 215 RX10 yX10_isMould cX10_isMould 4 (some .boolean) 3 := ⟨⟨rfl, by decide +kernel, by decide +kernel, by decide +kernel⟩, TB_of (i := 1147) (by decide +kernel) rfl, TB_of (i := 1144) (by decide +kernel) rfl, TB_of (i := 1146) (by decide +kernel) rfl, TB_of (i := 43) (by decide +kernel) rfl, TB_of (i := 69) (by decide +kernel) rfl⟩
theorem kX10_218 : xLs RX10 218 yX10_stepX cX10_stepX 1 (some .int) 1 := ⟨⟨by decide +kernel, by decide +kernel, by decide +kernel⟩, TB_of (i := 1150) (by decide +kernel) rfl, TB_of (i := 1148) (by decide +kernel) rfl, TB_of (i := 1149) (by decide +kernel) rfl, TB_of (i := 69) (by decide +kernel) rfl⟩
theorem kX10_221 : xLs RX10 221 yX10_stepY cX10_stepY 1 (some .int) 1 := ⟨⟨by decide +kernel, by decide +kernel, by decide +kernel⟩, TB_of (i := 1153) (by decide +kernel) rfl, TB_of (i := 1151) (by decide +kernel) rfl, TB_of (i := 1152) (by decide +kernel) rfl, TB_of (i := 69) (by decide +kernel) rfl⟩
theorem kX10_224 : xLs RX10 224 yX10_stepZ cX10_stepZ 1 (some .int) 1 := ⟨⟨by decide +kernel, by decide +kernel, by decide +kernel⟩, TB_of (i := 1156) (by decide +kernel) rfl, TB_of (i := 1154) (by decide +kernel) rfl, TB_of (i := 1155) (by decide +kernel) rfl, TB_of (i := 69) (by decide +kernel) rfl⟩
theorem kX10_230 : xLk RX10 230 RX10 yX10_belongs cX10_belongs 5 (some .int) 3 := ⟨⟨rfl, by decide +kernel, by decide +kernel, by decide +kernel⟩, TB_of (i := 1196) (by decide +kernel) rfl, TB_of (i := 1193) (by decide +kernel) rfl, TB_of (i := 1195) (by decide +kernel) rfl, TB_of (i := 47) (by decide +kernel) rfl, TB_of (i := 69) (by decide +kernel) rfl⟩
theorem kX10_234 : xLk RX10 234 RX10 yX10_hangs cX10_hangs 15 none 4 := ⟨⟨rfl, by decide +kernel, by decide +kernel, by decide +kernel⟩, TB_of (i := 1200) (by decide +kernel) rfl, TB_of (i := 1197) (by decide +kernel) rfl, TB_of (i := 1199) (by decide +kernel) rfl, TB_of (i := 48) (by decide +kernel) rfl, TB_of (i := 69) (by decide +kernel) rfl⟩
theorem kX10_238 : xLk RX10 238 RX10 yX10_touches cX10_touches 5 (some .boolean) 3 := ⟨⟨rfl, by decide +kernel, by decide +kernel, by decide +kernel⟩, TB_of (i := 1204) (by decide +kernel) rfl, TB_of (i := 1201) (by decide +kernel) rfl, TB_of (i := 1203) (by decide +kernel) rfl, TB_of (i := 49) (by decide +kernel) rfl, TB_of (i := 69) (by decide +kernel) rfl⟩
theorem kX10_241 : xLs RX10 241 yX10_ones cX10_ones 3 (some .int) 1 := ⟨⟨by decide +kernel, by decide +kernel, by decide +kernel⟩, TB_of (i := 1183) (by decide +kernel) rfl, TB_of (i := 1181) (by decide +kernel) rfl, TB_of (i := 1182) (by decide +kernel) rfl, TB_of (i := 69) (by decide +kernel) rfl⟩
theorem kX10_244 : xLk RX10 244 RX10 yX10_covers cX10_covers 5 (some .boolean) 1 := ⟨⟨rfl, by decide +kernel, by decide +kernel, by decide +kernel⟩, TB_of (i := 1187) (by decide +kernel) rfl, TB_of (i := 1184) (by decide +kernel) rfl, TB_of (i := 1186) (by decide +kernel) rfl, TB_of (i := 45) (by decide +kernel) rfl, TB_of (i := 69) (by decide +kernel) rfl⟩
theorem kX10_247 : xLk RX10 247 RX10 yX10_fewest cX10_fewest 3 (some .int) 0 := ⟨⟨rfl, by decide +kernel, by decide +kernel, by decide +kernel⟩, TB_of (i := 1180) (by decide +kernel) rfl, TB_of (i := 1177) (by decide +kernel) rfl, TB_of (i := 1179) (by decide +kernel) rfl, TB_of (i := 44) (by decide +kernel) rfl, TB_of (i := 69) (by decide +kernel) rfl⟩
theorem kX10_251 : xLk RX10 251 RX10 yX10_parts cX10_parts 8 (some .int) 2 := ⟨⟨rfl, by decide +kernel, by decide +kernel, by decide +kernel⟩, TB_of (i := 1192) (by decide +kernel) rfl, TB_of (i := 1189) (by decide +kernel) rfl, TB_of (i := 1191) (by decide +kernel) rfl, TB_of (i := 46) (by decide +kernel) rfl, TB_of (i := 69) (by decide +kernel) rfl⟩
theorem kX10_258 : xLk RX10 258 RX10 yX10_isPiece cX10_isPiece 2 (some .boolean) 1 := ⟨⟨rfl, by decide +kernel, by decide +kernel, by decide +kernel⟩, TB_of (i := 1220) (by decide +kernel) rfl, TB_of (i := 1217) (by decide +kernel) rfl, TB_of (i := 1219) (by decide +kernel) rfl, TB_of (i := 50) (by decide +kernel) rfl, TB_of (i := 69) (by decide +kernel) rfl⟩
theorem kX10_261 : xLk RX10 261 RX10 yX10_bears cX10_bears 2 (some .int) 1 := ⟨⟨rfl, by decide +kernel, by decide +kernel, by decide +kernel⟩, TB_of (i := 1224) (by decide +kernel) rfl, TB_of (i := 1221) (by decide +kernel) rfl, TB_of (i := 1223) (by decide +kernel) rfl, TB_of (i := 51) (by decide +kernel) rfl, TB_of (i := 69) (by decide +kernel) rfl⟩
theorem kX10_264 : xLk RX10 264 RX10 yX10_isBorne cX10_isBorne 2 (some .boolean) 0 := ⟨⟨rfl, by decide +kernel, by decide +kernel, by decide +kernel⟩, TB_of (i := 1236) (by decide +kernel) rfl, TB_of (i := 1233) (by decide +kernel) rfl, TB_of (i := 1235) (by decide +kernel) rfl, TB_of (i := 52) (by decide +kernel) rfl, TB_of (i := 69) (by decide +kernel) rfl⟩
theorem kX10_268 : xLk RX10 268 RX10 yX10_pours cX10_pours 2 none 0 := ⟨⟨rfl, by decide +kernel, by decide +kernel, by decide +kernel⟩, TB_of (i := 1240) (by decide +kernel) rfl, TB_of (i := 1237) (by decide +kernel) rfl, TB_of (i := 1239) (by decide +kernel) rfl, TB_of (i := 53) (by decide +kernel) rfl, TB_of (i := 69) (by decide +kernel) rfl⟩
theorem kX10_271 : xLk RX10 271 RX10 yX10_mend cX10_mend 2 (some .int) 1 := ⟨⟨rfl, by decide +kernel, by decide +kernel, by decide +kernel⟩, TB_of (i := 1244) (by decide +kernel) rfl, TB_of (i := 1249) (by decide +kernel) rfl, TB_of (i := 1242) (by decide +kernel) rfl, TB_of (i := 1243) (by decide +kernel) rfl, TB_of (i := 69) (by decide +kernel) rfl⟩
theorem kX10_274 : xLk RX10 274 RX10 yX10_poursOf cX10_poursOf 4 (some .int) 1 := ⟨⟨rfl, by decide +kernel, by decide +kernel, by decide +kernel⟩, TB_of (i := 1274) (by decide +kernel) rfl, TB_of (i := 1271) (by decide +kernel) rfl, TB_of (i := 1273) (by decide +kernel) rfl, TB_of (i := 55) (by decide +kernel) rfl, TB_of (i := 69) (by decide +kernel) rfl⟩
theorem kX10_278 : xLk RX10 278 RX10 yX10_lateOf cX10_lateOf 4 (some .int) 2 := ⟨⟨rfl, by decide +kernel, by decide +kernel, by decide +kernel⟩, TB_of (i := 1270) (by decide +kernel) rfl, TB_of (i := 1267) (by decide +kernel) rfl, TB_of (i := 1269) (by decide +kernel) rfl, TB_of (i := 54) (by decide +kernel) rfl, TB_of (i := 69) (by decide +kernel) rfl⟩
theorem kX10_286 : xLs RX10 286 yX10_far cX10_far 2 (some .int) 2 := ⟨⟨by decide +kernel, by decide +kernel, by decide +kernel⟩, TB_of (i := 1306) (by decide +kernel) rfl, TB_of (i := 1304) (by decide +kernel) rfl, TB_of (i := 1305) (by decide +kernel) rfl, TB_of (i := 69) (by decide +kernel) rfl⟩
theorem kX10_289 : xLk RX10 289 RX10 yX10_isCast cX10_isCast 2 (some .boolean) 1 := ⟨⟨rfl, by decide +kernel, by decide +kernel, by decide +kernel⟩, TB_of (i := 1299) (by decide +kernel) rfl, TB_of (i := 1296) (by decide +kernel) rfl, TB_of (i := 1298) (by decide +kernel) rfl, TB_of (i := 56) (by decide +kernel) rfl, TB_of (i := 69) (by decide +kernel) rfl⟩
theorem kX10_292 : xLk RX10 292 RX10 yX10_quarrel cX10_quarrel 3 (some .int) 2 := ⟨⟨rfl, by decide +kernel, by decide +kernel, by decide +kernel⟩, TB_of (i := 1303) (by decide +kernel) rfl, TB_of (i := 1300) (by decide +kernel) rfl, TB_of (i := 1302) (by decide +kernel) rfl, TB_of (i := 57) (by decide +kernel) rfl, TB_of (i := 69) (by decide +kernel) rfl⟩
theorem kX10_295 : xLk RX10 295 RX10 yX10_mother cX10_mother 4 (some .int) 1 := ⟨⟨rfl, by decide +kernel, by decide +kernel, by decide +kernel⟩, TB_of (i := 1295) (by decide +kernel) rfl, TB_of (i := 1311) (by decide +kernel) rfl, TB_of (i := 1293) (by decide +kernel) rfl, TB_of (i := 1294) (by decide +kernel) rfl, TB_of (i := 69) (by decide +kernel) rfl⟩
theorem kJ0_335 : xLk RJ0 335 RJ0 yJ0_coder_7d493 cJ0_coder_7d493 1 (some .byte) 0 := ⟨⟨rfl, by decide +kernel, by decide +kernel, by decide +kernel⟩, TB_of (i := 395) (by decide +kernel) rfl, TB_of (i := 392) (by decide +kernel) rfl, TB_of (i := 393) (by decide +kernel) rfl, TB_of (i := 394) (by decide +kernel) rfl, TB_of (i := 71) (by decide +kernel) rfl⟩
theorem kJ0_492 : xLk RJ0 492 RJ0 yJ0_isLatin1_aae02 cJ0_isLatin1_aae02 1 (some .boolean) 0 := ⟨⟨rfl, by decide +kernel, by decide +kernel, by decide +kernel⟩, TB_of (i := 405) (by decide +kernel) rfl, TB_of (i := 402) (by decide +kernel) rfl, TB_of (i := 403) (by decide +kernel) rfl, TB_of (i := 404) (by decide +kernel) rfl, TB_of (i := 71) (by decide +kernel) rfl⟩
theorem kJ0_495 : xLs RJ0 495 yJ1_charAt_3b067 cJ1_charAt_3b067 2 (some .char) 2 := ⟨⟨by decide +kernel, by decide +kernel, by decide +kernel⟩, TB_of (i := 408) (by decide +kernel) rfl, TB_of (i := 406) (by decide +kernel) rfl, TB_of (i := 407) (by decide +kernel) rfl, TB_of (i := 72) (by decide +kernel) rfl⟩
theorem kJ0_498 : xLs RJ0 498 yJ2_charAt_3b067 cJ2_charAt_3b067 2 (some .char) 2 := ⟨⟨by decide +kernel, by decide +kernel, by decide +kernel⟩, TB_of (i := 419) (by decide +kernel) rfl, TB_of (i := 417) (by decide +kernel) rfl, TB_of (i := 418) (by decide +kernel) rfl, TB_of (i := 74) (by decide +kernel) rfl⟩
theorem kJ0_1059 : xLs RJ0 1059 yJ3_checkIndex_8e157 cJ3_checkIndex_8e157 3 (some .int) 3 := ⟨⟨by decide +kernel, by decide +kernel, by decide +kernel⟩, TB_of (i := 416) (by decide +kernel) rfl, TB_of (i := 414) (by decide +kernel) rfl, TB_of (i := 415) (by decide +kernel) rfl, TB_of (i := 73) (by decide +kernel) rfl⟩
theorem kJ1_9 : xLs RJ1 9 yJ0_checkIndex_df160 cJ0_checkIndex_df160 2 none 2 := ⟨⟨by decide +kernel, by decide +kernel, by decide +kernel⟩, TB_of (i := 411) (by decide +kernel) rfl, TB_of (i := 409) (by decide +kernel) rfl, TB_of (i := 410) (by decide +kernel) rfl, TB_of (i := 71) (by decide +kernel) rfl⟩
theorem kJ2_48 : xLs RJ2 48 yJ2_length_9d52b cJ2_length_9d52b 1 (some .int) 1 := ⟨⟨by decide +kernel, by decide +kernel, by decide +kernel⟩, TB_of (i := 425) (by decide +kernel) rfl, TB_of (i := 423) (by decide +kernel) rfl, TB_of (i := 424) (by decide +kernel) rfl, TB_of (i := 74) (by decide +kernel) rfl⟩
theorem kJ2_67 : xLs RJ2 67 yJ2_checkIndex_2214a cJ2_checkIndex_2214a 2 none 2 := ⟨⟨by decide +kernel, by decide +kernel, by decide +kernel⟩, TB_of (i := 422) (by decide +kernel) rfl, TB_of (i := 420) (by decide +kernel) rfl, TB_of (i := 421) (by decide +kernel) rfl, TB_of (i := 74) (by decide +kernel) rfl⟩
theorem kJ2_71 : xLs RJ2 71 yJ2_getChar_3b067 cJ2_getChar_3b067 2 (some .char) 2 := ⟨⟨by decide +kernel, by decide +kernel, by decide +kernel⟩, TB_of (i := 429) (by decide +kernel) rfl, TB_of (i := 427) (by decide +kernel) rfl, TB_of (i := 428) (by decide +kernel) rfl, TB_of (i := 74) (by decide +kernel) rfl⟩
theorem kJ2_414 : xLs RJ2 414 yJ0_checkIndex_df160 cJ0_checkIndex_df160 2 none 2 := ⟨⟨by decide +kernel, by decide +kernel, by decide +kernel⟩, TB_of (i := 411) (by decide +kernel) rfl, TB_of (i := 426) (by decide +kernel) rfl, TB_of (i := 410) (by decide +kernel) rfl, TB_of (i := 71) (by decide +kernel) rfl⟩
theorem kX0_38 : Cond.methodLink RX0 38 Lib.Math.min.name ∈ TB ∧ Cond.static Lib.Math.min.name ∈ TB ∧ Cond.initialized "java/lang/Math" ∈ TB ∧ Cond.code Lib.Math.min.name Lib.Math.min.code 2 (some .int) ∈ TB := ⟨TB_of (i := 459) (by decide +kernel) rfl, TB_of (i := 460) (by decide +kernel) rfl, TB_of (i := 75) (by decide +kernel) rfl, TB_of (i := 461) (by decide +kernel) rfl⟩
theorem kX2_45 : Cond.methodLink RX2 45 Lib.Math.abs.name ∈ TB ∧ Cond.static Lib.Math.abs.name ∈ TB ∧ Cond.initialized "java/lang/Math" ∈ TB ∧ Cond.code Lib.Math.abs.name Lib.Math.abs.code 1 (some .int) ∈ TB := ⟨TB_of (i := 889) (by decide +kernel) rfl, TB_of (i := 890) (by decide +kernel) rfl, TB_of (i := 75) (by decide +kernel) rfl, TB_of (i := 891) (by decide +kernel) rfl⟩
theorem kX4_61 : Cond.methodLink RX4 61 Lib.Math.max.name ∈ TB ∧ Cond.static Lib.Math.max.name ∈ TB ∧ Cond.initialized "java/lang/Math" ∈ TB ∧ Cond.code Lib.Math.max.name Lib.Math.max.code 2 (some .int) ∈ TB := ⟨TB_of (i := 830) (by decide +kernel) rfl, TB_of (i := 733) (by decide +kernel) rfl, TB_of (i := 75) (by decide +kernel) rfl, TB_of (i := 734) (by decide +kernel) rfl⟩
theorem kX6_70 : Cond.methodLink RX6 70 Lib.Math.min.name ∈ TB ∧ Cond.static Lib.Math.min.name ∈ TB ∧ Cond.initialized "java/lang/Math" ∈ TB ∧ Cond.code Lib.Math.min.name Lib.Math.min.code 2 (some .int) ∈ TB := ⟨TB_of (i := 759) (by decide +kernel) rfl, TB_of (i := 460) (by decide +kernel) rfl, TB_of (i := 75) (by decide +kernel) rfl, TB_of (i := 461) (by decide +kernel) rfl⟩
theorem kX6_79 : Cond.methodLink RX6 79 Lib.Math.max.name ∈ TB ∧ Cond.static Lib.Math.max.name ∈ TB ∧ Cond.initialized "java/lang/Math" ∈ TB ∧ Cond.code Lib.Math.max.name Lib.Math.max.code 2 (some .int) ∈ TB := ⟨TB_of (i := 732) (by decide +kernel) rfl, TB_of (i := 733) (by decide +kernel) rfl, TB_of (i := 75) (by decide +kernel) rfl, TB_of (i := 734) (by decide +kernel) rfl⟩
theorem qX1_101 : Cond.constant RX1 101 (1000000 : Int32) ∈ TB := TB_of (i := 646) (by decide +kernel) rfl
theorem qX2_28 : Cond.constant RX2 28 (100000 : Int32) ∈ TB := TB_of (i := 859) (by decide +kernel) rfl
theorem qX4_56 : Cond.constant RX4 56 (1000000 : Int32) ∈ TB := TB_of (i := 825) (by decide +kernel) rfl
theorem qX10_250 : Cond.constant RX10 250 (1000000 : Int32) ∈ TB := TB_of (i := 1188) (by decide +kernel) rfl
theorem qX10_277 : Cond.constant RX10 277 (1000000000 : Int32) ∈ TB := TB_of (i := 1266) (by decide +kernel) rfl
theorem qX10_285 : Cond.constant RX10 285 (100000 : Int32) ∈ TB := TB_of (i := 1287) (by decide +kernel) rfl
theorem qJ6_265 : Cond.constant RJ6 265 (1431655765 : Int32) ∈ TB := TB_of (i := 635) (by decide +kernel) rfl
theorem qJ6_266 : Cond.constant RJ6 266 (858993459 : Int32) ∈ TB := TB_of (i := 636) (by decide +kernel) rfl
theorem qJ6_267 : Cond.constant RJ6 267 (252645135 : Int32) ∈ TB := TB_of (i := 637) (by decide +kernel) rfl
end
section
set_option maxRecDepth 20000 in
theorem inX0 : ∀ w ∈ u_ws RX0 TX0 5, w ∈ TB := by
  rw [show u_ws RX0 TX0 5 = [u_lay RX0 TX0 0, u_lay RX0 TX0 1, u_lay RX0 TX0 2, u_lay RX0 TX0 3, u_lay RX0 TX0 4] from rfl]
  exact List.forall_mem_cons.mpr ⟨TB_of (i := 136) (by decide +kernel) rfl, List.forall_mem_cons.mpr ⟨TB_of (i := 138) (by decide +kernel) rfl, List.forall_mem_cons.mpr ⟨TB_of (i := 140) (by decide +kernel) rfl, List.forall_mem_cons.mpr ⟨TB_of (i := 142) (by decide +kernel) rfl, List.forall_mem_cons.mpr ⟨TB_of (i := 144) (by decide +kernel) rfl, fun _ h => absurd h List.not_mem_nil⟩⟩⟩⟩⟩
set_option maxRecDepth 20000 in
theorem inX1 : ∀ w ∈ u_ws RX1 TX1 8, w ∈ TB := by
  rw [show u_ws RX1 TX1 8 = [u_lay RX1 TX1 0, u_lay RX1 TX1 1, u_lay RX1 TX1 2, u_lay RX1 TX1 3, u_lay RX1 TX1 4, u_lay RX1 TX1 5, u_lay RX1 TX1 6, u_lay RX1 TX1 7] from rfl]
  exact List.forall_mem_cons.mpr ⟨TB_of (i := 224) (by decide +kernel) rfl, List.forall_mem_cons.mpr ⟨TB_of (i := 226) (by decide +kernel) rfl, List.forall_mem_cons.mpr ⟨TB_of (i := 228) (by decide +kernel) rfl, List.forall_mem_cons.mpr ⟨TB_of (i := 230) (by decide +kernel) rfl, List.forall_mem_cons.mpr ⟨TB_of (i := 232) (by decide +kernel) rfl, List.forall_mem_cons.mpr ⟨TB_of (i := 234) (by decide +kernel) rfl, List.forall_mem_cons.mpr ⟨TB_of (i := 236) (by decide +kernel) rfl, List.forall_mem_cons.mpr ⟨TB_of (i := 238) (by decide +kernel) rfl, fun _ h => absurd h List.not_mem_nil⟩⟩⟩⟩⟩⟩⟩⟩
set_option maxRecDepth 20000 in
theorem inX2 : ∀ w ∈ u_ws RX2 TX2 5, w ∈ TB := by
  rw [show u_ws RX2 TX2 5 = [u_lay RX2 TX2 0, u_lay RX2 TX2 1, u_lay RX2 TX2 2, u_lay RX2 TX2 3, u_lay RX2 TX2 4] from rfl]
  exact List.forall_mem_cons.mpr ⟨TB_of (i := 286) (by decide +kernel) rfl, List.forall_mem_cons.mpr ⟨TB_of (i := 288) (by decide +kernel) rfl, List.forall_mem_cons.mpr ⟨TB_of (i := 290) (by decide +kernel) rfl, List.forall_mem_cons.mpr ⟨TB_of (i := 292) (by decide +kernel) rfl, List.forall_mem_cons.mpr ⟨TB_of (i := 294) (by decide +kernel) rfl, fun _ h => absurd h List.not_mem_nil⟩⟩⟩⟩⟩
set_option maxRecDepth 20000 in
theorem inX3 : ∀ w ∈ u_ws RX3 TX3 4, w ∈ TB := by
  rw [show u_ws RX3 TX3 4 = [u_lay RX3 TX3 0, u_lay RX3 TX3 1, u_lay RX3 TX3 2, u_lay RX3 TX3 3] from rfl]
  exact List.forall_mem_cons.mpr ⟨TB_of (i := 157) (by decide +kernel) rfl, List.forall_mem_cons.mpr ⟨TB_of (i := 159) (by decide +kernel) rfl, List.forall_mem_cons.mpr ⟨TB_of (i := 161) (by decide +kernel) rfl, List.forall_mem_cons.mpr ⟨TB_of (i := 163) (by decide +kernel) rfl, fun _ h => absurd h List.not_mem_nil⟩⟩⟩⟩
set_option maxRecDepth 20000 in
theorem inX4 : ∀ w ∈ u_ws RX4 TX4 9, w ∈ TB := by
  rw [show u_ws RX4 TX4 9 = [u_lay RX4 TX4 0, u_lay RX4 TX4 1, u_lay RX4 TX4 2, u_lay RX4 TX4 3, u_lay RX4 TX4 4, u_lay RX4 TX4 5, u_lay RX4 TX4 6, u_lay RX4 TX4 7, u_lay RX4 TX4 8] from rfl]
  exact List.forall_mem_cons.mpr ⟨TB_of (i := 256) (by decide +kernel) rfl, List.forall_mem_cons.mpr ⟨TB_of (i := 258) (by decide +kernel) rfl, List.forall_mem_cons.mpr ⟨TB_of (i := 260) (by decide +kernel) rfl, List.forall_mem_cons.mpr ⟨TB_of (i := 262) (by decide +kernel) rfl, List.forall_mem_cons.mpr ⟨TB_of (i := 264) (by decide +kernel) rfl, List.forall_mem_cons.mpr ⟨TB_of (i := 266) (by decide +kernel) rfl, List.forall_mem_cons.mpr ⟨TB_of (i := 268) (by decide +kernel) rfl, List.forall_mem_cons.mpr ⟨TB_of (i := 270) (by decide +kernel) rfl, List.forall_mem_cons.mpr ⟨TB_of (i := 272) (by decide +kernel) rfl, fun _ h => absurd h List.not_mem_nil⟩⟩⟩⟩⟩⟩⟩⟩⟩
set_option maxRecDepth 20000 in
theorem inX5 : ∀ w ∈ u_ws RX5 TX5 3, w ∈ TB := by
  rw [show u_ws RX5 TX5 3 = [u_lay RX5 TX5 0, u_lay RX5 TX5 1, u_lay RX5 TX5 2] from rfl]
  exact List.forall_mem_cons.mpr ⟨TB_of (i := 209) (by decide +kernel) rfl, List.forall_mem_cons.mpr ⟨TB_of (i := 211) (by decide +kernel) rfl, List.forall_mem_cons.mpr ⟨TB_of (i := 213) (by decide +kernel) rfl, fun _ h => absurd h List.not_mem_nil⟩⟩⟩
set_option maxRecDepth 20000 in
theorem inX6 : ∀ w ∈ u_ws RX6 TX6 7, w ∈ TB := by
  rw [show u_ws RX6 TX6 7 = [u_lay RX6 TX6 0, u_lay RX6 TX6 1, u_lay RX6 TX6 2, u_lay RX6 TX6 3, u_lay RX6 TX6 4, u_lay RX6 TX6 5, u_lay RX6 TX6 6] from rfl]
  exact List.forall_mem_cons.mpr ⟨TB_of (i := 179) (by decide +kernel) rfl, List.forall_mem_cons.mpr ⟨TB_of (i := 181) (by decide +kernel) rfl, List.forall_mem_cons.mpr ⟨TB_of (i := 183) (by decide +kernel) rfl, List.forall_mem_cons.mpr ⟨TB_of (i := 185) (by decide +kernel) rfl, List.forall_mem_cons.mpr ⟨TB_of (i := 187) (by decide +kernel) rfl, List.forall_mem_cons.mpr ⟨TB_of (i := 189) (by decide +kernel) rfl, List.forall_mem_cons.mpr ⟨TB_of (i := 191) (by decide +kernel) rfl, fun _ h => absurd h List.not_mem_nil⟩⟩⟩⟩⟩⟩⟩
set_option maxRecDepth 20000 in
theorem inX7 : ∀ w ∈ u_ws RX7 TX7 2, w ∈ TB := by
  rw [show u_ws RX7 TX7 2 = [u_lay RX7 TX7 0, u_lay RX7 TX7 1] from rfl]
  exact List.forall_mem_cons.mpr ⟨TB_of (i := 94) (by decide +kernel) rfl, List.forall_mem_cons.mpr ⟨TB_of (i := 96) (by decide +kernel) rfl, fun _ h => absurd h List.not_mem_nil⟩⟩
set_option maxRecDepth 20000 in
theorem inX8 : ∀ w ∈ u_ws RX8 TX8 5, w ∈ TB := by
  rw [show u_ws RX8 TX8 5 = [u_lay RX8 TX8 0, u_lay RX8 TX8 1, u_lay RX8 TX8 2, u_lay RX8 TX8 3, u_lay RX8 TX8 4] from rfl]
  exact List.forall_mem_cons.mpr ⟨TB_of (i := 111) (by decide +kernel) rfl, List.forall_mem_cons.mpr ⟨TB_of (i := 113) (by decide +kernel) rfl, List.forall_mem_cons.mpr ⟨TB_of (i := 115) (by decide +kernel) rfl, List.forall_mem_cons.mpr ⟨TB_of (i := 117) (by decide +kernel) rfl, List.forall_mem_cons.mpr ⟨TB_of (i := 119) (by decide +kernel) rfl, fun _ h => absurd h List.not_mem_nil⟩⟩⟩⟩⟩
set_option maxRecDepth 20000 in
theorem inX9 : ∀ w ∈ u_ws RX9 TX9 9, w ∈ TB := by
  rw [show u_ws RX9 TX9 9 = [u_lay RX9 TX9 0, u_lay RX9 TX9 1, u_lay RX9 TX9 2, u_lay RX9 TX9 3, u_lay RX9 TX9 4, u_lay RX9 TX9 5, u_lay RX9 TX9 6, u_lay RX9 TX9 7, u_lay RX9 TX9 8] from rfl]
  exact List.forall_mem_cons.mpr ⟨TB_of (i := 306) (by decide +kernel) rfl, List.forall_mem_cons.mpr ⟨TB_of (i := 308) (by decide +kernel) rfl, List.forall_mem_cons.mpr ⟨TB_of (i := 310) (by decide +kernel) rfl, List.forall_mem_cons.mpr ⟨TB_of (i := 312) (by decide +kernel) rfl, List.forall_mem_cons.mpr ⟨TB_of (i := 314) (by decide +kernel) rfl, List.forall_mem_cons.mpr ⟨TB_of (i := 316) (by decide +kernel) rfl, List.forall_mem_cons.mpr ⟨TB_of (i := 318) (by decide +kernel) rfl, List.forall_mem_cons.mpr ⟨TB_of (i := 320) (by decide +kernel) rfl, List.forall_mem_cons.mpr ⟨TB_of (i := 322) (by decide +kernel) rfl, fun _ h => absurd h List.not_mem_nil⟩⟩⟩⟩⟩⟩⟩⟩⟩
set_option maxRecDepth 20000 in
theorem inX10 : ∀ w ∈ u_ws RX10 TX10 53, w ∈ TB := by
  rw [show u_ws RX10 TX10 53 = [u_lay RX10 TX10 0, u_lay RX10 TX10 1, u_lay RX10 TX10 2, u_lay RX10 TX10 3, u_lay RX10 TX10 4, u_lay RX10 TX10 5, u_lay RX10 TX10 6, u_lay RX10 TX10 7, u_lay RX10 TX10 8, u_lay RX10 TX10 9, u_lay RX10 TX10 10, u_lay RX10 TX10 11, u_lay RX10 TX10 12, u_lay RX10 TX10 13, u_lay RX10 TX10 14, u_lay RX10 TX10 15, u_lay RX10 TX10 16, u_lay RX10 TX10 17, u_lay RX10 TX10 18, u_lay RX10 TX10 19, u_lay RX10 TX10 20, u_lay RX10 TX10 21, u_lay RX10 TX10 22, u_lay RX10 TX10 23, u_lay RX10 TX10 24, u_lay RX10 TX10 25, u_lay RX10 TX10 26, u_lay RX10 TX10 27, u_lay RX10 TX10 28, u_lay RX10 TX10 29, u_lay RX10 TX10 30, u_lay RX10 TX10 31, u_lay RX10 TX10 32, u_lay RX10 TX10 33, u_lay RX10 TX10 34, u_lay RX10 TX10 35, u_lay RX10 TX10 36, u_lay RX10 TX10 37, u_lay RX10 TX10 38, u_lay RX10 TX10 39, u_lay RX10 TX10 40, u_lay RX10 TX10 41, u_lay RX10 TX10 42, u_lay RX10 TX10 43, u_lay RX10 TX10 44, u_lay RX10 TX10 45, u_lay RX10 TX10 46, u_lay RX10 TX10 47, u_lay RX10 TX10 48, u_lay RX10 TX10 49, u_lay RX10 TX10 50, u_lay RX10 TX10 51, u_lay RX10 TX10 52] from rfl]
  exact List.forall_mem_cons.mpr ⟨TB_of (i := 972) (by decide +kernel) rfl, List.forall_mem_cons.mpr ⟨TB_of (i := 974) (by decide +kernel) rfl, List.forall_mem_cons.mpr ⟨TB_of (i := 976) (by decide +kernel) rfl, List.forall_mem_cons.mpr ⟨TB_of (i := 978) (by decide +kernel) rfl, List.forall_mem_cons.mpr ⟨TB_of (i := 980) (by decide +kernel) rfl, List.forall_mem_cons.mpr ⟨TB_of (i := 982) (by decide +kernel) rfl, List.forall_mem_cons.mpr ⟨TB_of (i := 984) (by decide +kernel) rfl, List.forall_mem_cons.mpr ⟨TB_of (i := 986) (by decide +kernel) rfl, List.forall_mem_cons.mpr ⟨TB_of (i := 988) (by decide +kernel) rfl, List.forall_mem_cons.mpr ⟨TB_of (i := 990) (by decide +kernel) rfl, List.forall_mem_cons.mpr ⟨TB_of (i := 992) (by decide +kernel) rfl, List.forall_mem_cons.mpr ⟨TB_of (i := 994) (by decide +kernel) rfl, List.forall_mem_cons.mpr ⟨TB_of (i := 996) (by decide +kernel) rfl, List.forall_mem_cons.mpr ⟨TB_of (i := 998) (by decide +kernel) rfl, List.forall_mem_cons.mpr ⟨TB_of (i := 1000) (by decide +kernel) rfl, List.forall_mem_cons.mpr ⟨TB_of (i := 1002) (by decide +kernel) rfl, List.forall_mem_cons.mpr ⟨TB_of (i := 1004) (by decide +kernel) rfl, List.forall_mem_cons.mpr ⟨TB_of (i := 1006) (by decide +kernel) rfl, List.forall_mem_cons.mpr ⟨TB_of (i := 1008) (by decide +kernel) rfl, List.forall_mem_cons.mpr ⟨TB_of (i := 1010) (by decide +kernel) rfl, List.forall_mem_cons.mpr ⟨TB_of (i := 1012) (by decide +kernel) rfl, List.forall_mem_cons.mpr ⟨TB_of (i := 1014) (by decide +kernel) rfl, List.forall_mem_cons.mpr ⟨TB_of (i := 1016) (by decide +kernel) rfl, List.forall_mem_cons.mpr ⟨TB_of (i := 1018) (by decide +kernel) rfl, List.forall_mem_cons.mpr ⟨TB_of (i := 1020) (by decide +kernel) rfl, List.forall_mem_cons.mpr ⟨TB_of (i := 1022) (by decide +kernel) rfl, List.forall_mem_cons.mpr ⟨TB_of (i := 1024) (by decide +kernel) rfl, List.forall_mem_cons.mpr ⟨TB_of (i := 1026) (by decide +kernel) rfl, List.forall_mem_cons.mpr ⟨TB_of (i := 1028) (by decide +kernel) rfl, List.forall_mem_cons.mpr ⟨TB_of (i := 1030) (by decide +kernel) rfl, List.forall_mem_cons.mpr ⟨TB_of (i := 1032) (by decide +kernel) rfl, List.forall_mem_cons.mpr ⟨TB_of (i := 1034) (by decide +kernel) rfl, List.forall_mem_cons.mpr ⟨TB_of (i := 1036) (by decide +kernel) rfl, List.forall_mem_cons.mpr ⟨TB_of (i := 1038) (by decide +kernel) rfl, List.forall_mem_cons.mpr ⟨TB_of (i := 1040) (by decide +kernel) rfl, List.forall_mem_cons.mpr ⟨TB_of (i := 1042) (by decide +kernel) rfl, List.forall_mem_cons.mpr ⟨TB_of (i := 1044) (by decide +kernel) rfl, List.forall_mem_cons.mpr ⟨TB_of (i := 1046) (by decide +kernel) rfl, List.forall_mem_cons.mpr ⟨TB_of (i := 1048) (by decide +kernel) rfl, List.forall_mem_cons.mpr ⟨TB_of (i := 1050) (by decide +kernel) rfl, List.forall_mem_cons.mpr ⟨TB_of (i := 1052) (by decide +kernel) rfl, List.forall_mem_cons.mpr ⟨TB_of (i := 1054) (by decide +kernel) rfl, List.forall_mem_cons.mpr ⟨TB_of (i := 1056) (by decide +kernel) rfl, List.forall_mem_cons.mpr ⟨TB_of (i := 1058) (by decide +kernel) rfl, List.forall_mem_cons.mpr ⟨TB_of (i := 1060) (by decide +kernel) rfl, List.forall_mem_cons.mpr ⟨TB_of (i := 1062) (by decide +kernel) rfl, List.forall_mem_cons.mpr ⟨TB_of (i := 1064) (by decide +kernel) rfl, List.forall_mem_cons.mpr ⟨TB_of (i := 1066) (by decide +kernel) rfl, List.forall_mem_cons.mpr ⟨TB_of (i := 1068) (by decide +kernel) rfl, List.forall_mem_cons.mpr ⟨TB_of (i := 1070) (by decide +kernel) rfl, List.forall_mem_cons.mpr ⟨TB_of (i := 1072) (by decide +kernel) rfl, List.forall_mem_cons.mpr ⟨TB_of (i := 1074) (by decide +kernel) rfl, List.forall_mem_cons.mpr ⟨TB_of (i := 1076) (by decide +kernel) rfl, fun _ h => absurd h List.not_mem_nil⟩⟩⟩⟩⟩⟩⟩⟩⟩⟩⟩⟩⟩⟩⟩⟩⟩⟩⟩⟩⟩⟩⟩⟩⟩⟩⟩⟩⟩⟩⟩⟩⟩⟩⟩⟩⟩⟩⟩⟩⟩⟩⟩⟩⟩⟩⟩⟩⟩⟩⟩⟩⟩
def wX (h : Nat → Nat) (cI : ClassId) (σ : xS) : va_W := [(h 0, .inr (9, [.ref (h 1), .ref (h 2), .ref (h 3), .ref (h 4), .ref (h 5), .ref (h 6), .ref (h 7), .ref (h 9), .ref (h 10)])), (h 1, .inr (7, [.ref (h 11), .int (σ.1 0)])), (h 2, .inr (8, [.ref (h 1), .ref (h 12), .int (σ.1 1), .int (σ.1 2), .int (σ.1 3)])), (h 3, .inr (0, [.ref (h 13), .ref (h 14), .int (σ.1 4), .int (σ.1 5), .int (σ.1 6)])), (h 4, .inr (0, [.ref (h 15), .ref (h 16), .int (σ.1 7), .int (σ.1 8), .int (σ.1 9)])), (h 5, .inr (3, [.ref (h 3), .ref (h 17), .int (σ.1 10), .ref (h 18)])), (h 6, .inr (6, [.ref (h 19), .ref (h 20), .ref (h 21), .ref (h 22), .int (σ.1 11), .int (σ.1 12), .int (σ.1 13)])), (h 7, .inr (1, [.ref (h 5), .ref (h 6), .ref (h 8), .ref (h 23), .int (σ.1 14), .ref (h 24), .ref (h 25), .ref (h 26)])), (h 8, .inr (5, [.ref (h 5), .ref (h 27), .ref (h 28)])), (h 9, .inr (4, [.ref (h 29), .ref (h 30), .ref (h 31), .int (σ.1 15), .ref (h 32), .ref (h 33), .ref (h 34), .ref (h 35), .int (σ.1 16)])), (h 10, .inr (2, [.ref (h 36), .ref (h 37), .int (σ.1 17), .int (σ.1 18), .int (σ.1 19)])), (h 11, .inl (cI, 400, .inl (σ.2 0))), (h 12, .inl (cI, 6, .inl (σ.2 1))), (h 13, .inl (cI, 1000, .inl (σ.2 2))), (h 14, .inl (cI, 64, .inl (σ.2 3))), (h 15, .inl (cI, 1000, .inl (σ.2 4))), (h 16, .inl (cI, 64, .inl (σ.2 5))), (h 17, .inl (cI, 1000, .inl (σ.2 6))), (h 18, .inl (cI, 1000, .inl (σ.2 7))), (h 19, .inl (cI, 1000, .inl (σ.2 8))), (h 20, .inl (cI, 1000, .inl (σ.2 9))), (h 21, .inl (cI, 1000, .inl (σ.2 10))), (h 22, .inl (cI, 1000, .inl (σ.2 11))), (h 23, .inl (cI, 6, .inl (σ.2 12))), (h 24, .inl (cI, 64, .inl (σ.2 13))), (h 25, .inl (cI, 64, .inl (σ.2 14))), (h 26, .inl (cI, 64, .inl (σ.2 15))), (h 27, .inl (cI, 1000, .inl (σ.2 16))), (h 28, .inl (cI, 1000, .inl (σ.2 17))), (h 29, .inl (cI, 10, .inl (σ.2 18))), (h 30, .inl (cI, 10, .inl (σ.2 19))), (h 31, .inl (cI, 10, .inl (σ.2 20))), (h 32, .inl (cI, 1024, .inl (σ.2 21))), (h 33, .inl (cI, 1024, .inl (σ.2 22))), (h 34, .inl (cI, 10, .inl (σ.2 23))), (h 35, .inl (cI, 10, .inl (σ.2 24))), (h 36, .inl (cI, 12, .inl (σ.2 25))), (h 37, .inl (cI, 12, .inl (σ.2 26)))]
def wM (h : Nat → Nat) (cI cZ cC : ClassId) (σ : xS) : va_W := [(h 0, .inr (10, [.ref (h 1), .int (σ.1 0), .int (σ.1 1), .int (σ.1 2), .int (σ.1 3), .int (σ.1 4), .int (σ.1 5), .int (σ.1 6), .int (σ.1 7), .int (σ.1 8), .ref (h 2), .ref (h 3), .ref (h 4), .ref (h 5), .int (σ.1 9), .int (σ.1 10), .int (σ.1 11), .ref (h 6), .ref (h 7), .ref (h 8), .int (σ.1 12), .int (σ.1 13), .int (σ.1 14), .int (σ.1 15), .ref (h 9), .ref (h 10), .int (σ.1 16), .int (σ.1 17), .ref (h 11), .ref (h 12), .ref (h 13), .ref (h 14), .int (σ.1 18), .ref (h 15), .ref (h 16), .ref (h 17), .ref (h 18), .int (σ.1 19), .int (σ.1 20), .int (σ.1 21), .ref (h 19), .ref (h 20), .ref (h 21), .ref (h 22), .ref (h 23), .int (σ.1 22), .ref (h 24), .ref (h 25), .ref (h 26), .ref (h 27), .int (σ.1 23), .int (σ.1 24), .int (σ.1 25)])), (h 1, .inl (cI, 400, .inl (σ.2 0))), (h 2, .inl (cC, 3, .inl (σ.2 1))), (h 3, .inl (cC, 4, .inl (σ.2 2))), (h 4, .inl (cC, 6, .inl (σ.2 3))), (h 5, .inl (cC, 4, .inl (σ.2 4))), (h 6, .inl (cZ, 512, .inl (σ.2 5))), (h 7, .inl (cZ, 512, .inl (σ.2 6))), (h 8, .inl (cI, 6, .inl (σ.2 7))), (h 9, .inl (cZ, 1000, .inl (σ.2 8))), (h 10, .inl (cI, 1000, .inl (σ.2 9))), (h 11, .inl (cI, 6, .inl (σ.2 10))), (h 12, .inl (cI, 6, .inl (σ.2 11))), (h 13, .inl (cI, 1000, .inl (σ.2 12))), (h 14, .inl (cI, 1000, .inl (σ.2 13))), (h 15, .inl (cI, 1000, .inl (σ.2 14))), (h 16, .inl (cI, 1000, .inl (σ.2 15))), (h 17, .inl (cI, 1000, .inl (σ.2 16))), (h 18, .inl (cI, 1000, .inl (σ.2 17))), (h 19, .inl (cZ, 10, .inl (σ.2 18))), (h 20, .inl (cI, 10, .inl (σ.2 19))), (h 21, .inl (cI, 10, .inl (σ.2 20))), (h 22, .inl (cI, 10, .inl (σ.2 21))), (h 23, .inl (cI, 1024, .inl (σ.2 22))), (h 24, .inl (cI, 10, .inl (σ.2 23))), (h 25, .inl (cI, 10, .inl (σ.2 24))), (h 26, .inl (cI, 12, .inl (σ.2 25))), (h 27, .inl (cI, 12, .inl (σ.2 26)))]
def xtx : List (Nat × String) := [(42, "box"), (52, "hole"), (54, "mirror"), (59, "turn"), (98, "x"), (100, "y"), (102, "z")]
def xtl : List Nat := [3, 4, 6, 4, 1, 1, 1]
def xtb : List (List Int32) := [[98, 111, 120], [104, 111, 108, 101], [109, 105, 114, 114, 111, 114], [116, 117, 114, 110], [120], [121], [122]]
/-- what the class's methods take as given beside their cells: links of nest mates, the words of a form's text -/
def ZX (A : Nat → Prop) (adK adV : Nat → Nat) (U : State) : Prop := (va_Nw (.fieldLinkNest RX3 40 RX0 "wide" "I" RX9) U ∧ va_Nw (.fieldLinkNest RX3 37 RX0 "high" "I" RX9) U ∧ va_Nw (.fieldLinkNest RX3 34 RX0 "deep" "I" RX9) U) ∧ va_Z "java/lang/String" "COMPACT_STRINGS" "Z" (.int 1) A U U.heap ∧ vk_S 7 xtl xtb adK adV A U U.heap ∧ (∀ i : Nat, i < 7 → vk_R RX8 (xtx.getD i (0, "")).1 (xtx.getD i (0, "")).2 (adK i) U) ∧ va_Zq "jdk/internal/util/Preconditions" "SIOOBE_FORMATTER" "Ljava/util/function/BiFunction;" A U U.heap
abbrev xE : Type := va_G × (Nat → Prop) × (Nat → Nat) × ClassId × (Nat → Nat) × (Nat → Nat)
abbrev mE : Type := va_G × (Nat → Prop) × (Nat → Nat) × ClassId × ClassId × ClassId
def GX (E : xE) : xG := (E.1, E.2.1, wX E.2.2.1 E.2.2.2.1, [(E.2.2.2.1, .int)], ZX E.2.1 E.2.2.2.2.1 E.2.2.2.2.2)
def GM (E : mE) : xG := (E.1, E.2.1, wM E.2.2.1 E.2.2.2.1 E.2.2.2.2.1 E.2.2.2.2.2, [(E.2.2.2.1, .int), (E.2.2.2.2.1, .boolean), (E.2.2.2.2.2, .char)], fun _ => True)
theorem wX_i0 (h : Nat → Nat) (cI : ClassId) (σ : xS) (x : Int32) : (wX h cI σ).set 1 (h 1, .inr (7, ([.ref (h 11), .int (σ.1 0)] : List Value).set 1 (.int x))) = wX h cI (va_up σ.1 0 x, σ.2) := rfl
theorem wX_i1 (h : Nat → Nat) (cI : ClassId) (σ : xS) (x : Int32) : (wX h cI σ).set 2 (h 2, .inr (8, ([.ref (h 1), .ref (h 12), .int (σ.1 1), .int (σ.1 2), .int (σ.1 3)] : List Value).set 2 (.int x))) = wX h cI (va_up σ.1 1 x, σ.2) := rfl
theorem wX_i2 (h : Nat → Nat) (cI : ClassId) (σ : xS) (x : Int32) : (wX h cI σ).set 2 (h 2, .inr (8, ([.ref (h 1), .ref (h 12), .int (σ.1 1), .int (σ.1 2), .int (σ.1 3)] : List Value).set 3 (.int x))) = wX h cI (va_up σ.1 2 x, σ.2) := rfl
theorem wX_i3 (h : Nat → Nat) (cI : ClassId) (σ : xS) (x : Int32) : (wX h cI σ).set 2 (h 2, .inr (8, ([.ref (h 1), .ref (h 12), .int (σ.1 1), .int (σ.1 2), .int (σ.1 3)] : List Value).set 4 (.int x))) = wX h cI (va_up σ.1 3 x, σ.2) := rfl
theorem wX_i4 (h : Nat → Nat) (cI : ClassId) (σ : xS) (x : Int32) : (wX h cI σ).set 3 (h 3, .inr (0, ([.ref (h 13), .ref (h 14), .int (σ.1 4), .int (σ.1 5), .int (σ.1 6)] : List Value).set 2 (.int x))) = wX h cI (va_up σ.1 4 x, σ.2) := rfl
theorem wX_i5 (h : Nat → Nat) (cI : ClassId) (σ : xS) (x : Int32) : (wX h cI σ).set 3 (h 3, .inr (0, ([.ref (h 13), .ref (h 14), .int (σ.1 4), .int (σ.1 5), .int (σ.1 6)] : List Value).set 3 (.int x))) = wX h cI (va_up σ.1 5 x, σ.2) := rfl
theorem wX_i6 (h : Nat → Nat) (cI : ClassId) (σ : xS) (x : Int32) : (wX h cI σ).set 3 (h 3, .inr (0, ([.ref (h 13), .ref (h 14), .int (σ.1 4), .int (σ.1 5), .int (σ.1 6)] : List Value).set 4 (.int x))) = wX h cI (va_up σ.1 6 x, σ.2) := rfl
theorem wX_i7 (h : Nat → Nat) (cI : ClassId) (σ : xS) (x : Int32) : (wX h cI σ).set 4 (h 4, .inr (0, ([.ref (h 15), .ref (h 16), .int (σ.1 7), .int (σ.1 8), .int (σ.1 9)] : List Value).set 2 (.int x))) = wX h cI (va_up σ.1 7 x, σ.2) := rfl
theorem wX_i8 (h : Nat → Nat) (cI : ClassId) (σ : xS) (x : Int32) : (wX h cI σ).set 4 (h 4, .inr (0, ([.ref (h 15), .ref (h 16), .int (σ.1 7), .int (σ.1 8), .int (σ.1 9)] : List Value).set 3 (.int x))) = wX h cI (va_up σ.1 8 x, σ.2) := rfl
theorem wX_i9 (h : Nat → Nat) (cI : ClassId) (σ : xS) (x : Int32) : (wX h cI σ).set 4 (h 4, .inr (0, ([.ref (h 15), .ref (h 16), .int (σ.1 7), .int (σ.1 8), .int (σ.1 9)] : List Value).set 4 (.int x))) = wX h cI (va_up σ.1 9 x, σ.2) := rfl
theorem wX_i10 (h : Nat → Nat) (cI : ClassId) (σ : xS) (x : Int32) : (wX h cI σ).set 5 (h 5, .inr (3, ([.ref (h 3), .ref (h 17), .int (σ.1 10), .ref (h 18)] : List Value).set 2 (.int x))) = wX h cI (va_up σ.1 10 x, σ.2) := rfl
theorem wX_i11 (h : Nat → Nat) (cI : ClassId) (σ : xS) (x : Int32) : (wX h cI σ).set 6 (h 6, .inr (6, ([.ref (h 19), .ref (h 20), .ref (h 21), .ref (h 22), .int (σ.1 11), .int (σ.1 12), .int (σ.1 13)] : List Value).set 4 (.int x))) = wX h cI (va_up σ.1 11 x, σ.2) := rfl
theorem wX_i12 (h : Nat → Nat) (cI : ClassId) (σ : xS) (x : Int32) : (wX h cI σ).set 6 (h 6, .inr (6, ([.ref (h 19), .ref (h 20), .ref (h 21), .ref (h 22), .int (σ.1 11), .int (σ.1 12), .int (σ.1 13)] : List Value).set 5 (.int x))) = wX h cI (va_up σ.1 12 x, σ.2) := rfl
theorem wX_i13 (h : Nat → Nat) (cI : ClassId) (σ : xS) (x : Int32) : (wX h cI σ).set 6 (h 6, .inr (6, ([.ref (h 19), .ref (h 20), .ref (h 21), .ref (h 22), .int (σ.1 11), .int (σ.1 12), .int (σ.1 13)] : List Value).set 6 (.int x))) = wX h cI (va_up σ.1 13 x, σ.2) := rfl
theorem wX_i14 (h : Nat → Nat) (cI : ClassId) (σ : xS) (x : Int32) : (wX h cI σ).set 7 (h 7, .inr (1, ([.ref (h 5), .ref (h 6), .ref (h 8), .ref (h 23), .int (σ.1 14), .ref (h 24), .ref (h 25), .ref (h 26)] : List Value).set 4 (.int x))) = wX h cI (va_up σ.1 14 x, σ.2) := rfl
theorem wX_i15 (h : Nat → Nat) (cI : ClassId) (σ : xS) (x : Int32) : (wX h cI σ).set 9 (h 9, .inr (4, ([.ref (h 29), .ref (h 30), .ref (h 31), .int (σ.1 15), .ref (h 32), .ref (h 33), .ref (h 34), .ref (h 35), .int (σ.1 16)] : List Value).set 3 (.int x))) = wX h cI (va_up σ.1 15 x, σ.2) := rfl
theorem wX_i16 (h : Nat → Nat) (cI : ClassId) (σ : xS) (x : Int32) : (wX h cI σ).set 9 (h 9, .inr (4, ([.ref (h 29), .ref (h 30), .ref (h 31), .int (σ.1 15), .ref (h 32), .ref (h 33), .ref (h 34), .ref (h 35), .int (σ.1 16)] : List Value).set 8 (.int x))) = wX h cI (va_up σ.1 16 x, σ.2) := rfl
theorem wX_i17 (h : Nat → Nat) (cI : ClassId) (σ : xS) (x : Int32) : (wX h cI σ).set 10 (h 10, .inr (2, ([.ref (h 36), .ref (h 37), .int (σ.1 17), .int (σ.1 18), .int (σ.1 19)] : List Value).set 2 (.int x))) = wX h cI (va_up σ.1 17 x, σ.2) := rfl
theorem wX_i18 (h : Nat → Nat) (cI : ClassId) (σ : xS) (x : Int32) : (wX h cI σ).set 10 (h 10, .inr (2, ([.ref (h 36), .ref (h 37), .int (σ.1 17), .int (σ.1 18), .int (σ.1 19)] : List Value).set 3 (.int x))) = wX h cI (va_up σ.1 18 x, σ.2) := rfl
theorem wX_i19 (h : Nat → Nat) (cI : ClassId) (σ : xS) (x : Int32) : (wX h cI σ).set 10 (h 10, .inr (2, ([.ref (h 36), .ref (h 37), .int (σ.1 17), .int (σ.1 18), .int (σ.1 19)] : List Value).set 4 (.int x))) = wX h cI (va_up σ.1 19 x, σ.2) := rfl
theorem wX_a0 (h : Nat → Nat) (cI : ClassId) (σ : xS) (f : Nat → Int32) : (wX h cI σ).set 11 (h 11, .inl (cI, 400, .inl f)) = wX h cI (σ.1, va_up σ.2 0 f) := rfl
theorem wX_a1 (h : Nat → Nat) (cI : ClassId) (σ : xS) (f : Nat → Int32) : (wX h cI σ).set 12 (h 12, .inl (cI, 6, .inl f)) = wX h cI (σ.1, va_up σ.2 1 f) := rfl
theorem wX_a2 (h : Nat → Nat) (cI : ClassId) (σ : xS) (f : Nat → Int32) : (wX h cI σ).set 13 (h 13, .inl (cI, 1000, .inl f)) = wX h cI (σ.1, va_up σ.2 2 f) := rfl
theorem wX_a3 (h : Nat → Nat) (cI : ClassId) (σ : xS) (f : Nat → Int32) : (wX h cI σ).set 14 (h 14, .inl (cI, 64, .inl f)) = wX h cI (σ.1, va_up σ.2 3 f) := rfl
theorem wX_a4 (h : Nat → Nat) (cI : ClassId) (σ : xS) (f : Nat → Int32) : (wX h cI σ).set 15 (h 15, .inl (cI, 1000, .inl f)) = wX h cI (σ.1, va_up σ.2 4 f) := rfl
theorem wX_a5 (h : Nat → Nat) (cI : ClassId) (σ : xS) (f : Nat → Int32) : (wX h cI σ).set 16 (h 16, .inl (cI, 64, .inl f)) = wX h cI (σ.1, va_up σ.2 5 f) := rfl
theorem wX_a6 (h : Nat → Nat) (cI : ClassId) (σ : xS) (f : Nat → Int32) : (wX h cI σ).set 17 (h 17, .inl (cI, 1000, .inl f)) = wX h cI (σ.1, va_up σ.2 6 f) := rfl
theorem wX_a7 (h : Nat → Nat) (cI : ClassId) (σ : xS) (f : Nat → Int32) : (wX h cI σ).set 18 (h 18, .inl (cI, 1000, .inl f)) = wX h cI (σ.1, va_up σ.2 7 f) := rfl
theorem wX_a8 (h : Nat → Nat) (cI : ClassId) (σ : xS) (f : Nat → Int32) : (wX h cI σ).set 19 (h 19, .inl (cI, 1000, .inl f)) = wX h cI (σ.1, va_up σ.2 8 f) := rfl
theorem wX_a9 (h : Nat → Nat) (cI : ClassId) (σ : xS) (f : Nat → Int32) : (wX h cI σ).set 20 (h 20, .inl (cI, 1000, .inl f)) = wX h cI (σ.1, va_up σ.2 9 f) := rfl
theorem wX_a10 (h : Nat → Nat) (cI : ClassId) (σ : xS) (f : Nat → Int32) : (wX h cI σ).set 21 (h 21, .inl (cI, 1000, .inl f)) = wX h cI (σ.1, va_up σ.2 10 f) := rfl
theorem wX_a11 (h : Nat → Nat) (cI : ClassId) (σ : xS) (f : Nat → Int32) : (wX h cI σ).set 22 (h 22, .inl (cI, 1000, .inl f)) = wX h cI (σ.1, va_up σ.2 11 f) := rfl
theorem wX_a12 (h : Nat → Nat) (cI : ClassId) (σ : xS) (f : Nat → Int32) : (wX h cI σ).set 23 (h 23, .inl (cI, 6, .inl f)) = wX h cI (σ.1, va_up σ.2 12 f) := rfl
theorem wX_a13 (h : Nat → Nat) (cI : ClassId) (σ : xS) (f : Nat → Int32) : (wX h cI σ).set 24 (h 24, .inl (cI, 64, .inl f)) = wX h cI (σ.1, va_up σ.2 13 f) := rfl
theorem wX_a14 (h : Nat → Nat) (cI : ClassId) (σ : xS) (f : Nat → Int32) : (wX h cI σ).set 25 (h 25, .inl (cI, 64, .inl f)) = wX h cI (σ.1, va_up σ.2 14 f) := rfl
theorem wX_a15 (h : Nat → Nat) (cI : ClassId) (σ : xS) (f : Nat → Int32) : (wX h cI σ).set 26 (h 26, .inl (cI, 64, .inl f)) = wX h cI (σ.1, va_up σ.2 15 f) := rfl
theorem wX_a16 (h : Nat → Nat) (cI : ClassId) (σ : xS) (f : Nat → Int32) : (wX h cI σ).set 27 (h 27, .inl (cI, 1000, .inl f)) = wX h cI (σ.1, va_up σ.2 16 f) := rfl
theorem wX_a17 (h : Nat → Nat) (cI : ClassId) (σ : xS) (f : Nat → Int32) : (wX h cI σ).set 28 (h 28, .inl (cI, 1000, .inl f)) = wX h cI (σ.1, va_up σ.2 17 f) := rfl
theorem wX_a18 (h : Nat → Nat) (cI : ClassId) (σ : xS) (f : Nat → Int32) : (wX h cI σ).set 29 (h 29, .inl (cI, 10, .inl f)) = wX h cI (σ.1, va_up σ.2 18 f) := rfl
theorem wX_a19 (h : Nat → Nat) (cI : ClassId) (σ : xS) (f : Nat → Int32) : (wX h cI σ).set 30 (h 30, .inl (cI, 10, .inl f)) = wX h cI (σ.1, va_up σ.2 19 f) := rfl
theorem wX_a20 (h : Nat → Nat) (cI : ClassId) (σ : xS) (f : Nat → Int32) : (wX h cI σ).set 31 (h 31, .inl (cI, 10, .inl f)) = wX h cI (σ.1, va_up σ.2 20 f) := rfl
theorem wX_a21 (h : Nat → Nat) (cI : ClassId) (σ : xS) (f : Nat → Int32) : (wX h cI σ).set 32 (h 32, .inl (cI, 1024, .inl f)) = wX h cI (σ.1, va_up σ.2 21 f) := rfl
theorem wX_a22 (h : Nat → Nat) (cI : ClassId) (σ : xS) (f : Nat → Int32) : (wX h cI σ).set 33 (h 33, .inl (cI, 1024, .inl f)) = wX h cI (σ.1, va_up σ.2 22 f) := rfl
theorem wX_a23 (h : Nat → Nat) (cI : ClassId) (σ : xS) (f : Nat → Int32) : (wX h cI σ).set 34 (h 34, .inl (cI, 10, .inl f)) = wX h cI (σ.1, va_up σ.2 23 f) := rfl
theorem wX_a24 (h : Nat → Nat) (cI : ClassId) (σ : xS) (f : Nat → Int32) : (wX h cI σ).set 35 (h 35, .inl (cI, 10, .inl f)) = wX h cI (σ.1, va_up σ.2 24 f) := rfl
theorem wX_a25 (h : Nat → Nat) (cI : ClassId) (σ : xS) (f : Nat → Int32) : (wX h cI σ).set 36 (h 36, .inl (cI, 12, .inl f)) = wX h cI (σ.1, va_up σ.2 25 f) := rfl
theorem wX_a26 (h : Nat → Nat) (cI : ClassId) (σ : xS) (f : Nat → Int32) : (wX h cI σ).set 37 (h 37, .inl (cI, 12, .inl f)) = wX h cI (σ.1, va_up σ.2 26 f) := rfl
theorem wM_i0 (h : Nat → Nat) (cI cZ cC : ClassId) (σ : xS) (x : Int32) : (wM h cI cZ cC σ).set 0 (h 0, .inr (10, ([.ref (h 1), .int (σ.1 0), .int (σ.1 1), .int (σ.1 2), .int (σ.1 3), .int (σ.1 4), .int (σ.1 5), .int (σ.1 6), .int (σ.1 7), .int (σ.1 8), .ref (h 2), .ref (h 3), .ref (h 4), .ref (h 5), .int (σ.1 9), .int (σ.1 10), .int (σ.1 11), .ref (h 6), .ref (h 7), .ref (h 8), .int (σ.1 12), .int (σ.1 13), .int (σ.1 14), .int (σ.1 15), .ref (h 9), .ref (h 10), .int (σ.1 16), .int (σ.1 17), .ref (h 11), .ref (h 12), .ref (h 13), .ref (h 14), .int (σ.1 18), .ref (h 15), .ref (h 16), .ref (h 17), .ref (h 18), .int (σ.1 19), .int (σ.1 20), .int (σ.1 21), .ref (h 19), .ref (h 20), .ref (h 21), .ref (h 22), .ref (h 23), .int (σ.1 22), .ref (h 24), .ref (h 25), .ref (h 26), .ref (h 27), .int (σ.1 23), .int (σ.1 24), .int (σ.1 25)] : List Value).set 1 (.int x))) = wM h cI cZ cC (va_up σ.1 0 x, σ.2) := rfl
theorem wM_i1 (h : Nat → Nat) (cI cZ cC : ClassId) (σ : xS) (x : Int32) : (wM h cI cZ cC σ).set 0 (h 0, .inr (10, ([.ref (h 1), .int (σ.1 0), .int (σ.1 1), .int (σ.1 2), .int (σ.1 3), .int (σ.1 4), .int (σ.1 5), .int (σ.1 6), .int (σ.1 7), .int (σ.1 8), .ref (h 2), .ref (h 3), .ref (h 4), .ref (h 5), .int (σ.1 9), .int (σ.1 10), .int (σ.1 11), .ref (h 6), .ref (h 7), .ref (h 8), .int (σ.1 12), .int (σ.1 13), .int (σ.1 14), .int (σ.1 15), .ref (h 9), .ref (h 10), .int (σ.1 16), .int (σ.1 17), .ref (h 11), .ref (h 12), .ref (h 13), .ref (h 14), .int (σ.1 18), .ref (h 15), .ref (h 16), .ref (h 17), .ref (h 18), .int (σ.1 19), .int (σ.1 20), .int (σ.1 21), .ref (h 19), .ref (h 20), .ref (h 21), .ref (h 22), .ref (h 23), .int (σ.1 22), .ref (h 24), .ref (h 25), .ref (h 26), .ref (h 27), .int (σ.1 23), .int (σ.1 24), .int (σ.1 25)] : List Value).set 2 (.int x))) = wM h cI cZ cC (va_up σ.1 1 x, σ.2) := rfl
theorem wM_i2 (h : Nat → Nat) (cI cZ cC : ClassId) (σ : xS) (x : Int32) : (wM h cI cZ cC σ).set 0 (h 0, .inr (10, ([.ref (h 1), .int (σ.1 0), .int (σ.1 1), .int (σ.1 2), .int (σ.1 3), .int (σ.1 4), .int (σ.1 5), .int (σ.1 6), .int (σ.1 7), .int (σ.1 8), .ref (h 2), .ref (h 3), .ref (h 4), .ref (h 5), .int (σ.1 9), .int (σ.1 10), .int (σ.1 11), .ref (h 6), .ref (h 7), .ref (h 8), .int (σ.1 12), .int (σ.1 13), .int (σ.1 14), .int (σ.1 15), .ref (h 9), .ref (h 10), .int (σ.1 16), .int (σ.1 17), .ref (h 11), .ref (h 12), .ref (h 13), .ref (h 14), .int (σ.1 18), .ref (h 15), .ref (h 16), .ref (h 17), .ref (h 18), .int (σ.1 19), .int (σ.1 20), .int (σ.1 21), .ref (h 19), .ref (h 20), .ref (h 21), .ref (h 22), .ref (h 23), .int (σ.1 22), .ref (h 24), .ref (h 25), .ref (h 26), .ref (h 27), .int (σ.1 23), .int (σ.1 24), .int (σ.1 25)] : List Value).set 3 (.int x))) = wM h cI cZ cC (va_up σ.1 2 x, σ.2) := rfl
theorem wM_i3 (h : Nat → Nat) (cI cZ cC : ClassId) (σ : xS) (x : Int32) : (wM h cI cZ cC σ).set 0 (h 0, .inr (10, ([.ref (h 1), .int (σ.1 0), .int (σ.1 1), .int (σ.1 2), .int (σ.1 3), .int (σ.1 4), .int (σ.1 5), .int (σ.1 6), .int (σ.1 7), .int (σ.1 8), .ref (h 2), .ref (h 3), .ref (h 4), .ref (h 5), .int (σ.1 9), .int (σ.1 10), .int (σ.1 11), .ref (h 6), .ref (h 7), .ref (h 8), .int (σ.1 12), .int (σ.1 13), .int (σ.1 14), .int (σ.1 15), .ref (h 9), .ref (h 10), .int (σ.1 16), .int (σ.1 17), .ref (h 11), .ref (h 12), .ref (h 13), .ref (h 14), .int (σ.1 18), .ref (h 15), .ref (h 16), .ref (h 17), .ref (h 18), .int (σ.1 19), .int (σ.1 20), .int (σ.1 21), .ref (h 19), .ref (h 20), .ref (h 21), .ref (h 22), .ref (h 23), .int (σ.1 22), .ref (h 24), .ref (h 25), .ref (h 26), .ref (h 27), .int (σ.1 23), .int (σ.1 24), .int (σ.1 25)] : List Value).set 4 (.int x))) = wM h cI cZ cC (va_up σ.1 3 x, σ.2) := rfl
theorem wM_i4 (h : Nat → Nat) (cI cZ cC : ClassId) (σ : xS) (x : Int32) : (wM h cI cZ cC σ).set 0 (h 0, .inr (10, ([.ref (h 1), .int (σ.1 0), .int (σ.1 1), .int (σ.1 2), .int (σ.1 3), .int (σ.1 4), .int (σ.1 5), .int (σ.1 6), .int (σ.1 7), .int (σ.1 8), .ref (h 2), .ref (h 3), .ref (h 4), .ref (h 5), .int (σ.1 9), .int (σ.1 10), .int (σ.1 11), .ref (h 6), .ref (h 7), .ref (h 8), .int (σ.1 12), .int (σ.1 13), .int (σ.1 14), .int (σ.1 15), .ref (h 9), .ref (h 10), .int (σ.1 16), .int (σ.1 17), .ref (h 11), .ref (h 12), .ref (h 13), .ref (h 14), .int (σ.1 18), .ref (h 15), .ref (h 16), .ref (h 17), .ref (h 18), .int (σ.1 19), .int (σ.1 20), .int (σ.1 21), .ref (h 19), .ref (h 20), .ref (h 21), .ref (h 22), .ref (h 23), .int (σ.1 22), .ref (h 24), .ref (h 25), .ref (h 26), .ref (h 27), .int (σ.1 23), .int (σ.1 24), .int (σ.1 25)] : List Value).set 5 (.int x))) = wM h cI cZ cC (va_up σ.1 4 x, σ.2) := rfl
theorem wM_i5 (h : Nat → Nat) (cI cZ cC : ClassId) (σ : xS) (x : Int32) : (wM h cI cZ cC σ).set 0 (h 0, .inr (10, ([.ref (h 1), .int (σ.1 0), .int (σ.1 1), .int (σ.1 2), .int (σ.1 3), .int (σ.1 4), .int (σ.1 5), .int (σ.1 6), .int (σ.1 7), .int (σ.1 8), .ref (h 2), .ref (h 3), .ref (h 4), .ref (h 5), .int (σ.1 9), .int (σ.1 10), .int (σ.1 11), .ref (h 6), .ref (h 7), .ref (h 8), .int (σ.1 12), .int (σ.1 13), .int (σ.1 14), .int (σ.1 15), .ref (h 9), .ref (h 10), .int (σ.1 16), .int (σ.1 17), .ref (h 11), .ref (h 12), .ref (h 13), .ref (h 14), .int (σ.1 18), .ref (h 15), .ref (h 16), .ref (h 17), .ref (h 18), .int (σ.1 19), .int (σ.1 20), .int (σ.1 21), .ref (h 19), .ref (h 20), .ref (h 21), .ref (h 22), .ref (h 23), .int (σ.1 22), .ref (h 24), .ref (h 25), .ref (h 26), .ref (h 27), .int (σ.1 23), .int (σ.1 24), .int (σ.1 25)] : List Value).set 6 (.int x))) = wM h cI cZ cC (va_up σ.1 5 x, σ.2) := rfl
theorem wM_i6 (h : Nat → Nat) (cI cZ cC : ClassId) (σ : xS) (x : Int32) : (wM h cI cZ cC σ).set 0 (h 0, .inr (10, ([.ref (h 1), .int (σ.1 0), .int (σ.1 1), .int (σ.1 2), .int (σ.1 3), .int (σ.1 4), .int (σ.1 5), .int (σ.1 6), .int (σ.1 7), .int (σ.1 8), .ref (h 2), .ref (h 3), .ref (h 4), .ref (h 5), .int (σ.1 9), .int (σ.1 10), .int (σ.1 11), .ref (h 6), .ref (h 7), .ref (h 8), .int (σ.1 12), .int (σ.1 13), .int (σ.1 14), .int (σ.1 15), .ref (h 9), .ref (h 10), .int (σ.1 16), .int (σ.1 17), .ref (h 11), .ref (h 12), .ref (h 13), .ref (h 14), .int (σ.1 18), .ref (h 15), .ref (h 16), .ref (h 17), .ref (h 18), .int (σ.1 19), .int (σ.1 20), .int (σ.1 21), .ref (h 19), .ref (h 20), .ref (h 21), .ref (h 22), .ref (h 23), .int (σ.1 22), .ref (h 24), .ref (h 25), .ref (h 26), .ref (h 27), .int (σ.1 23), .int (σ.1 24), .int (σ.1 25)] : List Value).set 7 (.int x))) = wM h cI cZ cC (va_up σ.1 6 x, σ.2) := rfl
theorem wM_i7 (h : Nat → Nat) (cI cZ cC : ClassId) (σ : xS) (x : Int32) : (wM h cI cZ cC σ).set 0 (h 0, .inr (10, ([.ref (h 1), .int (σ.1 0), .int (σ.1 1), .int (σ.1 2), .int (σ.1 3), .int (σ.1 4), .int (σ.1 5), .int (σ.1 6), .int (σ.1 7), .int (σ.1 8), .ref (h 2), .ref (h 3), .ref (h 4), .ref (h 5), .int (σ.1 9), .int (σ.1 10), .int (σ.1 11), .ref (h 6), .ref (h 7), .ref (h 8), .int (σ.1 12), .int (σ.1 13), .int (σ.1 14), .int (σ.1 15), .ref (h 9), .ref (h 10), .int (σ.1 16), .int (σ.1 17), .ref (h 11), .ref (h 12), .ref (h 13), .ref (h 14), .int (σ.1 18), .ref (h 15), .ref (h 16), .ref (h 17), .ref (h 18), .int (σ.1 19), .int (σ.1 20), .int (σ.1 21), .ref (h 19), .ref (h 20), .ref (h 21), .ref (h 22), .ref (h 23), .int (σ.1 22), .ref (h 24), .ref (h 25), .ref (h 26), .ref (h 27), .int (σ.1 23), .int (σ.1 24), .int (σ.1 25)] : List Value).set 8 (.int x))) = wM h cI cZ cC (va_up σ.1 7 x, σ.2) := rfl
theorem wM_i8 (h : Nat → Nat) (cI cZ cC : ClassId) (σ : xS) (x : Int32) : (wM h cI cZ cC σ).set 0 (h 0, .inr (10, ([.ref (h 1), .int (σ.1 0), .int (σ.1 1), .int (σ.1 2), .int (σ.1 3), .int (σ.1 4), .int (σ.1 5), .int (σ.1 6), .int (σ.1 7), .int (σ.1 8), .ref (h 2), .ref (h 3), .ref (h 4), .ref (h 5), .int (σ.1 9), .int (σ.1 10), .int (σ.1 11), .ref (h 6), .ref (h 7), .ref (h 8), .int (σ.1 12), .int (σ.1 13), .int (σ.1 14), .int (σ.1 15), .ref (h 9), .ref (h 10), .int (σ.1 16), .int (σ.1 17), .ref (h 11), .ref (h 12), .ref (h 13), .ref (h 14), .int (σ.1 18), .ref (h 15), .ref (h 16), .ref (h 17), .ref (h 18), .int (σ.1 19), .int (σ.1 20), .int (σ.1 21), .ref (h 19), .ref (h 20), .ref (h 21), .ref (h 22), .ref (h 23), .int (σ.1 22), .ref (h 24), .ref (h 25), .ref (h 26), .ref (h 27), .int (σ.1 23), .int (σ.1 24), .int (σ.1 25)] : List Value).set 9 (.int x))) = wM h cI cZ cC (va_up σ.1 8 x, σ.2) := rfl
theorem wM_i9 (h : Nat → Nat) (cI cZ cC : ClassId) (σ : xS) (x : Int32) : (wM h cI cZ cC σ).set 0 (h 0, .inr (10, ([.ref (h 1), .int (σ.1 0), .int (σ.1 1), .int (σ.1 2), .int (σ.1 3), .int (σ.1 4), .int (σ.1 5), .int (σ.1 6), .int (σ.1 7), .int (σ.1 8), .ref (h 2), .ref (h 3), .ref (h 4), .ref (h 5), .int (σ.1 9), .int (σ.1 10), .int (σ.1 11), .ref (h 6), .ref (h 7), .ref (h 8), .int (σ.1 12), .int (σ.1 13), .int (σ.1 14), .int (σ.1 15), .ref (h 9), .ref (h 10), .int (σ.1 16), .int (σ.1 17), .ref (h 11), .ref (h 12), .ref (h 13), .ref (h 14), .int (σ.1 18), .ref (h 15), .ref (h 16), .ref (h 17), .ref (h 18), .int (σ.1 19), .int (σ.1 20), .int (σ.1 21), .ref (h 19), .ref (h 20), .ref (h 21), .ref (h 22), .ref (h 23), .int (σ.1 22), .ref (h 24), .ref (h 25), .ref (h 26), .ref (h 27), .int (σ.1 23), .int (σ.1 24), .int (σ.1 25)] : List Value).set 14 (.int x))) = wM h cI cZ cC (va_up σ.1 9 x, σ.2) := rfl
theorem wM_i10 (h : Nat → Nat) (cI cZ cC : ClassId) (σ : xS) (x : Int32) : (wM h cI cZ cC σ).set 0 (h 0, .inr (10, ([.ref (h 1), .int (σ.1 0), .int (σ.1 1), .int (σ.1 2), .int (σ.1 3), .int (σ.1 4), .int (σ.1 5), .int (σ.1 6), .int (σ.1 7), .int (σ.1 8), .ref (h 2), .ref (h 3), .ref (h 4), .ref (h 5), .int (σ.1 9), .int (σ.1 10), .int (σ.1 11), .ref (h 6), .ref (h 7), .ref (h 8), .int (σ.1 12), .int (σ.1 13), .int (σ.1 14), .int (σ.1 15), .ref (h 9), .ref (h 10), .int (σ.1 16), .int (σ.1 17), .ref (h 11), .ref (h 12), .ref (h 13), .ref (h 14), .int (σ.1 18), .ref (h 15), .ref (h 16), .ref (h 17), .ref (h 18), .int (σ.1 19), .int (σ.1 20), .int (σ.1 21), .ref (h 19), .ref (h 20), .ref (h 21), .ref (h 22), .ref (h 23), .int (σ.1 22), .ref (h 24), .ref (h 25), .ref (h 26), .ref (h 27), .int (σ.1 23), .int (σ.1 24), .int (σ.1 25)] : List Value).set 15 (.int x))) = wM h cI cZ cC (va_up σ.1 10 x, σ.2) := rfl
theorem wM_i11 (h : Nat → Nat) (cI cZ cC : ClassId) (σ : xS) (x : Int32) : (wM h cI cZ cC σ).set 0 (h 0, .inr (10, ([.ref (h 1), .int (σ.1 0), .int (σ.1 1), .int (σ.1 2), .int (σ.1 3), .int (σ.1 4), .int (σ.1 5), .int (σ.1 6), .int (σ.1 7), .int (σ.1 8), .ref (h 2), .ref (h 3), .ref (h 4), .ref (h 5), .int (σ.1 9), .int (σ.1 10), .int (σ.1 11), .ref (h 6), .ref (h 7), .ref (h 8), .int (σ.1 12), .int (σ.1 13), .int (σ.1 14), .int (σ.1 15), .ref (h 9), .ref (h 10), .int (σ.1 16), .int (σ.1 17), .ref (h 11), .ref (h 12), .ref (h 13), .ref (h 14), .int (σ.1 18), .ref (h 15), .ref (h 16), .ref (h 17), .ref (h 18), .int (σ.1 19), .int (σ.1 20), .int (σ.1 21), .ref (h 19), .ref (h 20), .ref (h 21), .ref (h 22), .ref (h 23), .int (σ.1 22), .ref (h 24), .ref (h 25), .ref (h 26), .ref (h 27), .int (σ.1 23), .int (σ.1 24), .int (σ.1 25)] : List Value).set 16 (.int x))) = wM h cI cZ cC (va_up σ.1 11 x, σ.2) := rfl
theorem wM_i12 (h : Nat → Nat) (cI cZ cC : ClassId) (σ : xS) (x : Int32) : (wM h cI cZ cC σ).set 0 (h 0, .inr (10, ([.ref (h 1), .int (σ.1 0), .int (σ.1 1), .int (σ.1 2), .int (σ.1 3), .int (σ.1 4), .int (σ.1 5), .int (σ.1 6), .int (σ.1 7), .int (σ.1 8), .ref (h 2), .ref (h 3), .ref (h 4), .ref (h 5), .int (σ.1 9), .int (σ.1 10), .int (σ.1 11), .ref (h 6), .ref (h 7), .ref (h 8), .int (σ.1 12), .int (σ.1 13), .int (σ.1 14), .int (σ.1 15), .ref (h 9), .ref (h 10), .int (σ.1 16), .int (σ.1 17), .ref (h 11), .ref (h 12), .ref (h 13), .ref (h 14), .int (σ.1 18), .ref (h 15), .ref (h 16), .ref (h 17), .ref (h 18), .int (σ.1 19), .int (σ.1 20), .int (σ.1 21), .ref (h 19), .ref (h 20), .ref (h 21), .ref (h 22), .ref (h 23), .int (σ.1 22), .ref (h 24), .ref (h 25), .ref (h 26), .ref (h 27), .int (σ.1 23), .int (σ.1 24), .int (σ.1 25)] : List Value).set 20 (.int x))) = wM h cI cZ cC (va_up σ.1 12 x, σ.2) := rfl
theorem wM_i13 (h : Nat → Nat) (cI cZ cC : ClassId) (σ : xS) (x : Int32) : (wM h cI cZ cC σ).set 0 (h 0, .inr (10, ([.ref (h 1), .int (σ.1 0), .int (σ.1 1), .int (σ.1 2), .int (σ.1 3), .int (σ.1 4), .int (σ.1 5), .int (σ.1 6), .int (σ.1 7), .int (σ.1 8), .ref (h 2), .ref (h 3), .ref (h 4), .ref (h 5), .int (σ.1 9), .int (σ.1 10), .int (σ.1 11), .ref (h 6), .ref (h 7), .ref (h 8), .int (σ.1 12), .int (σ.1 13), .int (σ.1 14), .int (σ.1 15), .ref (h 9), .ref (h 10), .int (σ.1 16), .int (σ.1 17), .ref (h 11), .ref (h 12), .ref (h 13), .ref (h 14), .int (σ.1 18), .ref (h 15), .ref (h 16), .ref (h 17), .ref (h 18), .int (σ.1 19), .int (σ.1 20), .int (σ.1 21), .ref (h 19), .ref (h 20), .ref (h 21), .ref (h 22), .ref (h 23), .int (σ.1 22), .ref (h 24), .ref (h 25), .ref (h 26), .ref (h 27), .int (σ.1 23), .int (σ.1 24), .int (σ.1 25)] : List Value).set 21 (.int x))) = wM h cI cZ cC (va_up σ.1 13 x, σ.2) := rfl
theorem wM_i14 (h : Nat → Nat) (cI cZ cC : ClassId) (σ : xS) (x : Int32) : (wM h cI cZ cC σ).set 0 (h 0, .inr (10, ([.ref (h 1), .int (σ.1 0), .int (σ.1 1), .int (σ.1 2), .int (σ.1 3), .int (σ.1 4), .int (σ.1 5), .int (σ.1 6), .int (σ.1 7), .int (σ.1 8), .ref (h 2), .ref (h 3), .ref (h 4), .ref (h 5), .int (σ.1 9), .int (σ.1 10), .int (σ.1 11), .ref (h 6), .ref (h 7), .ref (h 8), .int (σ.1 12), .int (σ.1 13), .int (σ.1 14), .int (σ.1 15), .ref (h 9), .ref (h 10), .int (σ.1 16), .int (σ.1 17), .ref (h 11), .ref (h 12), .ref (h 13), .ref (h 14), .int (σ.1 18), .ref (h 15), .ref (h 16), .ref (h 17), .ref (h 18), .int (σ.1 19), .int (σ.1 20), .int (σ.1 21), .ref (h 19), .ref (h 20), .ref (h 21), .ref (h 22), .ref (h 23), .int (σ.1 22), .ref (h 24), .ref (h 25), .ref (h 26), .ref (h 27), .int (σ.1 23), .int (σ.1 24), .int (σ.1 25)] : List Value).set 22 (.int x))) = wM h cI cZ cC (va_up σ.1 14 x, σ.2) := rfl
theorem wM_i15 (h : Nat → Nat) (cI cZ cC : ClassId) (σ : xS) (x : Int32) : (wM h cI cZ cC σ).set 0 (h 0, .inr (10, ([.ref (h 1), .int (σ.1 0), .int (σ.1 1), .int (σ.1 2), .int (σ.1 3), .int (σ.1 4), .int (σ.1 5), .int (σ.1 6), .int (σ.1 7), .int (σ.1 8), .ref (h 2), .ref (h 3), .ref (h 4), .ref (h 5), .int (σ.1 9), .int (σ.1 10), .int (σ.1 11), .ref (h 6), .ref (h 7), .ref (h 8), .int (σ.1 12), .int (σ.1 13), .int (σ.1 14), .int (σ.1 15), .ref (h 9), .ref (h 10), .int (σ.1 16), .int (σ.1 17), .ref (h 11), .ref (h 12), .ref (h 13), .ref (h 14), .int (σ.1 18), .ref (h 15), .ref (h 16), .ref (h 17), .ref (h 18), .int (σ.1 19), .int (σ.1 20), .int (σ.1 21), .ref (h 19), .ref (h 20), .ref (h 21), .ref (h 22), .ref (h 23), .int (σ.1 22), .ref (h 24), .ref (h 25), .ref (h 26), .ref (h 27), .int (σ.1 23), .int (σ.1 24), .int (σ.1 25)] : List Value).set 23 (.int x))) = wM h cI cZ cC (va_up σ.1 15 x, σ.2) := rfl
theorem wM_i16 (h : Nat → Nat) (cI cZ cC : ClassId) (σ : xS) (x : Int32) : (wM h cI cZ cC σ).set 0 (h 0, .inr (10, ([.ref (h 1), .int (σ.1 0), .int (σ.1 1), .int (σ.1 2), .int (σ.1 3), .int (σ.1 4), .int (σ.1 5), .int (σ.1 6), .int (σ.1 7), .int (σ.1 8), .ref (h 2), .ref (h 3), .ref (h 4), .ref (h 5), .int (σ.1 9), .int (σ.1 10), .int (σ.1 11), .ref (h 6), .ref (h 7), .ref (h 8), .int (σ.1 12), .int (σ.1 13), .int (σ.1 14), .int (σ.1 15), .ref (h 9), .ref (h 10), .int (σ.1 16), .int (σ.1 17), .ref (h 11), .ref (h 12), .ref (h 13), .ref (h 14), .int (σ.1 18), .ref (h 15), .ref (h 16), .ref (h 17), .ref (h 18), .int (σ.1 19), .int (σ.1 20), .int (σ.1 21), .ref (h 19), .ref (h 20), .ref (h 21), .ref (h 22), .ref (h 23), .int (σ.1 22), .ref (h 24), .ref (h 25), .ref (h 26), .ref (h 27), .int (σ.1 23), .int (σ.1 24), .int (σ.1 25)] : List Value).set 26 (.int x))) = wM h cI cZ cC (va_up σ.1 16 x, σ.2) := rfl
theorem wM_i17 (h : Nat → Nat) (cI cZ cC : ClassId) (σ : xS) (x : Int32) : (wM h cI cZ cC σ).set 0 (h 0, .inr (10, ([.ref (h 1), .int (σ.1 0), .int (σ.1 1), .int (σ.1 2), .int (σ.1 3), .int (σ.1 4), .int (σ.1 5), .int (σ.1 6), .int (σ.1 7), .int (σ.1 8), .ref (h 2), .ref (h 3), .ref (h 4), .ref (h 5), .int (σ.1 9), .int (σ.1 10), .int (σ.1 11), .ref (h 6), .ref (h 7), .ref (h 8), .int (σ.1 12), .int (σ.1 13), .int (σ.1 14), .int (σ.1 15), .ref (h 9), .ref (h 10), .int (σ.1 16), .int (σ.1 17), .ref (h 11), .ref (h 12), .ref (h 13), .ref (h 14), .int (σ.1 18), .ref (h 15), .ref (h 16), .ref (h 17), .ref (h 18), .int (σ.1 19), .int (σ.1 20), .int (σ.1 21), .ref (h 19), .ref (h 20), .ref (h 21), .ref (h 22), .ref (h 23), .int (σ.1 22), .ref (h 24), .ref (h 25), .ref (h 26), .ref (h 27), .int (σ.1 23), .int (σ.1 24), .int (σ.1 25)] : List Value).set 27 (.int x))) = wM h cI cZ cC (va_up σ.1 17 x, σ.2) := rfl
theorem wM_i18 (h : Nat → Nat) (cI cZ cC : ClassId) (σ : xS) (x : Int32) : (wM h cI cZ cC σ).set 0 (h 0, .inr (10, ([.ref (h 1), .int (σ.1 0), .int (σ.1 1), .int (σ.1 2), .int (σ.1 3), .int (σ.1 4), .int (σ.1 5), .int (σ.1 6), .int (σ.1 7), .int (σ.1 8), .ref (h 2), .ref (h 3), .ref (h 4), .ref (h 5), .int (σ.1 9), .int (σ.1 10), .int (σ.1 11), .ref (h 6), .ref (h 7), .ref (h 8), .int (σ.1 12), .int (σ.1 13), .int (σ.1 14), .int (σ.1 15), .ref (h 9), .ref (h 10), .int (σ.1 16), .int (σ.1 17), .ref (h 11), .ref (h 12), .ref (h 13), .ref (h 14), .int (σ.1 18), .ref (h 15), .ref (h 16), .ref (h 17), .ref (h 18), .int (σ.1 19), .int (σ.1 20), .int (σ.1 21), .ref (h 19), .ref (h 20), .ref (h 21), .ref (h 22), .ref (h 23), .int (σ.1 22), .ref (h 24), .ref (h 25), .ref (h 26), .ref (h 27), .int (σ.1 23), .int (σ.1 24), .int (σ.1 25)] : List Value).set 32 (.int x))) = wM h cI cZ cC (va_up σ.1 18 x, σ.2) := rfl
theorem wM_i19 (h : Nat → Nat) (cI cZ cC : ClassId) (σ : xS) (x : Int32) : (wM h cI cZ cC σ).set 0 (h 0, .inr (10, ([.ref (h 1), .int (σ.1 0), .int (σ.1 1), .int (σ.1 2), .int (σ.1 3), .int (σ.1 4), .int (σ.1 5), .int (σ.1 6), .int (σ.1 7), .int (σ.1 8), .ref (h 2), .ref (h 3), .ref (h 4), .ref (h 5), .int (σ.1 9), .int (σ.1 10), .int (σ.1 11), .ref (h 6), .ref (h 7), .ref (h 8), .int (σ.1 12), .int (σ.1 13), .int (σ.1 14), .int (σ.1 15), .ref (h 9), .ref (h 10), .int (σ.1 16), .int (σ.1 17), .ref (h 11), .ref (h 12), .ref (h 13), .ref (h 14), .int (σ.1 18), .ref (h 15), .ref (h 16), .ref (h 17), .ref (h 18), .int (σ.1 19), .int (σ.1 20), .int (σ.1 21), .ref (h 19), .ref (h 20), .ref (h 21), .ref (h 22), .ref (h 23), .int (σ.1 22), .ref (h 24), .ref (h 25), .ref (h 26), .ref (h 27), .int (σ.1 23), .int (σ.1 24), .int (σ.1 25)] : List Value).set 37 (.int x))) = wM h cI cZ cC (va_up σ.1 19 x, σ.2) := rfl
theorem wM_i20 (h : Nat → Nat) (cI cZ cC : ClassId) (σ : xS) (x : Int32) : (wM h cI cZ cC σ).set 0 (h 0, .inr (10, ([.ref (h 1), .int (σ.1 0), .int (σ.1 1), .int (σ.1 2), .int (σ.1 3), .int (σ.1 4), .int (σ.1 5), .int (σ.1 6), .int (σ.1 7), .int (σ.1 8), .ref (h 2), .ref (h 3), .ref (h 4), .ref (h 5), .int (σ.1 9), .int (σ.1 10), .int (σ.1 11), .ref (h 6), .ref (h 7), .ref (h 8), .int (σ.1 12), .int (σ.1 13), .int (σ.1 14), .int (σ.1 15), .ref (h 9), .ref (h 10), .int (σ.1 16), .int (σ.1 17), .ref (h 11), .ref (h 12), .ref (h 13), .ref (h 14), .int (σ.1 18), .ref (h 15), .ref (h 16), .ref (h 17), .ref (h 18), .int (σ.1 19), .int (σ.1 20), .int (σ.1 21), .ref (h 19), .ref (h 20), .ref (h 21), .ref (h 22), .ref (h 23), .int (σ.1 22), .ref (h 24), .ref (h 25), .ref (h 26), .ref (h 27), .int (σ.1 23), .int (σ.1 24), .int (σ.1 25)] : List Value).set 38 (.int x))) = wM h cI cZ cC (va_up σ.1 20 x, σ.2) := rfl
theorem wM_i21 (h : Nat → Nat) (cI cZ cC : ClassId) (σ : xS) (x : Int32) : (wM h cI cZ cC σ).set 0 (h 0, .inr (10, ([.ref (h 1), .int (σ.1 0), .int (σ.1 1), .int (σ.1 2), .int (σ.1 3), .int (σ.1 4), .int (σ.1 5), .int (σ.1 6), .int (σ.1 7), .int (σ.1 8), .ref (h 2), .ref (h 3), .ref (h 4), .ref (h 5), .int (σ.1 9), .int (σ.1 10), .int (σ.1 11), .ref (h 6), .ref (h 7), .ref (h 8), .int (σ.1 12), .int (σ.1 13), .int (σ.1 14), .int (σ.1 15), .ref (h 9), .ref (h 10), .int (σ.1 16), .int (σ.1 17), .ref (h 11), .ref (h 12), .ref (h 13), .ref (h 14), .int (σ.1 18), .ref (h 15), .ref (h 16), .ref (h 17), .ref (h 18), .int (σ.1 19), .int (σ.1 20), .int (σ.1 21), .ref (h 19), .ref (h 20), .ref (h 21), .ref (h 22), .ref (h 23), .int (σ.1 22), .ref (h 24), .ref (h 25), .ref (h 26), .ref (h 27), .int (σ.1 23), .int (σ.1 24), .int (σ.1 25)] : List Value).set 39 (.int x))) = wM h cI cZ cC (va_up σ.1 21 x, σ.2) := rfl
theorem wM_i22 (h : Nat → Nat) (cI cZ cC : ClassId) (σ : xS) (x : Int32) : (wM h cI cZ cC σ).set 0 (h 0, .inr (10, ([.ref (h 1), .int (σ.1 0), .int (σ.1 1), .int (σ.1 2), .int (σ.1 3), .int (σ.1 4), .int (σ.1 5), .int (σ.1 6), .int (σ.1 7), .int (σ.1 8), .ref (h 2), .ref (h 3), .ref (h 4), .ref (h 5), .int (σ.1 9), .int (σ.1 10), .int (σ.1 11), .ref (h 6), .ref (h 7), .ref (h 8), .int (σ.1 12), .int (σ.1 13), .int (σ.1 14), .int (σ.1 15), .ref (h 9), .ref (h 10), .int (σ.1 16), .int (σ.1 17), .ref (h 11), .ref (h 12), .ref (h 13), .ref (h 14), .int (σ.1 18), .ref (h 15), .ref (h 16), .ref (h 17), .ref (h 18), .int (σ.1 19), .int (σ.1 20), .int (σ.1 21), .ref (h 19), .ref (h 20), .ref (h 21), .ref (h 22), .ref (h 23), .int (σ.1 22), .ref (h 24), .ref (h 25), .ref (h 26), .ref (h 27), .int (σ.1 23), .int (σ.1 24), .int (σ.1 25)] : List Value).set 45 (.int x))) = wM h cI cZ cC (va_up σ.1 22 x, σ.2) := rfl
theorem wM_i23 (h : Nat → Nat) (cI cZ cC : ClassId) (σ : xS) (x : Int32) : (wM h cI cZ cC σ).set 0 (h 0, .inr (10, ([.ref (h 1), .int (σ.1 0), .int (σ.1 1), .int (σ.1 2), .int (σ.1 3), .int (σ.1 4), .int (σ.1 5), .int (σ.1 6), .int (σ.1 7), .int (σ.1 8), .ref (h 2), .ref (h 3), .ref (h 4), .ref (h 5), .int (σ.1 9), .int (σ.1 10), .int (σ.1 11), .ref (h 6), .ref (h 7), .ref (h 8), .int (σ.1 12), .int (σ.1 13), .int (σ.1 14), .int (σ.1 15), .ref (h 9), .ref (h 10), .int (σ.1 16), .int (σ.1 17), .ref (h 11), .ref (h 12), .ref (h 13), .ref (h 14), .int (σ.1 18), .ref (h 15), .ref (h 16), .ref (h 17), .ref (h 18), .int (σ.1 19), .int (σ.1 20), .int (σ.1 21), .ref (h 19), .ref (h 20), .ref (h 21), .ref (h 22), .ref (h 23), .int (σ.1 22), .ref (h 24), .ref (h 25), .ref (h 26), .ref (h 27), .int (σ.1 23), .int (σ.1 24), .int (σ.1 25)] : List Value).set 50 (.int x))) = wM h cI cZ cC (va_up σ.1 23 x, σ.2) := rfl
theorem wM_i24 (h : Nat → Nat) (cI cZ cC : ClassId) (σ : xS) (x : Int32) : (wM h cI cZ cC σ).set 0 (h 0, .inr (10, ([.ref (h 1), .int (σ.1 0), .int (σ.1 1), .int (σ.1 2), .int (σ.1 3), .int (σ.1 4), .int (σ.1 5), .int (σ.1 6), .int (σ.1 7), .int (σ.1 8), .ref (h 2), .ref (h 3), .ref (h 4), .ref (h 5), .int (σ.1 9), .int (σ.1 10), .int (σ.1 11), .ref (h 6), .ref (h 7), .ref (h 8), .int (σ.1 12), .int (σ.1 13), .int (σ.1 14), .int (σ.1 15), .ref (h 9), .ref (h 10), .int (σ.1 16), .int (σ.1 17), .ref (h 11), .ref (h 12), .ref (h 13), .ref (h 14), .int (σ.1 18), .ref (h 15), .ref (h 16), .ref (h 17), .ref (h 18), .int (σ.1 19), .int (σ.1 20), .int (σ.1 21), .ref (h 19), .ref (h 20), .ref (h 21), .ref (h 22), .ref (h 23), .int (σ.1 22), .ref (h 24), .ref (h 25), .ref (h 26), .ref (h 27), .int (σ.1 23), .int (σ.1 24), .int (σ.1 25)] : List Value).set 51 (.int x))) = wM h cI cZ cC (va_up σ.1 24 x, σ.2) := rfl
theorem wM_i25 (h : Nat → Nat) (cI cZ cC : ClassId) (σ : xS) (x : Int32) : (wM h cI cZ cC σ).set 0 (h 0, .inr (10, ([.ref (h 1), .int (σ.1 0), .int (σ.1 1), .int (σ.1 2), .int (σ.1 3), .int (σ.1 4), .int (σ.1 5), .int (σ.1 6), .int (σ.1 7), .int (σ.1 8), .ref (h 2), .ref (h 3), .ref (h 4), .ref (h 5), .int (σ.1 9), .int (σ.1 10), .int (σ.1 11), .ref (h 6), .ref (h 7), .ref (h 8), .int (σ.1 12), .int (σ.1 13), .int (σ.1 14), .int (σ.1 15), .ref (h 9), .ref (h 10), .int (σ.1 16), .int (σ.1 17), .ref (h 11), .ref (h 12), .ref (h 13), .ref (h 14), .int (σ.1 18), .ref (h 15), .ref (h 16), .ref (h 17), .ref (h 18), .int (σ.1 19), .int (σ.1 20), .int (σ.1 21), .ref (h 19), .ref (h 20), .ref (h 21), .ref (h 22), .ref (h 23), .int (σ.1 22), .ref (h 24), .ref (h 25), .ref (h 26), .ref (h 27), .int (σ.1 23), .int (σ.1 24), .int (σ.1 25)] : List Value).set 52 (.int x))) = wM h cI cZ cC (va_up σ.1 25 x, σ.2) := rfl
theorem wM_a0 (h : Nat → Nat) (cI cZ cC : ClassId) (σ : xS) (f : Nat → Int32) : (wM h cI cZ cC σ).set 1 (h 1, .inl (cI, 400, .inl f)) = wM h cI cZ cC (σ.1, va_up σ.2 0 f) := rfl
theorem wM_a1 (h : Nat → Nat) (cI cZ cC : ClassId) (σ : xS) (f : Nat → Int32) : (wM h cI cZ cC σ).set 2 (h 2, .inl (cC, 3, .inl f)) = wM h cI cZ cC (σ.1, va_up σ.2 1 f) := rfl
theorem wM_a2 (h : Nat → Nat) (cI cZ cC : ClassId) (σ : xS) (f : Nat → Int32) : (wM h cI cZ cC σ).set 3 (h 3, .inl (cC, 4, .inl f)) = wM h cI cZ cC (σ.1, va_up σ.2 2 f) := rfl
theorem wM_a3 (h : Nat → Nat) (cI cZ cC : ClassId) (σ : xS) (f : Nat → Int32) : (wM h cI cZ cC σ).set 4 (h 4, .inl (cC, 6, .inl f)) = wM h cI cZ cC (σ.1, va_up σ.2 3 f) := rfl
theorem wM_a4 (h : Nat → Nat) (cI cZ cC : ClassId) (σ : xS) (f : Nat → Int32) : (wM h cI cZ cC σ).set 5 (h 5, .inl (cC, 4, .inl f)) = wM h cI cZ cC (σ.1, va_up σ.2 4 f) := rfl
theorem wM_a5 (h : Nat → Nat) (cI cZ cC : ClassId) (σ : xS) (f : Nat → Int32) : (wM h cI cZ cC σ).set 6 (h 6, .inl (cZ, 512, .inl f)) = wM h cI cZ cC (σ.1, va_up σ.2 5 f) := rfl
theorem wM_a6 (h : Nat → Nat) (cI cZ cC : ClassId) (σ : xS) (f : Nat → Int32) : (wM h cI cZ cC σ).set 7 (h 7, .inl (cZ, 512, .inl f)) = wM h cI cZ cC (σ.1, va_up σ.2 6 f) := rfl
theorem wM_a7 (h : Nat → Nat) (cI cZ cC : ClassId) (σ : xS) (f : Nat → Int32) : (wM h cI cZ cC σ).set 8 (h 8, .inl (cI, 6, .inl f)) = wM h cI cZ cC (σ.1, va_up σ.2 7 f) := rfl
theorem wM_a8 (h : Nat → Nat) (cI cZ cC : ClassId) (σ : xS) (f : Nat → Int32) : (wM h cI cZ cC σ).set 9 (h 9, .inl (cZ, 1000, .inl f)) = wM h cI cZ cC (σ.1, va_up σ.2 8 f) := rfl
theorem wM_a9 (h : Nat → Nat) (cI cZ cC : ClassId) (σ : xS) (f : Nat → Int32) : (wM h cI cZ cC σ).set 10 (h 10, .inl (cI, 1000, .inl f)) = wM h cI cZ cC (σ.1, va_up σ.2 9 f) := rfl
theorem wM_a10 (h : Nat → Nat) (cI cZ cC : ClassId) (σ : xS) (f : Nat → Int32) : (wM h cI cZ cC σ).set 11 (h 11, .inl (cI, 6, .inl f)) = wM h cI cZ cC (σ.1, va_up σ.2 10 f) := rfl
theorem wM_a11 (h : Nat → Nat) (cI cZ cC : ClassId) (σ : xS) (f : Nat → Int32) : (wM h cI cZ cC σ).set 12 (h 12, .inl (cI, 6, .inl f)) = wM h cI cZ cC (σ.1, va_up σ.2 11 f) := rfl
theorem wM_a12 (h : Nat → Nat) (cI cZ cC : ClassId) (σ : xS) (f : Nat → Int32) : (wM h cI cZ cC σ).set 13 (h 13, .inl (cI, 1000, .inl f)) = wM h cI cZ cC (σ.1, va_up σ.2 12 f) := rfl
theorem wM_a13 (h : Nat → Nat) (cI cZ cC : ClassId) (σ : xS) (f : Nat → Int32) : (wM h cI cZ cC σ).set 14 (h 14, .inl (cI, 1000, .inl f)) = wM h cI cZ cC (σ.1, va_up σ.2 13 f) := rfl
theorem wM_a14 (h : Nat → Nat) (cI cZ cC : ClassId) (σ : xS) (f : Nat → Int32) : (wM h cI cZ cC σ).set 15 (h 15, .inl (cI, 1000, .inl f)) = wM h cI cZ cC (σ.1, va_up σ.2 14 f) := rfl
theorem wM_a15 (h : Nat → Nat) (cI cZ cC : ClassId) (σ : xS) (f : Nat → Int32) : (wM h cI cZ cC σ).set 16 (h 16, .inl (cI, 1000, .inl f)) = wM h cI cZ cC (σ.1, va_up σ.2 15 f) := rfl
theorem wM_a16 (h : Nat → Nat) (cI cZ cC : ClassId) (σ : xS) (f : Nat → Int32) : (wM h cI cZ cC σ).set 17 (h 17, .inl (cI, 1000, .inl f)) = wM h cI cZ cC (σ.1, va_up σ.2 16 f) := rfl
theorem wM_a17 (h : Nat → Nat) (cI cZ cC : ClassId) (σ : xS) (f : Nat → Int32) : (wM h cI cZ cC σ).set 18 (h 18, .inl (cI, 1000, .inl f)) = wM h cI cZ cC (σ.1, va_up σ.2 17 f) := rfl
theorem wM_a18 (h : Nat → Nat) (cI cZ cC : ClassId) (σ : xS) (f : Nat → Int32) : (wM h cI cZ cC σ).set 19 (h 19, .inl (cZ, 10, .inl f)) = wM h cI cZ cC (σ.1, va_up σ.2 18 f) := rfl
theorem wM_a19 (h : Nat → Nat) (cI cZ cC : ClassId) (σ : xS) (f : Nat → Int32) : (wM h cI cZ cC σ).set 20 (h 20, .inl (cI, 10, .inl f)) = wM h cI cZ cC (σ.1, va_up σ.2 19 f) := rfl
theorem wM_a20 (h : Nat → Nat) (cI cZ cC : ClassId) (σ : xS) (f : Nat → Int32) : (wM h cI cZ cC σ).set 21 (h 21, .inl (cI, 10, .inl f)) = wM h cI cZ cC (σ.1, va_up σ.2 20 f) := rfl
theorem wM_a21 (h : Nat → Nat) (cI cZ cC : ClassId) (σ : xS) (f : Nat → Int32) : (wM h cI cZ cC σ).set 22 (h 22, .inl (cI, 10, .inl f)) = wM h cI cZ cC (σ.1, va_up σ.2 21 f) := rfl
theorem wM_a22 (h : Nat → Nat) (cI cZ cC : ClassId) (σ : xS) (f : Nat → Int32) : (wM h cI cZ cC σ).set 23 (h 23, .inl (cI, 1024, .inl f)) = wM h cI cZ cC (σ.1, va_up σ.2 22 f) := rfl
theorem wM_a23 (h : Nat → Nat) (cI cZ cC : ClassId) (σ : xS) (f : Nat → Int32) : (wM h cI cZ cC σ).set 24 (h 24, .inl (cI, 10, .inl f)) = wM h cI cZ cC (σ.1, va_up σ.2 23 f) := rfl
theorem wM_a24 (h : Nat → Nat) (cI cZ cC : ClassId) (σ : xS) (f : Nat → Int32) : (wM h cI cZ cC σ).set 25 (h 25, .inl (cI, 10, .inl f)) = wM h cI cZ cC (σ.1, va_up σ.2 24 f) := rfl
theorem wM_a25 (h : Nat → Nat) (cI cZ cC : ClassId) (σ : xS) (f : Nat → Int32) : (wM h cI cZ cC σ).set 26 (h 26, .inl (cI, 12, .inl f)) = wM h cI cZ cC (σ.1, va_up σ.2 25 f) := rfl
theorem wM_a26 (h : Nat → Nat) (cI cZ cC : ClassId) (σ : xS) (f : Nat → Int32) : (wM h cI cZ cC σ).set 27 (h 27, .inl (cI, 12, .inl f)) = wM h cI cZ cC (σ.1, va_up σ.2 26 f) := rfl
end
section
section XWX
variable {C : xT} {E : xE} {own : String} {cc : ByteArray} {nL : Nat} {ret : Option FieldType} {rm : Room} {Q : State → Prop} {σ : xS} {pc pc' : Nat} {lv : List (Nat × Value)} {st : List Value} {α : Type} {res : α}
theorem gX9_cw_tape (hC : xc C (GX E) RX9 cc nL ret rm) (hd : decode cc pc = .ok (.getfield 10, 3)) (hn : pc + 3 = pc') (k : xw C (GX E) nL Q σ pc' lv (.ref (E.2.2.1 1) :: st)) : xw C (GX E) nL Q σ pc lv (.ref (E.2.2.1 0) :: st) := xr_get (T := TX9) (N := 9) (Cn := RX9) _ 0 0 hC hd hn rfl rfl inX9 (by decide) (TB_of (i := 297) (by decide +kernel) rfl) rfl k
theorem gX9_cw_reader (hC : xc C (GX E) RX9 cc nL ret rm) (hd : decode cc pc = .ok (.getfield 21, 3)) (hn : pc + 3 = pc') (k : xw C (GX E) nL Q σ pc' lv (.ref (E.2.2.1 2) :: st)) : xw C (GX E) nL Q σ pc lv (.ref (E.2.2.1 0) :: st) := xr_get (T := TX9) (N := 9) (Cn := RX9) _ 0 1 hC hd hn rfl rfl inX9 (by decide) (TB_of (i := 298) (by decide +kernel) rfl) rfl k
theorem gX9_cw_cells (hC : xc C (GX E) RX9 cc nL ret rm) (hd : decode cc pc = .ok (.getfield 28, 3)) (hn : pc + 3 = pc') (k : xw C (GX E) nL Q σ pc' lv (.ref (E.2.2.1 3) :: st)) : xw C (GX E) nL Q σ pc lv (.ref (E.2.2.1 0) :: st) := xr_get (T := TX9) (N := 9) (Cn := RX9) _ 0 2 hC hd hn rfl rfl inX9 (by decide) (TB_of (i := 299) (by decide +kernel) rfl) rfl k
theorem gX9_cw_draft (hC : xc C (GX E) RX9 cc nL ret rm) (hd : decode cc pc = .ok (.getfield 32, 3)) (hn : pc + 3 = pc') (k : xw C (GX E) nL Q σ pc' lv (.ref (E.2.2.1 4) :: st)) : xw C (GX E) nL Q σ pc lv (.ref (E.2.2.1 0) :: st) := xr_get (T := TX9) (N := 9) (Cn := RX9) _ 0 3 hC hd hn rfl rfl inX9 (by decide) (TB_of (i := 300) (by decide +kernel) rfl) rfl k
theorem gX9_cw_mould (hC : xc C (GX E) RX9 cc nL ret rm) (hd : decode cc pc = .ok (.getfield 40, 3)) (hn : pc + 3 = pc') (k : xw C (GX E) nL Q σ pc' lv (.ref (E.2.2.1 5) :: st)) : xw C (GX E) nL Q σ pc lv (.ref (E.2.2.1 0) :: st) := xr_get (T := TX9) (N := 9) (Cn := RX9) _ 0 4 hC hd hn rfl rfl inX9 (by decide) (TB_of (i := 301) (by decide +kernel) rfl) rfl k
theorem gX9_cw_pieces (hC : xc C (GX E) RX9 cc nL ret rm) (hd : decode cc pc = .ok (.getfield 47, 3)) (hn : pc + 3 = pc') (k : xw C (GX E) nL Q σ pc' lv (.ref (E.2.2.1 6) :: st)) : xw C (GX E) nL Q σ pc lv (.ref (E.2.2.1 0) :: st) := xr_get (T := TX9) (N := 9) (Cn := RX9) _ 0 5 hC hd hn rfl rfl inX9 (by decide) (TB_of (i := 302) (by decide +kernel) rfl) rfl k
theorem gX9_cw_drawing (hC : xc C (GX E) RX9 cc nL ret rm) (hd : decode cc pc = .ok (.getfield 56, 3)) (hn : pc + 3 = pc') (k : xw C (GX E) nL Q σ pc' lv (.ref (E.2.2.1 7) :: st)) : xw C (GX E) nL Q σ pc lv (.ref (E.2.2.1 0) :: st) := xr_get (T := TX9) (N := 9) (Cn := RX9) _ 0 6 hC hd hn rfl rfl inX9 (by decide) (TB_of (i := 303) (by decide +kernel) rfl) rfl k
theorem gX9_cw_orders (hC : xc C (GX E) RX9 cc nL ret rm) (hd : decode cc pc = .ok (.getfield 63, 3)) (hn : pc + 3 = pc') (k : xw C (GX E) nL Q σ pc' lv (.ref (E.2.2.1 9) :: st)) : xw C (GX E) nL Q σ pc lv (.ref (E.2.2.1 0) :: st) := xr_get (T := TX9) (N := 9) (Cn := RX9) _ 0 7 hC hd hn rfl rfl inX9 (by decide) (TB_of (i := 304) (by decide +kernel) rfl) rfl k
theorem gX9_cw_finds (hC : xc C (GX E) RX9 cc nL ret rm) (hd : decode cc pc = .ok (.getfield 70, 3)) (hn : pc + 3 = pc') (k : xw C (GX E) nL Q σ pc' lv (.ref (E.2.2.1 10) :: st)) : xw C (GX E) nL Q σ pc lv (.ref (E.2.2.1 0) :: st) := xr_get (T := TX9) (N := 9) (Cn := RX9) _ 0 8 hC hd hn rfl rfl inX9 (by decide) (TB_of (i := 305) (by decide +kernel) rfl) rfl k
theorem gX0_cells_solidCells (hC : xc C (GX E) RX0 cc nL ret rm) (hd : decode cc pc = .ok (.getfield 9, 3)) (hn : pc + 3 = pc') (k : xw C (GX E) nL Q σ pc' lv (.ref (E.2.2.1 13) :: st)) : xw C (GX E) nL Q σ pc lv (.ref (E.2.2.1 3) :: st) := xr_get (T := TX0) (N := 5) (Cn := RX0) _ 3 0 hC hd hn rfl rfl inX0 (by decide) (TB_of (i := 128) (by decide +kernel) rfl) rfl k
theorem gX0_draft_solidCells (hC : xc C (GX E) RX0 cc nL ret rm) (hd : decode cc pc = .ok (.getfield 9, 3)) (hn : pc + 3 = pc') (k : xw C (GX E) nL Q σ pc' lv (.ref (E.2.2.1 15) :: st)) : xw C (GX E) nL Q σ pc lv (.ref (E.2.2.1 4) :: st) := xr_get (T := TX0) (N := 5) (Cn := RX0) _ 4 0 hC hd hn rfl rfl inX0 (by decide) (TB_of (i := 128) (by decide +kernel) rfl) rfl k
theorem gX0_cells_layer (hC : xc C (GX E) RX0 cc nL ret rm) (hd : decode cc pc = .ok (.getfield 13, 3)) (hn : pc + 3 = pc') (k : xw C (GX E) nL Q σ pc' lv (.ref (E.2.2.1 14) :: st)) : xw C (GX E) nL Q σ pc lv (.ref (E.2.2.1 3) :: st) := xr_get (T := TX0) (N := 5) (Cn := RX0) _ 3 1 hC hd hn rfl rfl inX0 (by decide) (TB_of (i := 129) (by decide +kernel) rfl) rfl k
theorem gX0_draft_layer (hC : xc C (GX E) RX0 cc nL ret rm) (hd : decode cc pc = .ok (.getfield 13, 3)) (hn : pc + 3 = pc') (k : xw C (GX E) nL Q σ pc' lv (.ref (E.2.2.1 16) :: st)) : xw C (GX E) nL Q σ pc lv (.ref (E.2.2.1 4) :: st) := xr_get (T := TX0) (N := 5) (Cn := RX0) _ 4 1 hC hd hn rfl rfl inX0 (by decide) (TB_of (i := 129) (by decide +kernel) rfl) rfl k
theorem gX0_cells_wide (hC : xc C (GX E) RX0 cc nL ret rm) (hd : decode cc pc = .ok (.getfield 16, 3)) (hn : pc + 3 = pc') (k : xw C (GX E) nL Q σ pc' lv (.int (σ.1 4) :: st)) : xw C (GX E) nL Q σ pc lv (.ref (E.2.2.1 3) :: st) := xr_get (T := TX0) (N := 5) (Cn := RX0) _ 3 2 hC hd hn rfl rfl inX0 (by decide) (TB_of (i := 131) (by decide +kernel) rfl) rfl k
theorem pX0_cells_wide {x : Int32} {X : xS → Option α} (hC : xc C (GX E) RX0 cc nL ret rm) (hd : decode cc pc = .ok (.putfield 16, 3)) (hn : pc + 3 = pc') (hf : put σ 4 x X = some res) (k : ∀ σ' : xS, X σ' = some res → xw C (GX E) nL Q σ' pc' lv st) : xw C (GX E) nL Q σ pc lv (.int x :: .ref (E.2.2.1 3) :: st) := xr_put (T := TX0) (N := 5) (Cn := RX0) (ty := .int) 3 2 4 hC hd hn rfl rfl inX0 tyX0 tyX0_ok nmX0 (by decide) (TB_of (i := 131) (by decide +kernel) rfl) rfl (by decide +kernel) rfl rfl (Nat.le_of_ble_eq_true rfl) (wX_i4 E.2.2.1 E.2.2.2.1 σ x) hf k
theorem gX0_draft_wide (hC : xc C (GX E) RX0 cc nL ret rm) (hd : decode cc pc = .ok (.getfield 16, 3)) (hn : pc + 3 = pc') (k : xw C (GX E) nL Q σ pc' lv (.int (σ.1 7) :: st)) : xw C (GX E) nL Q σ pc lv (.ref (E.2.2.1 4) :: st) := xr_get (T := TX0) (N := 5) (Cn := RX0) _ 4 2 hC hd hn rfl rfl inX0 (by decide) (TB_of (i := 131) (by decide +kernel) rfl) rfl k
theorem pX0_draft_wide {x : Int32} {X : xS → Option α} (hC : xc C (GX E) RX0 cc nL ret rm) (hd : decode cc pc = .ok (.putfield 16, 3)) (hn : pc + 3 = pc') (hf : put σ 7 x X = some res) (k : ∀ σ' : xS, X σ' = some res → xw C (GX E) nL Q σ' pc' lv st) : xw C (GX E) nL Q σ pc lv (.int x :: .ref (E.2.2.1 4) :: st) := xr_put (T := TX0) (N := 5) (Cn := RX0) (ty := .int) 4 2 7 hC hd hn rfl rfl inX0 tyX0 tyX0_ok nmX0 (by decide) (TB_of (i := 131) (by decide +kernel) rfl) rfl (by decide +kernel) rfl rfl (Nat.le_of_ble_eq_true rfl) (wX_i7 E.2.2.1 E.2.2.2.1 σ x) hf k
theorem gX0_cells_high (hC : xc C (GX E) RX0 cc nL ret rm) (hd : decode cc pc = .ok (.getfield 20, 3)) (hn : pc + 3 = pc') (k : xw C (GX E) nL Q σ pc' lv (.int (σ.1 5) :: st)) : xw C (GX E) nL Q σ pc lv (.ref (E.2.2.1 3) :: st) := xr_get (T := TX0) (N := 5) (Cn := RX0) _ 3 3 hC hd hn rfl rfl inX0 (by decide) (TB_of (i := 133) (by decide +kernel) rfl) rfl k
theorem pX0_cells_high {x : Int32} {X : xS → Option α} (hC : xc C (GX E) RX0 cc nL ret rm) (hd : decode cc pc = .ok (.putfield 20, 3)) (hn : pc + 3 = pc') (hf : put σ 5 x X = some res) (k : ∀ σ' : xS, X σ' = some res → xw C (GX E) nL Q σ' pc' lv st) : xw C (GX E) nL Q σ pc lv (.int x :: .ref (E.2.2.1 3) :: st) := xr_put (T := TX0) (N := 5) (Cn := RX0) (ty := .int) 3 3 5 hC hd hn rfl rfl inX0 tyX0 tyX0_ok nmX0 (by decide) (TB_of (i := 133) (by decide +kernel) rfl) rfl (by decide +kernel) rfl rfl (Nat.le_of_ble_eq_true rfl) (wX_i5 E.2.2.1 E.2.2.2.1 σ x) hf k
theorem gX0_draft_high (hC : xc C (GX E) RX0 cc nL ret rm) (hd : decode cc pc = .ok (.getfield 20, 3)) (hn : pc + 3 = pc') (k : xw C (GX E) nL Q σ pc' lv (.int (σ.1 8) :: st)) : xw C (GX E) nL Q σ pc lv (.ref (E.2.2.1 4) :: st) := xr_get (T := TX0) (N := 5) (Cn := RX0) _ 4 3 hC hd hn rfl rfl inX0 (by decide) (TB_of (i := 133) (by decide +kernel) rfl) rfl k
theorem pX0_draft_high {x : Int32} {X : xS → Option α} (hC : xc C (GX E) RX0 cc nL ret rm) (hd : decode cc pc = .ok (.putfield 20, 3)) (hn : pc + 3 = pc') (hf : put σ 8 x X = some res) (k : ∀ σ' : xS, X σ' = some res → xw C (GX E) nL Q σ' pc' lv st) : xw C (GX E) nL Q σ pc lv (.int x :: .ref (E.2.2.1 4) :: st) := xr_put (T := TX0) (N := 5) (Cn := RX0) (ty := .int) 4 3 8 hC hd hn rfl rfl inX0 tyX0 tyX0_ok nmX0 (by decide) (TB_of (i := 133) (by decide +kernel) rfl) rfl (by decide +kernel) rfl rfl (Nat.le_of_ble_eq_true rfl) (wX_i8 E.2.2.1 E.2.2.2.1 σ x) hf k
theorem gX0_cells_deep (hC : xc C (GX E) RX0 cc nL ret rm) (hd : decode cc pc = .ok (.getfield 23, 3)) (hn : pc + 3 = pc') (k : xw C (GX E) nL Q σ pc' lv (.int (σ.1 6) :: st)) : xw C (GX E) nL Q σ pc lv (.ref (E.2.2.1 3) :: st) := xr_get (T := TX0) (N := 5) (Cn := RX0) _ 3 4 hC hd hn rfl rfl inX0 (by decide) (TB_of (i := 135) (by decide +kernel) rfl) rfl k
theorem pX0_cells_deep {x : Int32} {X : xS → Option α} (hC : xc C (GX E) RX0 cc nL ret rm) (hd : decode cc pc = .ok (.putfield 23, 3)) (hn : pc + 3 = pc') (hf : put σ 6 x X = some res) (k : ∀ σ' : xS, X σ' = some res → xw C (GX E) nL Q σ' pc' lv st) : xw C (GX E) nL Q σ pc lv (.int x :: .ref (E.2.2.1 3) :: st) := xr_put (T := TX0) (N := 5) (Cn := RX0) (ty := .int) 3 4 6 hC hd hn rfl rfl inX0 tyX0 tyX0_ok nmX0 (by decide) (TB_of (i := 135) (by decide +kernel) rfl) rfl (by decide +kernel) rfl rfl (Nat.le_of_ble_eq_true rfl) (wX_i6 E.2.2.1 E.2.2.2.1 σ x) hf k
theorem gX0_draft_deep (hC : xc C (GX E) RX0 cc nL ret rm) (hd : decode cc pc = .ok (.getfield 23, 3)) (hn : pc + 3 = pc') (k : xw C (GX E) nL Q σ pc' lv (.int (σ.1 9) :: st)) : xw C (GX E) nL Q σ pc lv (.ref (E.2.2.1 4) :: st) := xr_get (T := TX0) (N := 5) (Cn := RX0) _ 4 4 hC hd hn rfl rfl inX0 (by decide) (TB_of (i := 135) (by decide +kernel) rfl) rfl k
theorem pX0_draft_deep {x : Int32} {X : xS → Option α} (hC : xc C (GX E) RX0 cc nL ret rm) (hd : decode cc pc = .ok (.putfield 23, 3)) (hn : pc + 3 = pc') (hf : put σ 9 x X = some res) (k : ∀ σ' : xS, X σ' = some res → xw C (GX E) nL Q σ' pc' lv st) : xw C (GX E) nL Q σ pc lv (.int x :: .ref (E.2.2.1 4) :: st) := xr_put (T := TX0) (N := 5) (Cn := RX0) (ty := .int) 4 4 9 hC hd hn rfl rfl inX0 tyX0 tyX0_ok nmX0 (by decide) (TB_of (i := 135) (by decide +kernel) rfl) rfl (by decide +kernel) rfl rfl (Nat.le_of_ble_eq_true rfl) (wX_i9 E.2.2.1 E.2.2.2.1 σ x) hf k
theorem gX1_drawing_ways (hC : xc C (GX E) RX1 cc nL ret rm) (hd : decode cc pc = .ok (.getfield 11, 3)) (hn : pc + 3 = pc') (k : xw C (GX E) nL Q σ pc' lv (.ref (E.2.2.1 23) :: st)) : xw C (GX E) nL Q σ pc lv (.ref (E.2.2.1 7) :: st) := xr_get (T := TX1) (N := 8) (Cn := RX1) _ 7 3 hC hd hn rfl rfl inX1 (by decide) (TB_of (i := 219) (by decide +kernel) rfl) rfl k
theorem gX1_drawing_piecesToCome (hC : xc C (GX E) RX1 cc nL ret rm) (hd : decode cc pc = .ok (.getfield 17, 3)) (hn : pc + 3 = pc') (k : xw C (GX E) nL Q σ pc' lv (.ref (E.2.2.1 24) :: st)) : xw C (GX E) nL Q σ pc lv (.ref (E.2.2.1 7) :: st) := xr_get (T := TX1) (N := 8) (Cn := RX1) _ 7 5 hC hd hn rfl rfl inX1 (by decide) (TB_of (i := 221) (by decide +kernel) rfl) rfl k
theorem gX1_drawing_wayToCome (hC : xc C (GX E) RX1 cc nL ret rm) (hd : decode cc pc = .ok (.getfield 20, 3)) (hn : pc + 3 = pc') (k : xw C (GX E) nL Q σ pc' lv (.ref (E.2.2.1 25) :: st)) : xw C (GX E) nL Q σ pc lv (.ref (E.2.2.1 7) :: st) := xr_get (T := TX1) (N := 8) (Cn := RX1) _ 7 6 hC hd hn rfl rfl inX1 (by decide) (TB_of (i := 222) (by decide +kernel) rfl) rfl k
theorem gX1_drawing_cellsFreeBy (hC : xc C (GX E) RX1 cc nL ret rm) (hd : decode cc pc = .ok (.getfield 23, 3)) (hn : pc + 3 = pc') (k : xw C (GX E) nL Q σ pc' lv (.ref (E.2.2.1 26) :: st)) : xw C (GX E) nL Q σ pc lv (.ref (E.2.2.1 7) :: st) := xr_get (T := TX1) (N := 8) (Cn := RX1) _ 7 7 hC hd hn rfl rfl inX1 (by decide) (TB_of (i := 223) (by decide +kernel) rfl) rfl k
theorem gX1_drawing_mould (hC : xc C (GX E) RX1 cc nL ret rm) (hd : decode cc pc = .ok (.getfield 26, 3)) (hn : pc + 3 = pc') (k : xw C (GX E) nL Q σ pc' lv (.ref (E.2.2.1 5) :: st)) : xw C (GX E) nL Q σ pc lv (.ref (E.2.2.1 7) :: st) := xr_get (T := TX1) (N := 8) (Cn := RX1) _ 7 0 hC hd hn rfl rfl inX1 (by decide) (TB_of (i := 216) (by decide +kernel) rfl) rfl k
theorem gX1_drawing_pieces (hC : xc C (GX E) RX1 cc nL ret rm) (hd : decode cc pc = .ok (.getfield 30, 3)) (hn : pc + 3 = pc') (k : xw C (GX E) nL Q σ pc' lv (.ref (E.2.2.1 6) :: st)) : xw C (GX E) nL Q σ pc lv (.ref (E.2.2.1 7) :: st) := xr_get (T := TX1) (N := 8) (Cn := RX1) _ 7 1 hC hd hn rfl rfl inX1 (by decide) (TB_of (i := 217) (by decide +kernel) rfl) rfl k
theorem gX1_drawing_parting (hC : xc C (GX E) RX1 cc nL ret rm) (hd : decode cc pc = .ok (.getfield 39, 3)) (hn : pc + 3 = pc') (k : xw C (GX E) nL Q σ pc' lv (.ref (E.2.2.1 8) :: st)) : xw C (GX E) nL Q σ pc lv (.ref (E.2.2.1 7) :: st) := xr_get (T := TX1) (N := 8) (Cn := RX1) _ 7 2 hC hd hn rfl rfl inX1 (by decide) (TB_of (i := 218) (by decide +kernel) rfl) rfl k
theorem gX1_drawing_wayCount (hC : xc C (GX E) RX1 cc nL ret rm) (hd : decode cc pc = .ok (.getfield 43, 3)) (hn : pc + 3 = pc') (k : xw C (GX E) nL Q σ pc' lv (.int (σ.1 14) :: st)) : xw C (GX E) nL Q σ pc lv (.ref (E.2.2.1 7) :: st) := xr_get (T := TX1) (N := 8) (Cn := RX1) _ 7 4 hC hd hn rfl rfl inX1 (by decide) (TB_of (i := 220) (by decide +kernel) rfl) rfl k
theorem pX1_drawing_wayCount {x : Int32} {X : xS → Option α} (hC : xc C (GX E) RX1 cc nL ret rm) (hd : decode cc pc = .ok (.putfield 43, 3)) (hn : pc + 3 = pc') (hf : put σ 14 x X = some res) (k : ∀ σ' : xS, X σ' = some res → xw C (GX E) nL Q σ' pc' lv st) : xw C (GX E) nL Q σ pc lv (.int x :: .ref (E.2.2.1 7) :: st) := xr_put (T := TX1) (N := 8) (Cn := RX1) (ty := .int) 7 4 14 hC hd hn rfl rfl inX1 tyX1 tyX1_ok nmX1 (by decide) (TB_of (i := 220) (by decide +kernel) rfl) rfl (by decide +kernel) rfl rfl (Nat.le_of_ble_eq_true rfl) (wX_i14 E.2.2.1 E.2.2.2.1 σ x) hf k
theorem gX2_finds_sizes (hC : xc C (GX E) RX2 cc nL ret rm) (hd : decode cc pc = .ok (.getfield 11, 3)) (hn : pc + 3 = pc') (k : xw C (GX E) nL Q σ pc' lv (.ref (E.2.2.1 36) :: st)) : xw C (GX E) nL Q σ pc lv (.ref (E.2.2.1 10) :: st) := xr_get (T := TX2) (N := 5) (Cn := RX2) _ 10 0 hC hd hn rfl rfl inX2 (by decide) (TB_of (i := 281) (by decide +kernel) rfl) rfl k
theorem gX2_finds_details (hC : xc C (GX E) RX2 cc nL ret rm) (hd : decode cc pc = .ok (.getfield 15, 3)) (hn : pc + 3 = pc') (k : xw C (GX E) nL Q σ pc' lv (.ref (E.2.2.1 37) :: st)) : xw C (GX E) nL Q σ pc lv (.ref (E.2.2.1 10) :: st) := xr_get (T := TX2) (N := 5) (Cn := RX2) _ 10 1 hC hd hn rfl rfl inX2 (by decide) (TB_of (i := 282) (by decide +kernel) rfl) rfl k
theorem gX2_finds_shrinking (hC : xc C (GX E) RX2 cc nL ret rm) (hd : decode cc pc = .ok (.getfield 18, 3)) (hn : pc + 3 = pc') (k : xw C (GX E) nL Q σ pc' lv (.int (σ.1 17) :: st)) : xw C (GX E) nL Q σ pc lv (.ref (E.2.2.1 10) :: st) := xr_get (T := TX2) (N := 5) (Cn := RX2) _ 10 2 hC hd hn rfl rfl inX2 (by decide) (TB_of (i := 283) (by decide +kernel) rfl) rfl k
theorem pX2_finds_shrinking {x : Int32} {X : xS → Option α} (hC : xc C (GX E) RX2 cc nL ret rm) (hd : decode cc pc = .ok (.putfield 18, 3)) (hn : pc + 3 = pc') (hf : put σ 17 x X = some res) (k : ∀ σ' : xS, X σ' = some res → xw C (GX E) nL Q σ' pc' lv st) : xw C (GX E) nL Q σ pc lv (.int x :: .ref (E.2.2.1 10) :: st) := xr_put (T := TX2) (N := 5) (Cn := RX2) (ty := .int) 10 2 17 hC hd hn rfl rfl inX2 tyX2 tyX2_ok nmX2 (by decide) (TB_of (i := 283) (by decide +kernel) rfl) rfl (by decide +kernel) rfl rfl (Nat.le_of_ble_eq_true rfl) (wX_i17 E.2.2.1 E.2.2.2.1 σ x) hf k
theorem gX2_finds_blurring (hC : xc C (GX E) RX2 cc nL ret rm) (hd : decode cc pc = .ok (.getfield 22, 3)) (hn : pc + 3 = pc') (k : xw C (GX E) nL Q σ pc' lv (.int (σ.1 18) :: st)) : xw C (GX E) nL Q σ pc lv (.ref (E.2.2.1 10) :: st) := xr_get (T := TX2) (N := 5) (Cn := RX2) _ 10 3 hC hd hn rfl rfl inX2 (by decide) (TB_of (i := 284) (by decide +kernel) rfl) rfl k
theorem pX2_finds_blurring {x : Int32} {X : xS → Option α} (hC : xc C (GX E) RX2 cc nL ret rm) (hd : decode cc pc = .ok (.putfield 22, 3)) (hn : pc + 3 = pc') (hf : put σ 18 x X = some res) (k : ∀ σ' : xS, X σ' = some res → xw C (GX E) nL Q σ' pc' lv st) : xw C (GX E) nL Q σ pc lv (.int x :: .ref (E.2.2.1 10) :: st) := xr_put (T := TX2) (N := 5) (Cn := RX2) (ty := .int) 10 3 18 hC hd hn rfl rfl inX2 tyX2 tyX2_ok nmX2 (by decide) (TB_of (i := 284) (by decide +kernel) rfl) rfl (by decide +kernel) rfl rfl (Nat.le_of_ble_eq_true rfl) (wX_i18 E.2.2.1 E.2.2.2.1 σ x) hf k
theorem gX2_finds_mostQuarrel (hC : xc C (GX E) RX2 cc nL ret rm) (hd : decode cc pc = .ok (.getfield 25, 3)) (hn : pc + 3 = pc') (k : xw C (GX E) nL Q σ pc' lv (.int (σ.1 19) :: st)) : xw C (GX E) nL Q σ pc lv (.ref (E.2.2.1 10) :: st) := xr_get (T := TX2) (N := 5) (Cn := RX2) _ 10 4 hC hd hn rfl rfl inX2 (by decide) (TB_of (i := 285) (by decide +kernel) rfl) rfl k
theorem pX2_finds_mostQuarrel {x : Int32} {X : xS → Option α} (hC : xc C (GX E) RX2 cc nL ret rm) (hd : decode cc pc = .ok (.putfield 25, 3)) (hn : pc + 3 = pc') (hf : put σ 19 x X = some res) (k : ∀ σ' : xS, X σ' = some res → xw C (GX E) nL Q σ' pc' lv st) : xw C (GX E) nL Q σ pc lv (.int x :: .ref (E.2.2.1 10) :: st) := xr_put (T := TX2) (N := 5) (Cn := RX2) (ty := .int) 10 4 19 hC hd hn rfl rfl inX2 tyX2 tyX2_ok nmX2 (by decide) (TB_of (i := 285) (by decide +kernel) rfl) rfl (by decide +kernel) rfl rfl (Nat.le_of_ble_eq_true rfl) (wX_i19 E.2.2.1 E.2.2.2.1 σ x) hf k
theorem gX3_mould_members (hC : xc C (GX E) RX3 cc nL ret rm) (hd : decode cc pc = .ok (.getfield 11, 3)) (hn : pc + 3 = pc') (k : xw C (GX E) nL Q σ pc' lv (.ref (E.2.2.1 17) :: st)) : xw C (GX E) nL Q σ pc lv (.ref (E.2.2.1 5) :: st) := xr_get (T := TX3) (N := 4) (Cn := RX3) _ 5 1 hC hd hn rfl rfl inX3 (by decide) (TB_of (i := 154) (by decide +kernel) rfl) rfl k
theorem gX3_mould_freeBits (hC : xc C (GX E) RX3 cc nL ret rm) (hd : decode cc pc = .ok (.getfield 17, 3)) (hn : pc + 3 = pc') (k : xw C (GX E) nL Q σ pc' lv (.ref (E.2.2.1 18) :: st)) : xw C (GX E) nL Q σ pc lv (.ref (E.2.2.1 5) :: st) := xr_get (T := TX3) (N := 4) (Cn := RX3) _ 5 3 hC hd hn rfl rfl inX3 (by decide) (TB_of (i := 156) (by decide +kernel) rfl) rfl k
theorem gX3_mould_cells (hC : xc C (GX E) RX3 cc nL ret rm) (hd : decode cc pc = .ok (.getfield 20, 3)) (hn : pc + 3 = pc') (k : xw C (GX E) nL Q σ pc' lv (.ref (E.2.2.1 3) :: st)) : xw C (GX E) nL Q σ pc lv (.ref (E.2.2.1 5) :: st) := xr_get (T := TX3) (N := 4) (Cn := RX3) _ 5 0 hC hd hn rfl rfl inX3 (by decide) (TB_of (i := 153) (by decide +kernel) rfl) rfl k
theorem gX3_mould_length (hC : xc C (GX E) RX3 cc nL ret rm) (hd : decode cc pc = .ok (.getfield 30, 3)) (hn : pc + 3 = pc') (k : xw C (GX E) nL Q σ pc' lv (.int (σ.1 10) :: st)) : xw C (GX E) nL Q σ pc lv (.ref (E.2.2.1 5) :: st) := xr_get (T := TX3) (N := 4) (Cn := RX3) _ 5 2 hC hd hn rfl rfl inX3 (by decide) (TB_of (i := 155) (by decide +kernel) rfl) rfl k
theorem pX3_mould_length {x : Int32} {X : xS → Option α} (hC : xc C (GX E) RX3 cc nL ret rm) (hd : decode cc pc = .ok (.putfield 30, 3)) (hn : pc + 3 = pc') (hf : put σ 10 x X = some res) (k : ∀ σ' : xS, X σ' = some res → xw C (GX E) nL Q σ' pc' lv st) : xw C (GX E) nL Q σ pc lv (.int x :: .ref (E.2.2.1 5) :: st) := xr_put (T := TX3) (N := 4) (Cn := RX3) (ty := .int) 5 2 10 hC hd hn rfl rfl inX3 tyX3 tyX3_ok nmX3 (by decide) (TB_of (i := 155) (by decide +kernel) rfl) rfl (by decide +kernel) rfl rfl (Nat.le_of_ble_eq_true rfl) (wX_i10 E.2.2.1 E.2.2.2.1 σ x) hf k
theorem gX3_cells_deep (hC : xc C (GX E) RX3 cc nL ret rm) (hd : decode cc pc = .ok (.getfield 34, 3)) (hn : pc + 3 = pc') (k : xw C (GX E) nL Q σ pc' lv (.int (σ.1 6) :: st)) : xw C (GX E) nL Q σ pc lv (.ref (E.2.2.1 3) :: st) := xr_getN (host := RX9) (T := TX0) (N := 5) (Cn := RX0) _ 3 4 hC hd hn rfl rfl inX0 (by decide) (fun s h => h.1.2.2) rfl k
theorem gX3_draft_deep (hC : xc C (GX E) RX3 cc nL ret rm) (hd : decode cc pc = .ok (.getfield 34, 3)) (hn : pc + 3 = pc') (k : xw C (GX E) nL Q σ pc' lv (.int (σ.1 9) :: st)) : xw C (GX E) nL Q σ pc lv (.ref (E.2.2.1 4) :: st) := xr_getN (host := RX9) (T := TX0) (N := 5) (Cn := RX0) _ 4 4 hC hd hn rfl rfl inX0 (by decide) (fun s h => h.1.2.2) rfl k
theorem gX3_cells_high (hC : xc C (GX E) RX3 cc nL ret rm) (hd : decode cc pc = .ok (.getfield 37, 3)) (hn : pc + 3 = pc') (k : xw C (GX E) nL Q σ pc' lv (.int (σ.1 5) :: st)) : xw C (GX E) nL Q σ pc lv (.ref (E.2.2.1 3) :: st) := xr_getN (host := RX9) (T := TX0) (N := 5) (Cn := RX0) _ 3 3 hC hd hn rfl rfl inX0 (by decide) (fun s h => h.1.2.1) rfl k
theorem gX3_draft_high (hC : xc C (GX E) RX3 cc nL ret rm) (hd : decode cc pc = .ok (.getfield 37, 3)) (hn : pc + 3 = pc') (k : xw C (GX E) nL Q σ pc' lv (.int (σ.1 8) :: st)) : xw C (GX E) nL Q σ pc lv (.ref (E.2.2.1 4) :: st) := xr_getN (host := RX9) (T := TX0) (N := 5) (Cn := RX0) _ 4 3 hC hd hn rfl rfl inX0 (by decide) (fun s h => h.1.2.1) rfl k
theorem gX3_cells_wide (hC : xc C (GX E) RX3 cc nL ret rm) (hd : decode cc pc = .ok (.getfield 40, 3)) (hn : pc + 3 = pc') (k : xw C (GX E) nL Q σ pc' lv (.int (σ.1 4) :: st)) : xw C (GX E) nL Q σ pc lv (.ref (E.2.2.1 3) :: st) := xr_getN (host := RX9) (T := TX0) (N := 5) (Cn := RX0) _ 3 2 hC hd hn rfl rfl inX0 (by decide) (fun s h => h.1.1) rfl k
theorem gX3_draft_wide (hC : xc C (GX E) RX3 cc nL ret rm) (hd : decode cc pc = .ok (.getfield 40, 3)) (hn : pc + 3 = pc') (k : xw C (GX E) nL Q σ pc' lv (.int (σ.1 7) :: st)) : xw C (GX E) nL Q σ pc lv (.ref (E.2.2.1 4) :: st) := xr_getN (host := RX9) (T := TX0) (N := 5) (Cn := RX0) _ 4 2 hC hd hn rfl rfl inX0 (by decide) (fun s h => h.1.1) rfl k
theorem gX4_orders_pours (hC : xc C (GX E) RX4 cc nL ret rm) (hd : decode cc pc = .ok (.getfield 11, 3)) (hn : pc + 3 = pc') (k : xw C (GX E) nL Q σ pc' lv (.ref (E.2.2.1 29) :: st)) : xw C (GX E) nL Q σ pc lv (.ref (E.2.2.1 9) :: st) := xr_get (T := TX4) (N := 9) (Cn := RX4) _ 9 0 hC hd hn rfl rfl inX4 (by decide) (TB_of (i := 247) (by decide +kernel) rfl) rfl k
theorem gX4_orders_dues (hC : xc C (GX E) RX4 cc nL ret rm) (hd : decode cc pc = .ok (.getfield 15, 3)) (hn : pc + 3 = pc') (k : xw C (GX E) nL Q σ pc' lv (.ref (E.2.2.1 30) :: st)) : xw C (GX E) nL Q σ pc lv (.ref (E.2.2.1 9) :: st) := xr_get (T := TX4) (N := 9) (Cn := RX4) _ 9 1 hC hd hn rfl rfl inX4 (by decide) (TB_of (i := 248) (by decide +kernel) rfl) rfl k
theorem gX4_orders_weights (hC : xc C (GX E) RX4 cc nL ret rm) (hd : decode cc pc = .ok (.getfield 18, 3)) (hn : pc + 3 = pc') (k : xw C (GX E) nL Q σ pc' lv (.ref (E.2.2.1 31) :: st)) : xw C (GX E) nL Q σ pc lv (.ref (E.2.2.1 9) :: st) := xr_get (T := TX4) (N := 9) (Cn := RX4) _ 9 2 hC hd hn rfl rfl inX4 (by decide) (TB_of (i := 249) (by decide +kernel) rfl) rfl k
theorem gX4_orders_dryDays (hC : xc C (GX E) RX4 cc nL ret rm) (hd : decode cc pc = .ok (.getfield 21, 3)) (hn : pc + 3 = pc') (k : xw C (GX E) nL Q σ pc' lv (.int (σ.1 15) :: st)) : xw C (GX E) nL Q σ pc lv (.ref (E.2.2.1 9) :: st) := xr_get (T := TX4) (N := 9) (Cn := RX4) _ 9 3 hC hd hn rfl rfl inX4 (by decide) (TB_of (i := 250) (by decide +kernel) rfl) rfl k
theorem pX4_orders_dryDays {x : Int32} {X : xS → Option α} (hC : xc C (GX E) RX4 cc nL ret rm) (hd : decode cc pc = .ok (.putfield 21, 3)) (hn : pc + 3 = pc') (hf : put σ 15 x X = some res) (k : ∀ σ' : xS, X σ' = some res → xw C (GX E) nL Q σ' pc' lv st) : xw C (GX E) nL Q σ pc lv (.int x :: .ref (E.2.2.1 9) :: st) := xr_put (T := TX4) (N := 9) (Cn := RX4) (ty := .int) 9 3 15 hC hd hn rfl rfl inX4 tyX4 tyX4_ok nmX4 (by decide) (TB_of (i := 250) (by decide +kernel) rfl) rfl (by decide +kernel) rfl rfl (Nat.le_of_ble_eq_true rfl) (wX_i15 E.2.2.1 E.2.2.2.1 σ x) hf k
theorem gX4_orders_leastSum (hC : xc C (GX E) RX4 cc nL ret rm) (hd : decode cc pc = .ok (.getfield 25, 3)) (hn : pc + 3 = pc') (k : xw C (GX E) nL Q σ pc' lv (.ref (E.2.2.1 32) :: st)) : xw C (GX E) nL Q σ pc lv (.ref (E.2.2.1 9) :: st) := xr_get (T := TX4) (N := 9) (Cn := RX4) _ 9 4 hC hd hn rfl rfl inX4 (by decide) (TB_of (i := 251) (by decide +kernel) rfl) rfl k
theorem gX4_orders_leader (hC : xc C (GX E) RX4 cc nL ret rm) (hd : decode cc pc = .ok (.getfield 28, 3)) (hn : pc + 3 = pc') (k : xw C (GX E) nL Q σ pc' lv (.ref (E.2.2.1 33) :: st)) : xw C (GX E) nL Q σ pc lv (.ref (E.2.2.1 9) :: st) := xr_get (T := TX4) (N := 9) (Cn := RX4) _ 9 5 hC hd hn rfl rfl inX4 (by decide) (TB_of (i := 252) (by decide +kernel) rfl) rfl k
theorem gX4_orders_rowOrders (hC : xc C (GX E) RX4 cc nL ret rm) (hd : decode cc pc = .ok (.getfield 31, 3)) (hn : pc + 3 = pc') (k : xw C (GX E) nL Q σ pc' lv (.ref (E.2.2.1 34) :: st)) : xw C (GX E) nL Q σ pc lv (.ref (E.2.2.1 9) :: st) := xr_get (T := TX4) (N := 9) (Cn := RX4) _ 9 6 hC hd hn rfl rfl inX4 (by decide) (TB_of (i := 253) (by decide +kernel) rfl) rfl k
theorem gX4_orders_rowLate (hC : xc C (GX E) RX4 cc nL ret rm) (hd : decode cc pc = .ok (.getfield 34, 3)) (hn : pc + 3 = pc') (k : xw C (GX E) nL Q σ pc' lv (.ref (E.2.2.1 35) :: st)) : xw C (GX E) nL Q σ pc lv (.ref (E.2.2.1 9) :: st) := xr_get (T := TX4) (N := 9) (Cn := RX4) _ 9 7 hC hd hn rfl rfl inX4 (by decide) (TB_of (i := 254) (by decide +kernel) rfl) rfl k
theorem gX4_orders_rowLength (hC : xc C (GX E) RX4 cc nL ret rm) (hd : decode cc pc = .ok (.getfield 37, 3)) (hn : pc + 3 = pc') (k : xw C (GX E) nL Q σ pc' lv (.int (σ.1 16) :: st)) : xw C (GX E) nL Q σ pc lv (.ref (E.2.2.1 9) :: st) := xr_get (T := TX4) (N := 9) (Cn := RX4) _ 9 8 hC hd hn rfl rfl inX4 (by decide) (TB_of (i := 255) (by decide +kernel) rfl) rfl k
theorem pX4_orders_rowLength {x : Int32} {X : xS → Option α} (hC : xc C (GX E) RX4 cc nL ret rm) (hd : decode cc pc = .ok (.putfield 37, 3)) (hn : pc + 3 = pc') (hf : put σ 16 x X = some res) (k : ∀ σ' : xS, X σ' = some res → xw C (GX E) nL Q σ' pc' lv st) : xw C (GX E) nL Q σ pc lv (.int x :: .ref (E.2.2.1 9) :: st) := xr_put (T := TX4) (N := 9) (Cn := RX4) (ty := .int) 9 8 16 hC hd hn rfl rfl inX4 tyX4 tyX4_ok nmX4 (by decide) (TB_of (i := 255) (by decide +kernel) rfl) rfl (by decide +kernel) rfl rfl (Nat.le_of_ble_eq_true rfl) (wX_i16 E.2.2.1 E.2.2.2.1 σ x) hf k
theorem gX5_parting_numberOf (hC : xc C (GX E) RX5 cc nL ret rm) (hd : decode cc pc = .ok (.getfield 11, 3)) (hn : pc + 3 = pc') (k : xw C (GX E) nL Q σ pc' lv (.ref (E.2.2.1 27) :: st)) : xw C (GX E) nL Q σ pc lv (.ref (E.2.2.1 8) :: st) := xr_get (T := TX5) (N := 3) (Cn := RX5) _ 8 1 hC hd hn rfl rfl inX5 (by decide) (TB_of (i := 207) (by decide +kernel) rfl) rfl k
theorem gX5_parting_waiting (hC : xc C (GX E) RX5 cc nL ret rm) (hd : decode cc pc = .ok (.getfield 17, 3)) (hn : pc + 3 = pc') (k : xw C (GX E) nL Q σ pc' lv (.ref (E.2.2.1 28) :: st)) : xw C (GX E) nL Q σ pc lv (.ref (E.2.2.1 8) :: st) := xr_get (T := TX5) (N := 3) (Cn := RX5) _ 8 2 hC hd hn rfl rfl inX5 (by decide) (TB_of (i := 208) (by decide +kernel) rfl) rfl k
theorem gX5_parting_mould (hC : xc C (GX E) RX5 cc nL ret rm) (hd : decode cc pc = .ok (.getfield 20, 3)) (hn : pc + 3 = pc') (k : xw C (GX E) nL Q σ pc' lv (.ref (E.2.2.1 5) :: st)) : xw C (GX E) nL Q σ pc lv (.ref (E.2.2.1 8) :: st) := xr_get (T := TX5) (N := 3) (Cn := RX5) _ 8 0 hC hd hn rfl rfl inX5 (by decide) (TB_of (i := 206) (by decide +kernel) rfl) rfl k
theorem gX6_pieces_ways (hC : xc C (GX E) RX6 cc nL ret rm) (hd : decode cc pc = .ok (.getfield 11, 3)) (hn : pc + 3 = pc') (k : xw C (GX E) nL Q σ pc' lv (.ref (E.2.2.1 19) :: st)) : xw C (GX E) nL Q σ pc lv (.ref (E.2.2.1 6) :: st) := xr_get (T := TX6) (N := 7) (Cn := RX6) _ 6 0 hC hd hn rfl rfl inX6 (by decide) (TB_of (i := 172) (by decide +kernel) rfl) rfl k
theorem gX6_pieces_sizes (hC : xc C (GX E) RX6 cc nL ret rm) (hd : decode cc pc = .ok (.getfield 17, 3)) (hn : pc + 3 = pc') (k : xw C (GX E) nL Q σ pc' lv (.ref (E.2.2.1 20) :: st)) : xw C (GX E) nL Q σ pc lv (.ref (E.2.2.1 6) :: st) := xr_get (T := TX6) (N := 7) (Cn := RX6) _ 6 1 hC hd hn rfl rfl inX6 (by decide) (TB_of (i := 173) (by decide +kernel) rfl) rfl k
theorem gX6_pieces_touching (hC : xc C (GX E) RX6 cc nL ret rm) (hd : decode cc pc = .ok (.getfield 20, 3)) (hn : pc + 3 = pc') (k : xw C (GX E) nL Q σ pc' lv (.ref (E.2.2.1 21) :: st)) : xw C (GX E) nL Q σ pc lv (.ref (E.2.2.1 6) :: st) := xr_get (T := TX6) (N := 7) (Cn := RX6) _ 6 2 hC hd hn rfl rfl inX6 (by decide) (TB_of (i := 174) (by decide +kernel) rfl) rfl k
theorem gX6_pieces_poured (hC : xc C (GX E) RX6 cc nL ret rm) (hd : decode cc pc = .ok (.getfield 23, 3)) (hn : pc + 3 = pc') (k : xw C (GX E) nL Q σ pc' lv (.ref (E.2.2.1 22) :: st)) : xw C (GX E) nL Q σ pc lv (.ref (E.2.2.1 6) :: st) := xr_get (T := TX6) (N := 7) (Cn := RX6) _ 6 3 hC hd hn rfl rfl inX6 (by decide) (TB_of (i := 175) (by decide +kernel) rfl) rfl k
theorem gX6_pieces_life (hC : xc C (GX E) RX6 cc nL ret rm) (hd : decode cc pc = .ok (.getfield 26, 3)) (hn : pc + 3 = pc') (k : xw C (GX E) nL Q σ pc' lv (.int (σ.1 12) :: st)) : xw C (GX E) nL Q σ pc lv (.ref (E.2.2.1 6) :: st) := xr_get (T := TX6) (N := 7) (Cn := RX6) _ 6 5 hC hd hn rfl rfl inX6 (by decide) (TB_of (i := 177) (by decide +kernel) rfl) rfl k
theorem pX6_pieces_life {x : Int32} {X : xS → Option α} (hC : xc C (GX E) RX6 cc nL ret rm) (hd : decode cc pc = .ok (.putfield 26, 3)) (hn : pc + 3 = pc') (hf : put σ 12 x X = some res) (k : ∀ σ' : xS, X σ' = some res → xw C (GX E) nL Q σ' pc' lv st) : xw C (GX E) nL Q σ pc lv (.int x :: .ref (E.2.2.1 6) :: st) := xr_put (T := TX6) (N := 7) (Cn := RX6) (ty := .int) 6 5 12 hC hd hn rfl rfl inX6 tyX6 tyX6_ok nmX6 (by decide) (TB_of (i := 177) (by decide +kernel) rfl) rfl (by decide +kernel) rfl rfl (Nat.le_of_ble_eq_true rfl) (wX_i12 E.2.2.1 E.2.2.2.1 σ x) hf k
theorem gX6_pieces_price (hC : xc C (GX E) RX6 cc nL ret rm) (hd : decode cc pc = .ok (.getfield 30, 3)) (hn : pc + 3 = pc') (k : xw C (GX E) nL Q σ pc' lv (.int (σ.1 13) :: st)) : xw C (GX E) nL Q σ pc lv (.ref (E.2.2.1 6) :: st) := xr_get (T := TX6) (N := 7) (Cn := RX6) _ 6 6 hC hd hn rfl rfl inX6 (by decide) (TB_of (i := 178) (by decide +kernel) rfl) rfl k
theorem pX6_pieces_price {x : Int32} {X : xS → Option α} (hC : xc C (GX E) RX6 cc nL ret rm) (hd : decode cc pc = .ok (.putfield 30, 3)) (hn : pc + 3 = pc') (hf : put σ 13 x X = some res) (k : ∀ σ' : xS, X σ' = some res → xw C (GX E) nL Q σ' pc' lv st) : xw C (GX E) nL Q σ pc lv (.int x :: .ref (E.2.2.1 6) :: st) := xr_put (T := TX6) (N := 7) (Cn := RX6) (ty := .int) 6 6 13 hC hd hn rfl rfl inX6 tyX6 tyX6_ok nmX6 (by decide) (TB_of (i := 178) (by decide +kernel) rfl) rfl (by decide +kernel) rfl rfl (Nat.le_of_ble_eq_true rfl) (wX_i13 E.2.2.1 E.2.2.2.1 σ x) hf k
theorem gX6_pieces_length (hC : xc C (GX E) RX6 cc nL ret rm) (hd : decode cc pc = .ok (.getfield 33, 3)) (hn : pc + 3 = pc') (k : xw C (GX E) nL Q σ pc' lv (.int (σ.1 11) :: st)) : xw C (GX E) nL Q σ pc lv (.ref (E.2.2.1 6) :: st) := xr_get (T := TX6) (N := 7) (Cn := RX6) _ 6 4 hC hd hn rfl rfl inX6 (by decide) (TB_of (i := 176) (by decide +kernel) rfl) rfl k
theorem pX6_pieces_length {x : Int32} {X : xS → Option α} (hC : xc C (GX E) RX6 cc nL ret rm) (hd : decode cc pc = .ok (.putfield 33, 3)) (hn : pc + 3 = pc') (hf : put σ 11 x X = some res) (k : ∀ σ' : xS, X σ' = some res → xw C (GX E) nL Q σ' pc' lv st) : xw C (GX E) nL Q σ pc lv (.int x :: .ref (E.2.2.1 6) :: st) := xr_put (T := TX6) (N := 7) (Cn := RX6) (ty := .int) 6 4 11 hC hd hn rfl rfl inX6 tyX6 tyX6_ok nmX6 (by decide) (TB_of (i := 176) (by decide +kernel) rfl) rfl (by decide +kernel) rfl rfl (Nat.le_of_ble_eq_true rfl) (wX_i11 E.2.2.1 E.2.2.2.1 σ x) hf k
theorem gX7_tape_bytes (hC : xc C (GX E) RX7 cc nL ret rm) (hd : decode cc pc = .ok (.getfield 11, 3)) (hn : pc + 3 = pc') (k : xw C (GX E) nL Q σ pc' lv (.ref (E.2.2.1 11) :: st)) : xw C (GX E) nL Q σ pc lv (.ref (E.2.2.1 1) :: st) := xr_get (T := TX7) (N := 2) (Cn := RX7) _ 1 0 hC hd hn rfl rfl inX7 (by decide) (TB_of (i := 92) (by decide +kernel) rfl) rfl k
theorem gX7_tape_length (hC : xc C (GX E) RX7 cc nL ret rm) (hd : decode cc pc = .ok (.getfield 15, 3)) (hn : pc + 3 = pc') (k : xw C (GX E) nL Q σ pc' lv (.int (σ.1 0) :: st)) : xw C (GX E) nL Q σ pc lv (.ref (E.2.2.1 1) :: st) := xr_get (T := TX7) (N := 2) (Cn := RX7) _ 1 1 hC hd hn rfl rfl inX7 (by decide) (TB_of (i := 93) (by decide +kernel) rfl) rfl k
theorem pX7_tape_length {x : Int32} {X : xS → Option α} (hC : xc C (GX E) RX7 cc nL ret rm) (hd : decode cc pc = .ok (.putfield 15, 3)) (hn : pc + 3 = pc') (hf : put σ 0 x X = some res) (k : ∀ σ' : xS, X σ' = some res → xw C (GX E) nL Q σ' pc' lv st) : xw C (GX E) nL Q σ pc lv (.int x :: .ref (E.2.2.1 1) :: st) := xr_put (T := TX7) (N := 2) (Cn := RX7) (ty := .int) 1 1 0 hC hd hn rfl rfl inX7 tyX7 tyX7_ok nmX7 (by decide) (TB_of (i := 93) (by decide +kernel) rfl) rfl (by decide +kernel) rfl rfl (Nat.le_of_ble_eq_true rfl) (wX_i0 E.2.2.1 E.2.2.2.1 σ x) hf k
theorem gX8_reader_numbers (hC : xc C (GX E) RX8 cc nL ret rm) (hd : decode cc pc = .ok (.getfield 11, 3)) (hn : pc + 3 = pc') (k : xw C (GX E) nL Q σ pc' lv (.ref (E.2.2.1 12) :: st)) : xw C (GX E) nL Q σ pc lv (.ref (E.2.2.1 2) :: st) := xr_get (T := TX8) (N := 5) (Cn := RX8) _ 2 1 hC hd hn rfl rfl inX8 (by decide) (TB_of (i := 107) (by decide +kernel) rfl) rfl k
theorem gX8_reader_kind (hC : xc C (GX E) RX8 cc nL ret rm) (hd : decode cc pc = .ok (.getfield 15, 3)) (hn : pc + 3 = pc') (k : xw C (GX E) nL Q σ pc' lv (.int (σ.1 2) :: st)) : xw C (GX E) nL Q σ pc lv (.ref (E.2.2.1 2) :: st) := xr_get (T := TX8) (N := 5) (Cn := RX8) _ 2 3 hC hd hn rfl rfl inX8 (by decide) (TB_of (i := 109) (by decide +kernel) rfl) rfl k
theorem pX8_reader_kind {x : Int32} {X : xS → Option α} (hC : xc C (GX E) RX8 cc nL ret rm) (hd : decode cc pc = .ok (.putfield 15, 3)) (hn : pc + 3 = pc') (hf : put σ 2 x X = some res) (k : ∀ σ' : xS, X σ' = some res → xw C (GX E) nL Q σ' pc' lv st) : xw C (GX E) nL Q σ pc lv (.int x :: .ref (E.2.2.1 2) :: st) := xr_put (T := TX8) (N := 5) (Cn := RX8) (ty := .int) 2 3 2 hC hd hn rfl rfl inX8 tyX8 tyX8_ok nmX8 (by decide) (TB_of (i := 109) (by decide +kernel) rfl) rfl (by decide +kernel) rfl rfl (Nat.le_of_ble_eq_true rfl) (wX_i2 E.2.2.1 E.2.2.2.1 σ x) hf k
theorem gX8_reader_kindPlace (hC : xc C (GX E) RX8 cc nL ret rm) (hd : decode cc pc = .ok (.getfield 19, 3)) (hn : pc + 3 = pc') (k : xw C (GX E) nL Q σ pc' lv (.int (σ.1 3) :: st)) : xw C (GX E) nL Q σ pc lv (.ref (E.2.2.1 2) :: st) := xr_get (T := TX8) (N := 5) (Cn := RX8) _ 2 4 hC hd hn rfl rfl inX8 (by decide) (TB_of (i := 110) (by decide +kernel) rfl) rfl k
theorem pX8_reader_kindPlace {x : Int32} {X : xS → Option α} (hC : xc C (GX E) RX8 cc nL ret rm) (hd : decode cc pc = .ok (.putfield 19, 3)) (hn : pc + 3 = pc') (hf : put σ 3 x X = some res) (k : ∀ σ' : xS, X σ' = some res → xw C (GX E) nL Q σ' pc' lv st) : xw C (GX E) nL Q σ pc lv (.int x :: .ref (E.2.2.1 2) :: st) := xr_put (T := TX8) (N := 5) (Cn := RX8) (ty := .int) 2 4 3 hC hd hn rfl rfl inX8 tyX8 tyX8_ok nmX8 (by decide) (TB_of (i := 110) (by decide +kernel) rfl) rfl (by decide +kernel) rfl rfl (Nat.le_of_ble_eq_true rfl) (wX_i3 E.2.2.1 E.2.2.2.1 σ x) hf k
theorem gX8_reader_tape (hC : xc C (GX E) RX8 cc nL ret rm) (hd : decode cc pc = .ok (.getfield 22, 3)) (hn : pc + 3 = pc') (k : xw C (GX E) nL Q σ pc' lv (.ref (E.2.2.1 1) :: st)) : xw C (GX E) nL Q σ pc lv (.ref (E.2.2.1 2) :: st) := xr_get (T := TX8) (N := 5) (Cn := RX8) _ 2 0 hC hd hn rfl rfl inX8 (by decide) (TB_of (i := 106) (by decide +kernel) rfl) rfl k
theorem gX8_reader_place (hC : xc C (GX E) RX8 cc nL ret rm) (hd : decode cc pc = .ok (.getfield 26, 3)) (hn : pc + 3 = pc') (k : xw C (GX E) nL Q σ pc' lv (.int (σ.1 1) :: st)) : xw C (GX E) nL Q σ pc lv (.ref (E.2.2.1 2) :: st) := xr_get (T := TX8) (N := 5) (Cn := RX8) _ 2 2 hC hd hn rfl rfl inX8 (by decide) (TB_of (i := 108) (by decide +kernel) rfl) rfl k
theorem pX8_reader_place {x : Int32} {X : xS → Option α} (hC : xc C (GX E) RX8 cc nL ret rm) (hd : decode cc pc = .ok (.putfield 26, 3)) (hn : pc + 3 = pc') (hf : put σ 1 x X = some res) (k : ∀ σ' : xS, X σ' = some res → xw C (GX E) nL Q σ' pc' lv st) : xw C (GX E) nL Q σ pc lv (.int x :: .ref (E.2.2.1 2) :: st) := xr_put (T := TX8) (N := 5) (Cn := RX8) (ty := .int) 2 2 1 hC hd hn rfl rfl inX8 tyX8 tyX8_ok nmX8 (by decide) (TB_of (i := 108) (by decide +kernel) rfl) rfl (by decide +kernel) rfl rfl (Nat.le_of_ble_eq_true rfl) (wX_i1 E.2.2.1 E.2.2.2.1 σ x) hf k
theorem lX_0 {i : Int32} {X : Int32 → Option α} (hC : xc C (GX E) own cc nL ret rm) (hd : decode cc pc = .ok (.iaload, 1)) (hn : pc + 1 = pc') (hf : ald σ 0 400 i X = some res) (k : ∀ x : Int32, X x = some res → xw C (GX E) nL Q σ pc' lv (.int x :: st)) : xw C (GX E) nL Q σ pc lv (.int i :: .ref (E.2.2.1 11) :: st) := xr_iald 11 0 hC hd hn rfl rfl hf k
theorem nX_0 (hC : xc C (GX E) own cc nL ret rm) (hd : decode cc pc = .ok (.arraylength, 1)) (hn : pc + 1 = pc') (k : xw C (GX E) nL Q σ pc' lv (.int (Int32.ofNat 400) :: st)) : xw C (GX E) nL Q σ pc lv (.ref (E.2.2.1 11) :: st) := xr_alen (Int32.ofNat 400) 11 0 hC hd hn rfl rfl rfl k
theorem sX_0 {i x : Int32} {X : xS → Option α} (hC : xc C (GX E) own cc nL ret rm) (hd : decode cc pc = .ok (.iastore, 1)) (hn : pc + 1 = pc') (hf : ast σ 0 400 i x X = some res) (k : ∀ σ' : xS, X σ' = some res → xw C (GX E) nL Q σ' pc' lv st) : xw C (GX E) nL Q σ pc lv (.int x :: .int i :: .ref (E.2.2.1 11) :: st) := xr_iast 11 0 hC hd hn rfl rfl (wX_a0 E.2.2.1 E.2.2.2.1 σ) hf k
theorem lX_1 {i : Int32} {X : Int32 → Option α} (hC : xc C (GX E) own cc nL ret rm) (hd : decode cc pc = .ok (.iaload, 1)) (hn : pc + 1 = pc') (hf : ald σ 1 6 i X = some res) (k : ∀ x : Int32, X x = some res → xw C (GX E) nL Q σ pc' lv (.int x :: st)) : xw C (GX E) nL Q σ pc lv (.int i :: .ref (E.2.2.1 12) :: st) := xr_iald 12 0 hC hd hn rfl rfl hf k
theorem nX_1 (hC : xc C (GX E) own cc nL ret rm) (hd : decode cc pc = .ok (.arraylength, 1)) (hn : pc + 1 = pc') (k : xw C (GX E) nL Q σ pc' lv (.int (Int32.ofNat 6) :: st)) : xw C (GX E) nL Q σ pc lv (.ref (E.2.2.1 12) :: st) := xr_alen (Int32.ofNat 6) 12 0 hC hd hn rfl rfl rfl k
theorem sX_1 {i x : Int32} {X : xS → Option α} (hC : xc C (GX E) own cc nL ret rm) (hd : decode cc pc = .ok (.iastore, 1)) (hn : pc + 1 = pc') (hf : ast σ 1 6 i x X = some res) (k : ∀ σ' : xS, X σ' = some res → xw C (GX E) nL Q σ' pc' lv st) : xw C (GX E) nL Q σ pc lv (.int x :: .int i :: .ref (E.2.2.1 12) :: st) := xr_iast 12 0 hC hd hn rfl rfl (wX_a1 E.2.2.1 E.2.2.2.1 σ) hf k
theorem lX_2 {i : Int32} {X : Int32 → Option α} (hC : xc C (GX E) own cc nL ret rm) (hd : decode cc pc = .ok (.iaload, 1)) (hn : pc + 1 = pc') (hf : ald σ 2 1000 i X = some res) (k : ∀ x : Int32, X x = some res → xw C (GX E) nL Q σ pc' lv (.int x :: st)) : xw C (GX E) nL Q σ pc lv (.int i :: .ref (E.2.2.1 13) :: st) := xr_iald 13 0 hC hd hn rfl rfl hf k
theorem nX_2 (hC : xc C (GX E) own cc nL ret rm) (hd : decode cc pc = .ok (.arraylength, 1)) (hn : pc + 1 = pc') (k : xw C (GX E) nL Q σ pc' lv (.int (Int32.ofNat 1000) :: st)) : xw C (GX E) nL Q σ pc lv (.ref (E.2.2.1 13) :: st) := xr_alen (Int32.ofNat 1000) 13 0 hC hd hn rfl rfl rfl k
theorem sX_2 {i x : Int32} {X : xS → Option α} (hC : xc C (GX E) own cc nL ret rm) (hd : decode cc pc = .ok (.iastore, 1)) (hn : pc + 1 = pc') (hf : ast σ 2 1000 i x X = some res) (k : ∀ σ' : xS, X σ' = some res → xw C (GX E) nL Q σ' pc' lv st) : xw C (GX E) nL Q σ pc lv (.int x :: .int i :: .ref (E.2.2.1 13) :: st) := xr_iast 13 0 hC hd hn rfl rfl (wX_a2 E.2.2.1 E.2.2.2.1 σ) hf k
theorem lX_3 {i : Int32} {X : Int32 → Option α} (hC : xc C (GX E) own cc nL ret rm) (hd : decode cc pc = .ok (.iaload, 1)) (hn : pc + 1 = pc') (hf : ald σ 3 64 i X = some res) (k : ∀ x : Int32, X x = some res → xw C (GX E) nL Q σ pc' lv (.int x :: st)) : xw C (GX E) nL Q σ pc lv (.int i :: .ref (E.2.2.1 14) :: st) := xr_iald 14 0 hC hd hn rfl rfl hf k
theorem nX_3 (hC : xc C (GX E) own cc nL ret rm) (hd : decode cc pc = .ok (.arraylength, 1)) (hn : pc + 1 = pc') (k : xw C (GX E) nL Q σ pc' lv (.int (Int32.ofNat 64) :: st)) : xw C (GX E) nL Q σ pc lv (.ref (E.2.2.1 14) :: st) := xr_alen (Int32.ofNat 64) 14 0 hC hd hn rfl rfl rfl k
theorem sX_3 {i x : Int32} {X : xS → Option α} (hC : xc C (GX E) own cc nL ret rm) (hd : decode cc pc = .ok (.iastore, 1)) (hn : pc + 1 = pc') (hf : ast σ 3 64 i x X = some res) (k : ∀ σ' : xS, X σ' = some res → xw C (GX E) nL Q σ' pc' lv st) : xw C (GX E) nL Q σ pc lv (.int x :: .int i :: .ref (E.2.2.1 14) :: st) := xr_iast 14 0 hC hd hn rfl rfl (wX_a3 E.2.2.1 E.2.2.2.1 σ) hf k
theorem lX_4 {i : Int32} {X : Int32 → Option α} (hC : xc C (GX E) own cc nL ret rm) (hd : decode cc pc = .ok (.iaload, 1)) (hn : pc + 1 = pc') (hf : ald σ 4 1000 i X = some res) (k : ∀ x : Int32, X x = some res → xw C (GX E) nL Q σ pc' lv (.int x :: st)) : xw C (GX E) nL Q σ pc lv (.int i :: .ref (E.2.2.1 15) :: st) := xr_iald 15 0 hC hd hn rfl rfl hf k
theorem nX_4 (hC : xc C (GX E) own cc nL ret rm) (hd : decode cc pc = .ok (.arraylength, 1)) (hn : pc + 1 = pc') (k : xw C (GX E) nL Q σ pc' lv (.int (Int32.ofNat 1000) :: st)) : xw C (GX E) nL Q σ pc lv (.ref (E.2.2.1 15) :: st) := xr_alen (Int32.ofNat 1000) 15 0 hC hd hn rfl rfl rfl k
theorem sX_4 {i x : Int32} {X : xS → Option α} (hC : xc C (GX E) own cc nL ret rm) (hd : decode cc pc = .ok (.iastore, 1)) (hn : pc + 1 = pc') (hf : ast σ 4 1000 i x X = some res) (k : ∀ σ' : xS, X σ' = some res → xw C (GX E) nL Q σ' pc' lv st) : xw C (GX E) nL Q σ pc lv (.int x :: .int i :: .ref (E.2.2.1 15) :: st) := xr_iast 15 0 hC hd hn rfl rfl (wX_a4 E.2.2.1 E.2.2.2.1 σ) hf k
theorem lX_5 {i : Int32} {X : Int32 → Option α} (hC : xc C (GX E) own cc nL ret rm) (hd : decode cc pc = .ok (.iaload, 1)) (hn : pc + 1 = pc') (hf : ald σ 5 64 i X = some res) (k : ∀ x : Int32, X x = some res → xw C (GX E) nL Q σ pc' lv (.int x :: st)) : xw C (GX E) nL Q σ pc lv (.int i :: .ref (E.2.2.1 16) :: st) := xr_iald 16 0 hC hd hn rfl rfl hf k
theorem nX_5 (hC : xc C (GX E) own cc nL ret rm) (hd : decode cc pc = .ok (.arraylength, 1)) (hn : pc + 1 = pc') (k : xw C (GX E) nL Q σ pc' lv (.int (Int32.ofNat 64) :: st)) : xw C (GX E) nL Q σ pc lv (.ref (E.2.2.1 16) :: st) := xr_alen (Int32.ofNat 64) 16 0 hC hd hn rfl rfl rfl k
theorem sX_5 {i x : Int32} {X : xS → Option α} (hC : xc C (GX E) own cc nL ret rm) (hd : decode cc pc = .ok (.iastore, 1)) (hn : pc + 1 = pc') (hf : ast σ 5 64 i x X = some res) (k : ∀ σ' : xS, X σ' = some res → xw C (GX E) nL Q σ' pc' lv st) : xw C (GX E) nL Q σ pc lv (.int x :: .int i :: .ref (E.2.2.1 16) :: st) := xr_iast 16 0 hC hd hn rfl rfl (wX_a5 E.2.2.1 E.2.2.2.1 σ) hf k
theorem lX_6 {i : Int32} {X : Int32 → Option α} (hC : xc C (GX E) own cc nL ret rm) (hd : decode cc pc = .ok (.iaload, 1)) (hn : pc + 1 = pc') (hf : ald σ 6 1000 i X = some res) (k : ∀ x : Int32, X x = some res → xw C (GX E) nL Q σ pc' lv (.int x :: st)) : xw C (GX E) nL Q σ pc lv (.int i :: .ref (E.2.2.1 17) :: st) := xr_iald 17 0 hC hd hn rfl rfl hf k
theorem nX_6 (hC : xc C (GX E) own cc nL ret rm) (hd : decode cc pc = .ok (.arraylength, 1)) (hn : pc + 1 = pc') (k : xw C (GX E) nL Q σ pc' lv (.int (Int32.ofNat 1000) :: st)) : xw C (GX E) nL Q σ pc lv (.ref (E.2.2.1 17) :: st) := xr_alen (Int32.ofNat 1000) 17 0 hC hd hn rfl rfl rfl k
theorem sX_6 {i x : Int32} {X : xS → Option α} (hC : xc C (GX E) own cc nL ret rm) (hd : decode cc pc = .ok (.iastore, 1)) (hn : pc + 1 = pc') (hf : ast σ 6 1000 i x X = some res) (k : ∀ σ' : xS, X σ' = some res → xw C (GX E) nL Q σ' pc' lv st) : xw C (GX E) nL Q σ pc lv (.int x :: .int i :: .ref (E.2.2.1 17) :: st) := xr_iast 17 0 hC hd hn rfl rfl (wX_a6 E.2.2.1 E.2.2.2.1 σ) hf k
theorem lX_7 {i : Int32} {X : Int32 → Option α} (hC : xc C (GX E) own cc nL ret rm) (hd : decode cc pc = .ok (.iaload, 1)) (hn : pc + 1 = pc') (hf : ald σ 7 1000 i X = some res) (k : ∀ x : Int32, X x = some res → xw C (GX E) nL Q σ pc' lv (.int x :: st)) : xw C (GX E) nL Q σ pc lv (.int i :: .ref (E.2.2.1 18) :: st) := xr_iald 18 0 hC hd hn rfl rfl hf k
theorem nX_7 (hC : xc C (GX E) own cc nL ret rm) (hd : decode cc pc = .ok (.arraylength, 1)) (hn : pc + 1 = pc') (k : xw C (GX E) nL Q σ pc' lv (.int (Int32.ofNat 1000) :: st)) : xw C (GX E) nL Q σ pc lv (.ref (E.2.2.1 18) :: st) := xr_alen (Int32.ofNat 1000) 18 0 hC hd hn rfl rfl rfl k
theorem sX_7 {i x : Int32} {X : xS → Option α} (hC : xc C (GX E) own cc nL ret rm) (hd : decode cc pc = .ok (.iastore, 1)) (hn : pc + 1 = pc') (hf : ast σ 7 1000 i x X = some res) (k : ∀ σ' : xS, X σ' = some res → xw C (GX E) nL Q σ' pc' lv st) : xw C (GX E) nL Q σ pc lv (.int x :: .int i :: .ref (E.2.2.1 18) :: st) := xr_iast 18 0 hC hd hn rfl rfl (wX_a7 E.2.2.1 E.2.2.2.1 σ) hf k
theorem lX_8 {i : Int32} {X : Int32 → Option α} (hC : xc C (GX E) own cc nL ret rm) (hd : decode cc pc = .ok (.iaload, 1)) (hn : pc + 1 = pc') (hf : ald σ 8 1000 i X = some res) (k : ∀ x : Int32, X x = some res → xw C (GX E) nL Q σ pc' lv (.int x :: st)) : xw C (GX E) nL Q σ pc lv (.int i :: .ref (E.2.2.1 19) :: st) := xr_iald 19 0 hC hd hn rfl rfl hf k
theorem nX_8 (hC : xc C (GX E) own cc nL ret rm) (hd : decode cc pc = .ok (.arraylength, 1)) (hn : pc + 1 = pc') (k : xw C (GX E) nL Q σ pc' lv (.int (Int32.ofNat 1000) :: st)) : xw C (GX E) nL Q σ pc lv (.ref (E.2.2.1 19) :: st) := xr_alen (Int32.ofNat 1000) 19 0 hC hd hn rfl rfl rfl k
theorem sX_8 {i x : Int32} {X : xS → Option α} (hC : xc C (GX E) own cc nL ret rm) (hd : decode cc pc = .ok (.iastore, 1)) (hn : pc + 1 = pc') (hf : ast σ 8 1000 i x X = some res) (k : ∀ σ' : xS, X σ' = some res → xw C (GX E) nL Q σ' pc' lv st) : xw C (GX E) nL Q σ pc lv (.int x :: .int i :: .ref (E.2.2.1 19) :: st) := xr_iast 19 0 hC hd hn rfl rfl (wX_a8 E.2.2.1 E.2.2.2.1 σ) hf k
theorem lX_9 {i : Int32} {X : Int32 → Option α} (hC : xc C (GX E) own cc nL ret rm) (hd : decode cc pc = .ok (.iaload, 1)) (hn : pc + 1 = pc') (hf : ald σ 9 1000 i X = some res) (k : ∀ x : Int32, X x = some res → xw C (GX E) nL Q σ pc' lv (.int x :: st)) : xw C (GX E) nL Q σ pc lv (.int i :: .ref (E.2.2.1 20) :: st) := xr_iald 20 0 hC hd hn rfl rfl hf k
theorem nX_9 (hC : xc C (GX E) own cc nL ret rm) (hd : decode cc pc = .ok (.arraylength, 1)) (hn : pc + 1 = pc') (k : xw C (GX E) nL Q σ pc' lv (.int (Int32.ofNat 1000) :: st)) : xw C (GX E) nL Q σ pc lv (.ref (E.2.2.1 20) :: st) := xr_alen (Int32.ofNat 1000) 20 0 hC hd hn rfl rfl rfl k
theorem sX_9 {i x : Int32} {X : xS → Option α} (hC : xc C (GX E) own cc nL ret rm) (hd : decode cc pc = .ok (.iastore, 1)) (hn : pc + 1 = pc') (hf : ast σ 9 1000 i x X = some res) (k : ∀ σ' : xS, X σ' = some res → xw C (GX E) nL Q σ' pc' lv st) : xw C (GX E) nL Q σ pc lv (.int x :: .int i :: .ref (E.2.2.1 20) :: st) := xr_iast 20 0 hC hd hn rfl rfl (wX_a9 E.2.2.1 E.2.2.2.1 σ) hf k
theorem lX_10 {i : Int32} {X : Int32 → Option α} (hC : xc C (GX E) own cc nL ret rm) (hd : decode cc pc = .ok (.iaload, 1)) (hn : pc + 1 = pc') (hf : ald σ 10 1000 i X = some res) (k : ∀ x : Int32, X x = some res → xw C (GX E) nL Q σ pc' lv (.int x :: st)) : xw C (GX E) nL Q σ pc lv (.int i :: .ref (E.2.2.1 21) :: st) := xr_iald 21 0 hC hd hn rfl rfl hf k
theorem nX_10 (hC : xc C (GX E) own cc nL ret rm) (hd : decode cc pc = .ok (.arraylength, 1)) (hn : pc + 1 = pc') (k : xw C (GX E) nL Q σ pc' lv (.int (Int32.ofNat 1000) :: st)) : xw C (GX E) nL Q σ pc lv (.ref (E.2.2.1 21) :: st) := xr_alen (Int32.ofNat 1000) 21 0 hC hd hn rfl rfl rfl k
theorem sX_10 {i x : Int32} {X : xS → Option α} (hC : xc C (GX E) own cc nL ret rm) (hd : decode cc pc = .ok (.iastore, 1)) (hn : pc + 1 = pc') (hf : ast σ 10 1000 i x X = some res) (k : ∀ σ' : xS, X σ' = some res → xw C (GX E) nL Q σ' pc' lv st) : xw C (GX E) nL Q σ pc lv (.int x :: .int i :: .ref (E.2.2.1 21) :: st) := xr_iast 21 0 hC hd hn rfl rfl (wX_a10 E.2.2.1 E.2.2.2.1 σ) hf k
theorem lX_11 {i : Int32} {X : Int32 → Option α} (hC : xc C (GX E) own cc nL ret rm) (hd : decode cc pc = .ok (.iaload, 1)) (hn : pc + 1 = pc') (hf : ald σ 11 1000 i X = some res) (k : ∀ x : Int32, X x = some res → xw C (GX E) nL Q σ pc' lv (.int x :: st)) : xw C (GX E) nL Q σ pc lv (.int i :: .ref (E.2.2.1 22) :: st) := xr_iald 22 0 hC hd hn rfl rfl hf k
theorem nX_11 (hC : xc C (GX E) own cc nL ret rm) (hd : decode cc pc = .ok (.arraylength, 1)) (hn : pc + 1 = pc') (k : xw C (GX E) nL Q σ pc' lv (.int (Int32.ofNat 1000) :: st)) : xw C (GX E) nL Q σ pc lv (.ref (E.2.2.1 22) :: st) := xr_alen (Int32.ofNat 1000) 22 0 hC hd hn rfl rfl rfl k
theorem sX_11 {i x : Int32} {X : xS → Option α} (hC : xc C (GX E) own cc nL ret rm) (hd : decode cc pc = .ok (.iastore, 1)) (hn : pc + 1 = pc') (hf : ast σ 11 1000 i x X = some res) (k : ∀ σ' : xS, X σ' = some res → xw C (GX E) nL Q σ' pc' lv st) : xw C (GX E) nL Q σ pc lv (.int x :: .int i :: .ref (E.2.2.1 22) :: st) := xr_iast 22 0 hC hd hn rfl rfl (wX_a11 E.2.2.1 E.2.2.2.1 σ) hf k
theorem lX_12 {i : Int32} {X : Int32 → Option α} (hC : xc C (GX E) own cc nL ret rm) (hd : decode cc pc = .ok (.iaload, 1)) (hn : pc + 1 = pc') (hf : ald σ 12 6 i X = some res) (k : ∀ x : Int32, X x = some res → xw C (GX E) nL Q σ pc' lv (.int x :: st)) : xw C (GX E) nL Q σ pc lv (.int i :: .ref (E.2.2.1 23) :: st) := xr_iald 23 0 hC hd hn rfl rfl hf k
theorem nX_12 (hC : xc C (GX E) own cc nL ret rm) (hd : decode cc pc = .ok (.arraylength, 1)) (hn : pc + 1 = pc') (k : xw C (GX E) nL Q σ pc' lv (.int (Int32.ofNat 6) :: st)) : xw C (GX E) nL Q σ pc lv (.ref (E.2.2.1 23) :: st) := xr_alen (Int32.ofNat 6) 23 0 hC hd hn rfl rfl rfl k
theorem sX_12 {i x : Int32} {X : xS → Option α} (hC : xc C (GX E) own cc nL ret rm) (hd : decode cc pc = .ok (.iastore, 1)) (hn : pc + 1 = pc') (hf : ast σ 12 6 i x X = some res) (k : ∀ σ' : xS, X σ' = some res → xw C (GX E) nL Q σ' pc' lv st) : xw C (GX E) nL Q σ pc lv (.int x :: .int i :: .ref (E.2.2.1 23) :: st) := xr_iast 23 0 hC hd hn rfl rfl (wX_a12 E.2.2.1 E.2.2.2.1 σ) hf k
theorem lX_13 {i : Int32} {X : Int32 → Option α} (hC : xc C (GX E) own cc nL ret rm) (hd : decode cc pc = .ok (.iaload, 1)) (hn : pc + 1 = pc') (hf : ald σ 13 64 i X = some res) (k : ∀ x : Int32, X x = some res → xw C (GX E) nL Q σ pc' lv (.int x :: st)) : xw C (GX E) nL Q σ pc lv (.int i :: .ref (E.2.2.1 24) :: st) := xr_iald 24 0 hC hd hn rfl rfl hf k
theorem nX_13 (hC : xc C (GX E) own cc nL ret rm) (hd : decode cc pc = .ok (.arraylength, 1)) (hn : pc + 1 = pc') (k : xw C (GX E) nL Q σ pc' lv (.int (Int32.ofNat 64) :: st)) : xw C (GX E) nL Q σ pc lv (.ref (E.2.2.1 24) :: st) := xr_alen (Int32.ofNat 64) 24 0 hC hd hn rfl rfl rfl k
theorem sX_13 {i x : Int32} {X : xS → Option α} (hC : xc C (GX E) own cc nL ret rm) (hd : decode cc pc = .ok (.iastore, 1)) (hn : pc + 1 = pc') (hf : ast σ 13 64 i x X = some res) (k : ∀ σ' : xS, X σ' = some res → xw C (GX E) nL Q σ' pc' lv st) : xw C (GX E) nL Q σ pc lv (.int x :: .int i :: .ref (E.2.2.1 24) :: st) := xr_iast 24 0 hC hd hn rfl rfl (wX_a13 E.2.2.1 E.2.2.2.1 σ) hf k
theorem lX_14 {i : Int32} {X : Int32 → Option α} (hC : xc C (GX E) own cc nL ret rm) (hd : decode cc pc = .ok (.iaload, 1)) (hn : pc + 1 = pc') (hf : ald σ 14 64 i X = some res) (k : ∀ x : Int32, X x = some res → xw C (GX E) nL Q σ pc' lv (.int x :: st)) : xw C (GX E) nL Q σ pc lv (.int i :: .ref (E.2.2.1 25) :: st) := xr_iald 25 0 hC hd hn rfl rfl hf k
theorem nX_14 (hC : xc C (GX E) own cc nL ret rm) (hd : decode cc pc = .ok (.arraylength, 1)) (hn : pc + 1 = pc') (k : xw C (GX E) nL Q σ pc' lv (.int (Int32.ofNat 64) :: st)) : xw C (GX E) nL Q σ pc lv (.ref (E.2.2.1 25) :: st) := xr_alen (Int32.ofNat 64) 25 0 hC hd hn rfl rfl rfl k
theorem sX_14 {i x : Int32} {X : xS → Option α} (hC : xc C (GX E) own cc nL ret rm) (hd : decode cc pc = .ok (.iastore, 1)) (hn : pc + 1 = pc') (hf : ast σ 14 64 i x X = some res) (k : ∀ σ' : xS, X σ' = some res → xw C (GX E) nL Q σ' pc' lv st) : xw C (GX E) nL Q σ pc lv (.int x :: .int i :: .ref (E.2.2.1 25) :: st) := xr_iast 25 0 hC hd hn rfl rfl (wX_a14 E.2.2.1 E.2.2.2.1 σ) hf k
theorem lX_15 {i : Int32} {X : Int32 → Option α} (hC : xc C (GX E) own cc nL ret rm) (hd : decode cc pc = .ok (.iaload, 1)) (hn : pc + 1 = pc') (hf : ald σ 15 64 i X = some res) (k : ∀ x : Int32, X x = some res → xw C (GX E) nL Q σ pc' lv (.int x :: st)) : xw C (GX E) nL Q σ pc lv (.int i :: .ref (E.2.2.1 26) :: st) := xr_iald 26 0 hC hd hn rfl rfl hf k
theorem nX_15 (hC : xc C (GX E) own cc nL ret rm) (hd : decode cc pc = .ok (.arraylength, 1)) (hn : pc + 1 = pc') (k : xw C (GX E) nL Q σ pc' lv (.int (Int32.ofNat 64) :: st)) : xw C (GX E) nL Q σ pc lv (.ref (E.2.2.1 26) :: st) := xr_alen (Int32.ofNat 64) 26 0 hC hd hn rfl rfl rfl k
theorem sX_15 {i x : Int32} {X : xS → Option α} (hC : xc C (GX E) own cc nL ret rm) (hd : decode cc pc = .ok (.iastore, 1)) (hn : pc + 1 = pc') (hf : ast σ 15 64 i x X = some res) (k : ∀ σ' : xS, X σ' = some res → xw C (GX E) nL Q σ' pc' lv st) : xw C (GX E) nL Q σ pc lv (.int x :: .int i :: .ref (E.2.2.1 26) :: st) := xr_iast 26 0 hC hd hn rfl rfl (wX_a15 E.2.2.1 E.2.2.2.1 σ) hf k
theorem lX_16 {i : Int32} {X : Int32 → Option α} (hC : xc C (GX E) own cc nL ret rm) (hd : decode cc pc = .ok (.iaload, 1)) (hn : pc + 1 = pc') (hf : ald σ 16 1000 i X = some res) (k : ∀ x : Int32, X x = some res → xw C (GX E) nL Q σ pc' lv (.int x :: st)) : xw C (GX E) nL Q σ pc lv (.int i :: .ref (E.2.2.1 27) :: st) := xr_iald 27 0 hC hd hn rfl rfl hf k
theorem nX_16 (hC : xc C (GX E) own cc nL ret rm) (hd : decode cc pc = .ok (.arraylength, 1)) (hn : pc + 1 = pc') (k : xw C (GX E) nL Q σ pc' lv (.int (Int32.ofNat 1000) :: st)) : xw C (GX E) nL Q σ pc lv (.ref (E.2.2.1 27) :: st) := xr_alen (Int32.ofNat 1000) 27 0 hC hd hn rfl rfl rfl k
theorem sX_16 {i x : Int32} {X : xS → Option α} (hC : xc C (GX E) own cc nL ret rm) (hd : decode cc pc = .ok (.iastore, 1)) (hn : pc + 1 = pc') (hf : ast σ 16 1000 i x X = some res) (k : ∀ σ' : xS, X σ' = some res → xw C (GX E) nL Q σ' pc' lv st) : xw C (GX E) nL Q σ pc lv (.int x :: .int i :: .ref (E.2.2.1 27) :: st) := xr_iast 27 0 hC hd hn rfl rfl (wX_a16 E.2.2.1 E.2.2.2.1 σ) hf k
theorem lX_17 {i : Int32} {X : Int32 → Option α} (hC : xc C (GX E) own cc nL ret rm) (hd : decode cc pc = .ok (.iaload, 1)) (hn : pc + 1 = pc') (hf : ald σ 17 1000 i X = some res) (k : ∀ x : Int32, X x = some res → xw C (GX E) nL Q σ pc' lv (.int x :: st)) : xw C (GX E) nL Q σ pc lv (.int i :: .ref (E.2.2.1 28) :: st) := xr_iald 28 0 hC hd hn rfl rfl hf k
theorem nX_17 (hC : xc C (GX E) own cc nL ret rm) (hd : decode cc pc = .ok (.arraylength, 1)) (hn : pc + 1 = pc') (k : xw C (GX E) nL Q σ pc' lv (.int (Int32.ofNat 1000) :: st)) : xw C (GX E) nL Q σ pc lv (.ref (E.2.2.1 28) :: st) := xr_alen (Int32.ofNat 1000) 28 0 hC hd hn rfl rfl rfl k
theorem sX_17 {i x : Int32} {X : xS → Option α} (hC : xc C (GX E) own cc nL ret rm) (hd : decode cc pc = .ok (.iastore, 1)) (hn : pc + 1 = pc') (hf : ast σ 17 1000 i x X = some res) (k : ∀ σ' : xS, X σ' = some res → xw C (GX E) nL Q σ' pc' lv st) : xw C (GX E) nL Q σ pc lv (.int x :: .int i :: .ref (E.2.2.1 28) :: st) := xr_iast 28 0 hC hd hn rfl rfl (wX_a17 E.2.2.1 E.2.2.2.1 σ) hf k
theorem lX_18 {i : Int32} {X : Int32 → Option α} (hC : xc C (GX E) own cc nL ret rm) (hd : decode cc pc = .ok (.iaload, 1)) (hn : pc + 1 = pc') (hf : ald σ 18 10 i X = some res) (k : ∀ x : Int32, X x = some res → xw C (GX E) nL Q σ pc' lv (.int x :: st)) : xw C (GX E) nL Q σ pc lv (.int i :: .ref (E.2.2.1 29) :: st) := xr_iald 29 0 hC hd hn rfl rfl hf k
theorem nX_18 (hC : xc C (GX E) own cc nL ret rm) (hd : decode cc pc = .ok (.arraylength, 1)) (hn : pc + 1 = pc') (k : xw C (GX E) nL Q σ pc' lv (.int (Int32.ofNat 10) :: st)) : xw C (GX E) nL Q σ pc lv (.ref (E.2.2.1 29) :: st) := xr_alen (Int32.ofNat 10) 29 0 hC hd hn rfl rfl rfl k
theorem sX_18 {i x : Int32} {X : xS → Option α} (hC : xc C (GX E) own cc nL ret rm) (hd : decode cc pc = .ok (.iastore, 1)) (hn : pc + 1 = pc') (hf : ast σ 18 10 i x X = some res) (k : ∀ σ' : xS, X σ' = some res → xw C (GX E) nL Q σ' pc' lv st) : xw C (GX E) nL Q σ pc lv (.int x :: .int i :: .ref (E.2.2.1 29) :: st) := xr_iast 29 0 hC hd hn rfl rfl (wX_a18 E.2.2.1 E.2.2.2.1 σ) hf k
theorem lX_19 {i : Int32} {X : Int32 → Option α} (hC : xc C (GX E) own cc nL ret rm) (hd : decode cc pc = .ok (.iaload, 1)) (hn : pc + 1 = pc') (hf : ald σ 19 10 i X = some res) (k : ∀ x : Int32, X x = some res → xw C (GX E) nL Q σ pc' lv (.int x :: st)) : xw C (GX E) nL Q σ pc lv (.int i :: .ref (E.2.2.1 30) :: st) := xr_iald 30 0 hC hd hn rfl rfl hf k
theorem nX_19 (hC : xc C (GX E) own cc nL ret rm) (hd : decode cc pc = .ok (.arraylength, 1)) (hn : pc + 1 = pc') (k : xw C (GX E) nL Q σ pc' lv (.int (Int32.ofNat 10) :: st)) : xw C (GX E) nL Q σ pc lv (.ref (E.2.2.1 30) :: st) := xr_alen (Int32.ofNat 10) 30 0 hC hd hn rfl rfl rfl k
theorem sX_19 {i x : Int32} {X : xS → Option α} (hC : xc C (GX E) own cc nL ret rm) (hd : decode cc pc = .ok (.iastore, 1)) (hn : pc + 1 = pc') (hf : ast σ 19 10 i x X = some res) (k : ∀ σ' : xS, X σ' = some res → xw C (GX E) nL Q σ' pc' lv st) : xw C (GX E) nL Q σ pc lv (.int x :: .int i :: .ref (E.2.2.1 30) :: st) := xr_iast 30 0 hC hd hn rfl rfl (wX_a19 E.2.2.1 E.2.2.2.1 σ) hf k
theorem lX_20 {i : Int32} {X : Int32 → Option α} (hC : xc C (GX E) own cc nL ret rm) (hd : decode cc pc = .ok (.iaload, 1)) (hn : pc + 1 = pc') (hf : ald σ 20 10 i X = some res) (k : ∀ x : Int32, X x = some res → xw C (GX E) nL Q σ pc' lv (.int x :: st)) : xw C (GX E) nL Q σ pc lv (.int i :: .ref (E.2.2.1 31) :: st) := xr_iald 31 0 hC hd hn rfl rfl hf k
theorem nX_20 (hC : xc C (GX E) own cc nL ret rm) (hd : decode cc pc = .ok (.arraylength, 1)) (hn : pc + 1 = pc') (k : xw C (GX E) nL Q σ pc' lv (.int (Int32.ofNat 10) :: st)) : xw C (GX E) nL Q σ pc lv (.ref (E.2.2.1 31) :: st) := xr_alen (Int32.ofNat 10) 31 0 hC hd hn rfl rfl rfl k
theorem sX_20 {i x : Int32} {X : xS → Option α} (hC : xc C (GX E) own cc nL ret rm) (hd : decode cc pc = .ok (.iastore, 1)) (hn : pc + 1 = pc') (hf : ast σ 20 10 i x X = some res) (k : ∀ σ' : xS, X σ' = some res → xw C (GX E) nL Q σ' pc' lv st) : xw C (GX E) nL Q σ pc lv (.int x :: .int i :: .ref (E.2.2.1 31) :: st) := xr_iast 31 0 hC hd hn rfl rfl (wX_a20 E.2.2.1 E.2.2.2.1 σ) hf k
theorem lX_21 {i : Int32} {X : Int32 → Option α} (hC : xc C (GX E) own cc nL ret rm) (hd : decode cc pc = .ok (.iaload, 1)) (hn : pc + 1 = pc') (hf : ald σ 21 1024 i X = some res) (k : ∀ x : Int32, X x = some res → xw C (GX E) nL Q σ pc' lv (.int x :: st)) : xw C (GX E) nL Q σ pc lv (.int i :: .ref (E.2.2.1 32) :: st) := xr_iald 32 0 hC hd hn rfl rfl hf k
theorem nX_21 (hC : xc C (GX E) own cc nL ret rm) (hd : decode cc pc = .ok (.arraylength, 1)) (hn : pc + 1 = pc') (k : xw C (GX E) nL Q σ pc' lv (.int (Int32.ofNat 1024) :: st)) : xw C (GX E) nL Q σ pc lv (.ref (E.2.2.1 32) :: st) := xr_alen (Int32.ofNat 1024) 32 0 hC hd hn rfl rfl rfl k
theorem sX_21 {i x : Int32} {X : xS → Option α} (hC : xc C (GX E) own cc nL ret rm) (hd : decode cc pc = .ok (.iastore, 1)) (hn : pc + 1 = pc') (hf : ast σ 21 1024 i x X = some res) (k : ∀ σ' : xS, X σ' = some res → xw C (GX E) nL Q σ' pc' lv st) : xw C (GX E) nL Q σ pc lv (.int x :: .int i :: .ref (E.2.2.1 32) :: st) := xr_iast 32 0 hC hd hn rfl rfl (wX_a21 E.2.2.1 E.2.2.2.1 σ) hf k
theorem lX_22 {i : Int32} {X : Int32 → Option α} (hC : xc C (GX E) own cc nL ret rm) (hd : decode cc pc = .ok (.iaload, 1)) (hn : pc + 1 = pc') (hf : ald σ 22 1024 i X = some res) (k : ∀ x : Int32, X x = some res → xw C (GX E) nL Q σ pc' lv (.int x :: st)) : xw C (GX E) nL Q σ pc lv (.int i :: .ref (E.2.2.1 33) :: st) := xr_iald 33 0 hC hd hn rfl rfl hf k
theorem nX_22 (hC : xc C (GX E) own cc nL ret rm) (hd : decode cc pc = .ok (.arraylength, 1)) (hn : pc + 1 = pc') (k : xw C (GX E) nL Q σ pc' lv (.int (Int32.ofNat 1024) :: st)) : xw C (GX E) nL Q σ pc lv (.ref (E.2.2.1 33) :: st) := xr_alen (Int32.ofNat 1024) 33 0 hC hd hn rfl rfl rfl k
theorem sX_22 {i x : Int32} {X : xS → Option α} (hC : xc C (GX E) own cc nL ret rm) (hd : decode cc pc = .ok (.iastore, 1)) (hn : pc + 1 = pc') (hf : ast σ 22 1024 i x X = some res) (k : ∀ σ' : xS, X σ' = some res → xw C (GX E) nL Q σ' pc' lv st) : xw C (GX E) nL Q σ pc lv (.int x :: .int i :: .ref (E.2.2.1 33) :: st) := xr_iast 33 0 hC hd hn rfl rfl (wX_a22 E.2.2.1 E.2.2.2.1 σ) hf k
theorem lX_23 {i : Int32} {X : Int32 → Option α} (hC : xc C (GX E) own cc nL ret rm) (hd : decode cc pc = .ok (.iaload, 1)) (hn : pc + 1 = pc') (hf : ald σ 23 10 i X = some res) (k : ∀ x : Int32, X x = some res → xw C (GX E) nL Q σ pc' lv (.int x :: st)) : xw C (GX E) nL Q σ pc lv (.int i :: .ref (E.2.2.1 34) :: st) := xr_iald 34 0 hC hd hn rfl rfl hf k
theorem nX_23 (hC : xc C (GX E) own cc nL ret rm) (hd : decode cc pc = .ok (.arraylength, 1)) (hn : pc + 1 = pc') (k : xw C (GX E) nL Q σ pc' lv (.int (Int32.ofNat 10) :: st)) : xw C (GX E) nL Q σ pc lv (.ref (E.2.2.1 34) :: st) := xr_alen (Int32.ofNat 10) 34 0 hC hd hn rfl rfl rfl k
theorem sX_23 {i x : Int32} {X : xS → Option α} (hC : xc C (GX E) own cc nL ret rm) (hd : decode cc pc = .ok (.iastore, 1)) (hn : pc + 1 = pc') (hf : ast σ 23 10 i x X = some res) (k : ∀ σ' : xS, X σ' = some res → xw C (GX E) nL Q σ' pc' lv st) : xw C (GX E) nL Q σ pc lv (.int x :: .int i :: .ref (E.2.2.1 34) :: st) := xr_iast 34 0 hC hd hn rfl rfl (wX_a23 E.2.2.1 E.2.2.2.1 σ) hf k
theorem lX_24 {i : Int32} {X : Int32 → Option α} (hC : xc C (GX E) own cc nL ret rm) (hd : decode cc pc = .ok (.iaload, 1)) (hn : pc + 1 = pc') (hf : ald σ 24 10 i X = some res) (k : ∀ x : Int32, X x = some res → xw C (GX E) nL Q σ pc' lv (.int x :: st)) : xw C (GX E) nL Q σ pc lv (.int i :: .ref (E.2.2.1 35) :: st) := xr_iald 35 0 hC hd hn rfl rfl hf k
theorem nX_24 (hC : xc C (GX E) own cc nL ret rm) (hd : decode cc pc = .ok (.arraylength, 1)) (hn : pc + 1 = pc') (k : xw C (GX E) nL Q σ pc' lv (.int (Int32.ofNat 10) :: st)) : xw C (GX E) nL Q σ pc lv (.ref (E.2.2.1 35) :: st) := xr_alen (Int32.ofNat 10) 35 0 hC hd hn rfl rfl rfl k
theorem sX_24 {i x : Int32} {X : xS → Option α} (hC : xc C (GX E) own cc nL ret rm) (hd : decode cc pc = .ok (.iastore, 1)) (hn : pc + 1 = pc') (hf : ast σ 24 10 i x X = some res) (k : ∀ σ' : xS, X σ' = some res → xw C (GX E) nL Q σ' pc' lv st) : xw C (GX E) nL Q σ pc lv (.int x :: .int i :: .ref (E.2.2.1 35) :: st) := xr_iast 35 0 hC hd hn rfl rfl (wX_a24 E.2.2.1 E.2.2.2.1 σ) hf k
theorem lX_25 {i : Int32} {X : Int32 → Option α} (hC : xc C (GX E) own cc nL ret rm) (hd : decode cc pc = .ok (.iaload, 1)) (hn : pc + 1 = pc') (hf : ald σ 25 12 i X = some res) (k : ∀ x : Int32, X x = some res → xw C (GX E) nL Q σ pc' lv (.int x :: st)) : xw C (GX E) nL Q σ pc lv (.int i :: .ref (E.2.2.1 36) :: st) := xr_iald 36 0 hC hd hn rfl rfl hf k
theorem nX_25 (hC : xc C (GX E) own cc nL ret rm) (hd : decode cc pc = .ok (.arraylength, 1)) (hn : pc + 1 = pc') (k : xw C (GX E) nL Q σ pc' lv (.int (Int32.ofNat 12) :: st)) : xw C (GX E) nL Q σ pc lv (.ref (E.2.2.1 36) :: st) := xr_alen (Int32.ofNat 12) 36 0 hC hd hn rfl rfl rfl k
theorem sX_25 {i x : Int32} {X : xS → Option α} (hC : xc C (GX E) own cc nL ret rm) (hd : decode cc pc = .ok (.iastore, 1)) (hn : pc + 1 = pc') (hf : ast σ 25 12 i x X = some res) (k : ∀ σ' : xS, X σ' = some res → xw C (GX E) nL Q σ' pc' lv st) : xw C (GX E) nL Q σ pc lv (.int x :: .int i :: .ref (E.2.2.1 36) :: st) := xr_iast 36 0 hC hd hn rfl rfl (wX_a25 E.2.2.1 E.2.2.2.1 σ) hf k
theorem lX_26 {i : Int32} {X : Int32 → Option α} (hC : xc C (GX E) own cc nL ret rm) (hd : decode cc pc = .ok (.iaload, 1)) (hn : pc + 1 = pc') (hf : ald σ 26 12 i X = some res) (k : ∀ x : Int32, X x = some res → xw C (GX E) nL Q σ pc' lv (.int x :: st)) : xw C (GX E) nL Q σ pc lv (.int i :: .ref (E.2.2.1 37) :: st) := xr_iald 37 0 hC hd hn rfl rfl hf k
theorem nX_26 (hC : xc C (GX E) own cc nL ret rm) (hd : decode cc pc = .ok (.arraylength, 1)) (hn : pc + 1 = pc') (k : xw C (GX E) nL Q σ pc' lv (.int (Int32.ofNat 12) :: st)) : xw C (GX E) nL Q σ pc lv (.ref (E.2.2.1 37) :: st) := xr_alen (Int32.ofNat 12) 37 0 hC hd hn rfl rfl rfl k
theorem sX_26 {i x : Int32} {X : xS → Option α} (hC : xc C (GX E) own cc nL ret rm) (hd : decode cc pc = .ok (.iastore, 1)) (hn : pc + 1 = pc') (hf : ast σ 26 12 i x X = some res) (k : ∀ σ' : xS, X σ' = some res → xw C (GX E) nL Q σ' pc' lv st) : xw C (GX E) nL Q σ pc lv (.int x :: .int i :: .ref (E.2.2.1 37) :: st) := xr_iast 37 0 hC hd hn rfl rfl (wX_a26 E.2.2.1 E.2.2.2.1 σ) hf k
end XWX
section XWM
variable {C : xT} {E : mE} {own : String} {cc : ByteArray} {nL : Nat} {ret : Option FieldType} {rm : Room} {Q : State → Prop} {σ : xS} {pc pc' : Nat} {lv : List (Nat × Value)} {st : List Value} {α : Type} {res : α}
theorem gX10_m_tape (hC : xc C (GM E) RX10 cc nL ret rm) (hd : decode cc pc = .ok (.getfield 7, 3)) (hn : pc + 3 = pc') (k : xw C (GM E) nL Q σ pc' lv (.ref (E.2.2.1 1) :: st)) : xw C (GM E) nL Q σ pc lv (.ref (E.2.2.1 0) :: st) := xr_get (T := TX10) (N := 53) (Cn := RX10) _ 0 0 hC hd hn rfl rfl inX10 (by decide) (TB_of (i := 919) (by decide +kernel) rfl) rfl k
theorem gX10_m_faultPlace (hC : xc C (GM E) RX10 cc nL ret rm) (hd : decode cc pc = .ok (.getfield 13, 3)) (hn : pc + 3 = pc') (k : xw C (GM E) nL Q σ pc' lv (.int (σ.1 8) :: st)) : xw C (GM E) nL Q σ pc lv (.ref (E.2.2.1 0) :: st) := xr_get (T := TX10) (N := 53) (Cn := RX10) _ 0 9 hC hd hn rfl rfl inX10 (by decide) (TB_of (i := 928) (by decide +kernel) rfl) rfl k
theorem pX10_m_faultPlace {x : Int32} {X : xS → Option α} (hC : xc C (GM E) RX10 cc nL ret rm) (hd : decode cc pc = .ok (.putfield 13, 3)) (hn : pc + 3 = pc') (hf : put σ 8 x X = some res) (k : ∀ σ' : xS, X σ' = some res → xw C (GM E) nL Q σ' pc' lv st) : xw C (GM E) nL Q σ pc lv (.int x :: .ref (E.2.2.1 0) :: st) := xr_put (T := TX10) (N := 53) (Cn := RX10) (ty := .int) 0 9 8 hC hd hn rfl rfl inX10 tyX10 tyX10_ok nmX10 (by decide) (TB_of (i := 928) (by decide +kernel) rfl) rfl (by decide +kernel) rfl rfl (Nat.le_of_ble_eq_true rfl) (wM_i8 E.2.2.1 E.2.2.2.1 E.2.2.2.2.1 E.2.2.2.2.2 σ x) hf k
theorem gX10_m_boxWord (hC : xc C (GM E) RX10 cc nL ret rm) (hd : decode cc pc = .ok (.getfield 17, 3)) (hn : pc + 3 = pc') (k : xw C (GM E) nL Q σ pc' lv (.ref (E.2.2.1 2) :: st)) : xw C (GM E) nL Q σ pc lv (.ref (E.2.2.1 0) :: st) := xr_get (T := TX10) (N := 53) (Cn := RX10) _ 0 10 hC hd hn rfl rfl inX10 (by decide) (TB_of (i := 929) (by decide +kernel) rfl) rfl k
theorem gX10_m_holeWord (hC : xc C (GM E) RX10 cc nL ret rm) (hd : decode cc pc = .ok (.getfield 21, 3)) (hn : pc + 3 = pc') (k : xw C (GM E) nL Q σ pc' lv (.ref (E.2.2.1 3) :: st)) : xw C (GM E) nL Q σ pc lv (.ref (E.2.2.1 0) :: st) := xr_get (T := TX10) (N := 53) (Cn := RX10) _ 0 11 hC hd hn rfl rfl inX10 (by decide) (TB_of (i := 930) (by decide +kernel) rfl) rfl k
theorem gX10_m_mirrorWord (hC : xc C (GM E) RX10 cc nL ret rm) (hd : decode cc pc = .ok (.getfield 24, 3)) (hn : pc + 3 = pc') (k : xw C (GM E) nL Q σ pc' lv (.ref (E.2.2.1 4) :: st)) : xw C (GM E) nL Q σ pc lv (.ref (E.2.2.1 0) :: st) := xr_get (T := TX10) (N := 53) (Cn := RX10) _ 0 12 hC hd hn rfl rfl inX10 (by decide) (TB_of (i := 931) (by decide +kernel) rfl) rfl k
theorem gX10_m_turnWord (hC : xc C (GM E) RX10 cc nL ret rm) (hd : decode cc pc = .ok (.getfield 27, 3)) (hn : pc + 3 = pc') (k : xw C (GM E) nL Q σ pc' lv (.ref (E.2.2.1 5) :: st)) : xw C (GM E) nL Q σ pc lv (.ref (E.2.2.1 0) :: st) := xr_get (T := TX10) (N := 53) (Cn := RX10) _ 0 13 hC hd hn rfl rfl inX10 (by decide) (TB_of (i := 932) (by decide +kernel) rfl) rfl k
theorem gX10_m_made (hC : xc C (GM E) RX10 cc nL ret rm) (hd : decode cc pc = .ok (.getfield 30, 3)) (hn : pc + 3 = pc') (k : xw C (GM E) nL Q σ pc' lv (.ref (E.2.2.1 6) :: st)) : xw C (GM E) nL Q σ pc lv (.ref (E.2.2.1 0) :: st) := xr_get (T := TX10) (N := 53) (Cn := RX10) _ 0 17 hC hd hn rfl rfl inX10 (by decide) (TB_of (i := 936) (by decide +kernel) rfl) rfl k
theorem gX10_m_other (hC : xc C (GM E) RX10 cc nL ret rm) (hd : decode cc pc = .ok (.getfield 34, 3)) (hn : pc + 3 = pc') (k : xw C (GM E) nL Q σ pc' lv (.ref (E.2.2.1 7) :: st)) : xw C (GM E) nL Q σ pc lv (.ref (E.2.2.1 0) :: st) := xr_get (T := TX10) (N := 53) (Cn := RX10) _ 0 18 hC hd hn rfl rfl inX10 (by decide) (TB_of (i := 937) (by decide +kernel) rfl) rfl k
theorem gX10_m_told (hC : xc C (GM E) RX10 cc nL ret rm) (hd : decode cc pc = .ok (.getfield 37, 3)) (hn : pc + 3 = pc') (k : xw C (GM E) nL Q σ pc' lv (.ref (E.2.2.1 8) :: st)) : xw C (GM E) nL Q σ pc lv (.ref (E.2.2.1 0) :: st) := xr_get (T := TX10) (N := 53) (Cn := RX10) _ 0 19 hC hd hn rfl rfl inX10 (by decide) (TB_of (i := 938) (by decide +kernel) rfl) rfl k
theorem gX10_m_solid (hC : xc C (GM E) RX10 cc nL ret rm) (hd : decode cc pc = .ok (.getfield 40, 3)) (hn : pc + 3 = pc') (k : xw C (GM E) nL Q σ pc' lv (.ref (E.2.2.1 9) :: st)) : xw C (GM E) nL Q σ pc lv (.ref (E.2.2.1 0) :: st) := xr_get (T := TX10) (N := 53) (Cn := RX10) _ 0 24 hC hd hn rfl rfl inX10 (by decide) (TB_of (i := 943) (by decide +kernel) rfl) rfl k
theorem gX10_m_ways (hC : xc C (GM E) RX10 cc nL ret rm) (hd : decode cc pc = .ok (.getfield 43, 3)) (hn : pc + 3 = pc') (k : xw C (GM E) nL Q σ pc' lv (.ref (E.2.2.1 10) :: st)) : xw C (GM E) nL Q σ pc lv (.ref (E.2.2.1 0) :: st) := xr_get (T := TX10) (N := 53) (Cn := RX10) _ 0 25 hC hd hn rfl rfl inX10 (by decide) (TB_of (i := 944) (by decide +kernel) rfl) rfl k
theorem gX10_m_order (hC : xc C (GM E) RX10 cc nL ret rm) (hd : decode cc pc = .ok (.getfield 46, 3)) (hn : pc + 3 = pc') (k : xw C (GM E) nL Q σ pc' lv (.ref (E.2.2.1 11) :: st)) : xw C (GM E) nL Q σ pc lv (.ref (E.2.2.1 0) :: st) := xr_get (T := TX10) (N := 53) (Cn := RX10) _ 0 28 hC hd hn rfl rfl inX10 (by decide) (TB_of (i := 947) (by decide +kernel) rfl) rfl k
theorem gX10_m_tried (hC : xc C (GM E) RX10 cc nL ret rm) (hd : decode cc pc = .ok (.getfield 49, 3)) (hn : pc + 3 = pc') (k : xw C (GM E) nL Q σ pc' lv (.ref (E.2.2.1 12) :: st)) : xw C (GM E) nL Q σ pc lv (.ref (E.2.2.1 0) :: st) := xr_get (T := TX10) (N := 53) (Cn := RX10) _ 0 29 hC hd hn rfl rfl inX10 (by decide) (TB_of (i := 948) (by decide +kernel) rfl) rfl k
theorem gX10_m_pieceOf (hC : xc C (GM E) RX10 cc nL ret rm) (hd : decode cc pc = .ok (.getfield 52, 3)) (hn : pc + 3 = pc') (k : xw C (GM E) nL Q σ pc' lv (.ref (E.2.2.1 13) :: st)) : xw C (GM E) nL Q σ pc lv (.ref (E.2.2.1 0) :: st) := xr_get (T := TX10) (N := 53) (Cn := RX10) _ 0 30 hC hd hn rfl rfl inX10 (by decide) (TB_of (i := 949) (by decide +kernel) rfl) rfl k
theorem gX10_m_pile (hC : xc C (GM E) RX10 cc nL ret rm) (hd : decode cc pc = .ok (.getfield 55, 3)) (hn : pc + 3 = pc') (k : xw C (GM E) nL Q σ pc' lv (.ref (E.2.2.1 14) :: st)) : xw C (GM E) nL Q σ pc lv (.ref (E.2.2.1 0) :: st) := xr_get (T := TX10) (N := 53) (Cn := RX10) _ 0 31 hC hd hn rfl rfl inX10 (by decide) (TB_of (i := 950) (by decide +kernel) rfl) rfl k
theorem gX10_m_pieceWay (hC : xc C (GM E) RX10 cc nL ret rm) (hd : decode cc pc = .ok (.getfield 58, 3)) (hn : pc + 3 = pc') (k : xw C (GM E) nL Q σ pc' lv (.ref (E.2.2.1 15) :: st)) : xw C (GM E) nL Q σ pc lv (.ref (E.2.2.1 0) :: st) := xr_get (T := TX10) (N := 53) (Cn := RX10) _ 0 33 hC hd hn rfl rfl inX10 (by decide) (TB_of (i := 952) (by decide +kernel) rfl) rfl k
theorem gX10_m_pieceCells (hC : xc C (GM E) RX10 cc nL ret rm) (hd : decode cc pc = .ok (.getfield 61, 3)) (hn : pc + 3 = pc') (k : xw C (GM E) nL Q σ pc' lv (.ref (E.2.2.1 16) :: st)) : xw C (GM E) nL Q σ pc lv (.ref (E.2.2.1 0) :: st) := xr_get (T := TX10) (N := 53) (Cn := RX10) _ 0 34 hC hd hn rfl rfl inX10 (by decide) (TB_of (i := 953) (by decide +kernel) rfl) rfl k
theorem gX10_m_pieceTouch (hC : xc C (GM E) RX10 cc nL ret rm) (hd : decode cc pc = .ok (.getfield 64, 3)) (hn : pc + 3 = pc') (k : xw C (GM E) nL Q σ pc' lv (.ref (E.2.2.1 17) :: st)) : xw C (GM E) nL Q σ pc lv (.ref (E.2.2.1 0) :: st) := xr_get (T := TX10) (N := 53) (Cn := RX10) _ 0 35 hC hd hn rfl rfl inX10 (by decide) (TB_of (i := 954) (by decide +kernel) rfl) rfl k
theorem gX10_m_poured (hC : xc C (GM E) RX10 cc nL ret rm) (hd : decode cc pc = .ok (.getfield 67, 3)) (hn : pc + 3 = pc') (k : xw C (GM E) nL Q σ pc' lv (.ref (E.2.2.1 18) :: st)) : xw C (GM E) nL Q σ pc lv (.ref (E.2.2.1 0) :: st) := xr_get (T := TX10) (N := 53) (Cn := RX10) _ 0 36 hC hd hn rfl rfl inX10 (by decide) (TB_of (i := 955) (by decide +kernel) rfl) rfl k
theorem gX10_m_life (hC : xc C (GM E) RX10 cc nL ret rm) (hd : decode cc pc = .ok (.getfield 70, 3)) (hn : pc + 3 = pc') (k : xw C (GM E) nL Q σ pc' lv (.int (σ.1 19) :: st)) : xw C (GM E) nL Q σ pc lv (.ref (E.2.2.1 0) :: st) := xr_get (T := TX10) (N := 53) (Cn := RX10) _ 0 37 hC hd hn rfl rfl inX10 (by decide) (TB_of (i := 956) (by decide +kernel) rfl) rfl k
theorem pX10_m_life {x : Int32} {X : xS → Option α} (hC : xc C (GM E) RX10 cc nL ret rm) (hd : decode cc pc = .ok (.putfield 70, 3)) (hn : pc + 3 = pc') (hf : put σ 19 x X = some res) (k : ∀ σ' : xS, X σ' = some res → xw C (GM E) nL Q σ' pc' lv st) : xw C (GM E) nL Q σ pc lv (.int x :: .ref (E.2.2.1 0) :: st) := xr_put (T := TX10) (N := 53) (Cn := RX10) (ty := .int) 0 37 19 hC hd hn rfl rfl inX10 tyX10 tyX10_ok nmX10 (by decide) (TB_of (i := 956) (by decide +kernel) rfl) rfl (by decide +kernel) rfl rfl (Nat.le_of_ble_eq_true rfl) (wM_i19 E.2.2.1 E.2.2.2.1 E.2.2.2.2.1 E.2.2.2.2.2 σ x) hf k
theorem gX10_m_price (hC : xc C (GM E) RX10 cc nL ret rm) (hd : decode cc pc = .ok (.getfield 73, 3)) (hn : pc + 3 = pc') (k : xw C (GM E) nL Q σ pc' lv (.int (σ.1 20) :: st)) : xw C (GM E) nL Q σ pc lv (.ref (E.2.2.1 0) :: st) := xr_get (T := TX10) (N := 53) (Cn := RX10) _ 0 38 hC hd hn rfl rfl inX10 (by decide) (TB_of (i := 957) (by decide +kernel) rfl) rfl k
theorem pX10_m_price {x : Int32} {X : xS → Option α} (hC : xc C (GM E) RX10 cc nL ret rm) (hd : decode cc pc = .ok (.putfield 73, 3)) (hn : pc + 3 = pc') (hf : put σ 20 x X = some res) (k : ∀ σ' : xS, X σ' = some res → xw C (GM E) nL Q σ' pc' lv st) : xw C (GM E) nL Q σ pc lv (.int x :: .ref (E.2.2.1 0) :: st) := xr_put (T := TX10) (N := 53) (Cn := RX10) (ty := .int) 0 38 20 hC hd hn rfl rfl inX10 tyX10 tyX10_ok nmX10 (by decide) (TB_of (i := 957) (by decide +kernel) rfl) rfl (by decide +kernel) rfl rfl (Nat.le_of_ble_eq_true rfl) (wM_i20 E.2.2.1 E.2.2.2.1 E.2.2.2.2.1 E.2.2.2.2.2 σ x) hf k
theorem gX10_m_dry (hC : xc C (GM E) RX10 cc nL ret rm) (hd : decode cc pc = .ok (.getfield 76, 3)) (hn : pc + 3 = pc') (k : xw C (GM E) nL Q σ pc' lv (.int (σ.1 21) :: st)) : xw C (GM E) nL Q σ pc lv (.ref (E.2.2.1 0) :: st) := xr_get (T := TX10) (N := 53) (Cn := RX10) _ 0 39 hC hd hn rfl rfl inX10 (by decide) (TB_of (i := 958) (by decide +kernel) rfl) rfl k
theorem pX10_m_dry {x : Int32} {X : xS → Option α} (hC : xc C (GM E) RX10 cc nL ret rm) (hd : decode cc pc = .ok (.putfield 76, 3)) (hn : pc + 3 = pc') (hf : put σ 21 x X = some res) (k : ∀ σ' : xS, X σ' = some res → xw C (GM E) nL Q σ' pc' lv st) : xw C (GM E) nL Q σ pc lv (.int x :: .ref (E.2.2.1 0) :: st) := xr_put (T := TX10) (N := 53) (Cn := RX10) (ty := .int) 0 39 21 hC hd hn rfl rfl inX10 tyX10 tyX10_ok nmX10 (by decide) (TB_of (i := 958) (by decide +kernel) rfl) rfl (by decide +kernel) rfl rfl (Nat.le_of_ble_eq_true rfl) (wM_i21 E.2.2.1 E.2.2.2.1 E.2.2.2.2.1 E.2.2.2.2.2 σ x) hf k
theorem gX10_m_isOrder (hC : xc C (GM E) RX10 cc nL ret rm) (hd : decode cc pc = .ok (.getfield 79, 3)) (hn : pc + 3 = pc') (k : xw C (GM E) nL Q σ pc' lv (.ref (E.2.2.1 19) :: st)) : xw C (GM E) nL Q σ pc lv (.ref (E.2.2.1 0) :: st) := xr_get (T := TX10) (N := 53) (Cn := RX10) _ 0 40 hC hd hn rfl rfl inX10 (by decide) (TB_of (i := 959) (by decide +kernel) rfl) rfl k
theorem gX10_m_pourMany (hC : xc C (GM E) RX10 cc nL ret rm) (hd : decode cc pc = .ok (.getfield 82, 3)) (hn : pc + 3 = pc') (k : xw C (GM E) nL Q σ pc' lv (.ref (E.2.2.1 20) :: st)) : xw C (GM E) nL Q σ pc lv (.ref (E.2.2.1 0) :: st) := xr_get (T := TX10) (N := 53) (Cn := RX10) _ 0 41 hC hd hn rfl rfl inX10 (by decide) (TB_of (i := 960) (by decide +kernel) rfl) rfl k
theorem gX10_m_due (hC : xc C (GM E) RX10 cc nL ret rm) (hd : decode cc pc = .ok (.getfield 85, 3)) (hn : pc + 3 = pc') (k : xw C (GM E) nL Q σ pc' lv (.ref (E.2.2.1 21) :: st)) : xw C (GM E) nL Q σ pc lv (.ref (E.2.2.1 0) :: st) := xr_get (T := TX10) (N := 53) (Cn := RX10) _ 0 42 hC hd hn rfl rfl inX10 (by decide) (TB_of (i := 961) (by decide +kernel) rfl) rfl k
theorem gX10_m_weight (hC : xc C (GM E) RX10 cc nL ret rm) (hd : decode cc pc = .ok (.getfield 88, 3)) (hn : pc + 3 = pc') (k : xw C (GM E) nL Q σ pc' lv (.ref (E.2.2.1 22) :: st)) : xw C (GM E) nL Q σ pc lv (.ref (E.2.2.1 0) :: st) := xr_get (T := TX10) (N := 53) (Cn := RX10) _ 0 43 hC hd hn rfl rfl inX10 (by decide) (TB_of (i := 962) (by decide +kernel) rfl) rfl k
theorem gX10_m_least (hC : xc C (GM E) RX10 cc nL ret rm) (hd : decode cc pc = .ok (.getfield 91, 3)) (hn : pc + 3 = pc') (k : xw C (GM E) nL Q σ pc' lv (.ref (E.2.2.1 23) :: st)) : xw C (GM E) nL Q σ pc lv (.ref (E.2.2.1 0) :: st) := xr_get (T := TX10) (N := 53) (Cn := RX10) _ 0 44 hC hd hn rfl rfl inX10 (by decide) (TB_of (i := 963) (by decide +kernel) rfl) rfl k
theorem gX10_m_rowOrder (hC : xc C (GM E) RX10 cc nL ret rm) (hd : decode cc pc = .ok (.getfield 94, 3)) (hn : pc + 3 = pc') (k : xw C (GM E) nL Q σ pc' lv (.ref (E.2.2.1 24) :: st)) : xw C (GM E) nL Q σ pc lv (.ref (E.2.2.1 0) :: st) := xr_get (T := TX10) (N := 53) (Cn := RX10) _ 0 46 hC hd hn rfl rfl inX10 (by decide) (TB_of (i := 965) (by decide +kernel) rfl) rfl k
theorem gX10_m_rowLate (hC : xc C (GM E) RX10 cc nL ret rm) (hd : decode cc pc = .ok (.getfield 97, 3)) (hn : pc + 3 = pc') (k : xw C (GM E) nL Q σ pc' lv (.ref (E.2.2.1 25) :: st)) : xw C (GM E) nL Q σ pc lv (.ref (E.2.2.1 0) :: st) := xr_get (T := TX10) (N := 53) (Cn := RX10) _ 0 47 hC hd hn rfl rfl inX10 (by decide) (TB_of (i := 966) (by decide +kernel) rfl) rfl k
theorem gX10_m_castSize (hC : xc C (GM E) RX10 cc nL ret rm) (hd : decode cc pc = .ok (.getfield 100, 3)) (hn : pc + 3 = pc') (k : xw C (GM E) nL Q σ pc' lv (.ref (E.2.2.1 26) :: st)) : xw C (GM E) nL Q σ pc lv (.ref (E.2.2.1 0) :: st) := xr_get (T := TX10) (N := 53) (Cn := RX10) _ 0 48 hC hd hn rfl rfl inX10 (by decide) (TB_of (i := 967) (by decide +kernel) rfl) rfl k
theorem gX10_m_detail (hC : xc C (GM E) RX10 cc nL ret rm) (hd : decode cc pc = .ok (.getfield 103, 3)) (hn : pc + 3 = pc') (k : xw C (GM E) nL Q σ pc' lv (.ref (E.2.2.1 27) :: st)) : xw C (GM E) nL Q σ pc lv (.ref (E.2.2.1 0) :: st) := xr_get (T := TX10) (N := 53) (Cn := RX10) _ 0 49 hC hd hn rfl rfl inX10 (by decide) (TB_of (i := 968) (by decide +kernel) rfl) rfl k
theorem gX10_m_shrink (hC : xc C (GM E) RX10 cc nL ret rm) (hd : decode cc pc = .ok (.getfield 106, 3)) (hn : pc + 3 = pc') (k : xw C (GM E) nL Q σ pc' lv (.int (σ.1 23) :: st)) : xw C (GM E) nL Q σ pc lv (.ref (E.2.2.1 0) :: st) := xr_get (T := TX10) (N := 53) (Cn := RX10) _ 0 50 hC hd hn rfl rfl inX10 (by decide) (TB_of (i := 969) (by decide +kernel) rfl) rfl k
theorem pX10_m_shrink {x : Int32} {X : xS → Option α} (hC : xc C (GM E) RX10 cc nL ret rm) (hd : decode cc pc = .ok (.putfield 106, 3)) (hn : pc + 3 = pc') (hf : put σ 23 x X = some res) (k : ∀ σ' : xS, X σ' = some res → xw C (GM E) nL Q σ' pc' lv st) : xw C (GM E) nL Q σ pc lv (.int x :: .ref (E.2.2.1 0) :: st) := xr_put (T := TX10) (N := 53) (Cn := RX10) (ty := .int) 0 50 23 hC hd hn rfl rfl inX10 tyX10 tyX10_ok nmX10 (by decide) (TB_of (i := 969) (by decide +kernel) rfl) rfl (by decide +kernel) rfl rfl (Nat.le_of_ble_eq_true rfl) (wM_i23 E.2.2.1 E.2.2.2.1 E.2.2.2.2.1 E.2.2.2.2.2 σ x) hf k
theorem gX10_m_blur (hC : xc C (GM E) RX10 cc nL ret rm) (hd : decode cc pc = .ok (.getfield 109, 3)) (hn : pc + 3 = pc') (k : xw C (GM E) nL Q σ pc' lv (.int (σ.1 24) :: st)) : xw C (GM E) nL Q σ pc lv (.ref (E.2.2.1 0) :: st) := xr_get (T := TX10) (N := 53) (Cn := RX10) _ 0 51 hC hd hn rfl rfl inX10 (by decide) (TB_of (i := 970) (by decide +kernel) rfl) rfl k
theorem pX10_m_blur {x : Int32} {X : xS → Option α} (hC : xc C (GM E) RX10 cc nL ret rm) (hd : decode cc pc = .ok (.putfield 109, 3)) (hn : pc + 3 = pc') (hf : put σ 24 x X = some res) (k : ∀ σ' : xS, X σ' = some res → xw C (GM E) nL Q σ' pc' lv st) : xw C (GM E) nL Q σ pc lv (.int x :: .ref (E.2.2.1 0) :: st) := xr_put (T := TX10) (N := 53) (Cn := RX10) (ty := .int) 0 51 24 hC hd hn rfl rfl inX10 tyX10 tyX10_ok nmX10 (by decide) (TB_of (i := 970) (by decide +kernel) rfl) rfl (by decide +kernel) rfl rfl (Nat.le_of_ble_eq_true rfl) (wM_i24 E.2.2.1 E.2.2.2.1 E.2.2.2.2.1 E.2.2.2.2.2 σ x) hf k
theorem gX10_m_bound (hC : xc C (GM E) RX10 cc nL ret rm) (hd : decode cc pc = .ok (.getfield 112, 3)) (hn : pc + 3 = pc') (k : xw C (GM E) nL Q σ pc' lv (.int (σ.1 25) :: st)) : xw C (GM E) nL Q σ pc lv (.ref (E.2.2.1 0) :: st) := xr_get (T := TX10) (N := 53) (Cn := RX10) _ 0 52 hC hd hn rfl rfl inX10 (by decide) (TB_of (i := 971) (by decide +kernel) rfl) rfl k
theorem pX10_m_bound {x : Int32} {X : xS → Option α} (hC : xc C (GM E) RX10 cc nL ret rm) (hd : decode cc pc = .ok (.putfield 112, 3)) (hn : pc + 3 = pc') (hf : put σ 25 x X = some res) (k : ∀ σ' : xS, X σ' = some res → xw C (GM E) nL Q σ' pc' lv st) : xw C (GM E) nL Q σ pc lv (.int x :: .ref (E.2.2.1 0) :: st) := xr_put (T := TX10) (N := 53) (Cn := RX10) (ty := .int) 0 52 25 hC hd hn rfl rfl inX10 tyX10 tyX10_ok nmX10 (by decide) (TB_of (i := 971) (by decide +kernel) rfl) rfl (by decide +kernel) rfl rfl (Nat.le_of_ble_eq_true rfl) (wM_i25 E.2.2.1 E.2.2.2.1 E.2.2.2.2.1 E.2.2.2.2.2 σ x) hf k
theorem gX10_m_taped (hC : xc C (GM E) RX10 cc nL ret rm) (hd : decode cc pc = .ok (.getfield 115, 3)) (hn : pc + 3 = pc') (k : xw C (GM E) nL Q σ pc' lv (.int (σ.1 0) :: st)) : xw C (GM E) nL Q σ pc lv (.ref (E.2.2.1 0) :: st) := xr_get (T := TX10) (N := 53) (Cn := RX10) _ 0 1 hC hd hn rfl rfl inX10 (by decide) (TB_of (i := 920) (by decide +kernel) rfl) rfl k
theorem pX10_m_taped {x : Int32} {X : xS → Option α} (hC : xc C (GM E) RX10 cc nL ret rm) (hd : decode cc pc = .ok (.putfield 115, 3)) (hn : pc + 3 = pc') (hf : put σ 0 x X = some res) (k : ∀ σ' : xS, X σ' = some res → xw C (GM E) nL Q σ' pc' lv st) : xw C (GM E) nL Q σ pc lv (.int x :: .ref (E.2.2.1 0) :: st) := xr_put (T := TX10) (N := 53) (Cn := RX10) (ty := .int) 0 1 0 hC hd hn rfl rfl inX10 tyX10 tyX10_ok nmX10 (by decide) (TB_of (i := 920) (by decide +kernel) rfl) rfl (by decide +kernel) rfl rfl (Nat.le_of_ble_eq_true rfl) (wM_i0 E.2.2.1 E.2.2.2.1 E.2.2.2.2.1 E.2.2.2.2.2 σ x) hf k
theorem gX10_m_bad (hC : xc C (GM E) RX10 cc nL ret rm) (hd : decode cc pc = .ok (.getfield 118, 3)) (hn : pc + 3 = pc') (k : xw C (GM E) nL Q σ pc' lv (.int (σ.1 5) :: st)) : xw C (GM E) nL Q σ pc lv (.ref (E.2.2.1 0) :: st) := xr_get (T := TX10) (N := 53) (Cn := RX10) _ 0 6 hC hd hn rfl rfl inX10 (by decide) (TB_of (i := 925) (by decide +kernel) rfl) rfl k
theorem pX10_m_bad {x : Int32} {X : xS → Option α} (hC : xc C (GM E) RX10 cc nL ret rm) (hd : decode cc pc = .ok (.putfield 118, 3)) (hn : pc + 3 = pc') (hf : put σ 5 x X = some res) (k : ∀ σ' : xS, X σ' = some res → xw C (GM E) nL Q σ' pc' lv st) : xw C (GM E) nL Q σ pc lv (.int x :: .ref (E.2.2.1 0) :: st) := xr_put (T := TX10) (N := 53) (Cn := RX10) (ty := .int) 0 6 5 hC hd hn rfl rfl inX10 tyX10 tyX10_ok nmX10 (by decide) (TB_of (i := 925) (by decide +kernel) rfl) rfl (by decide +kernel) rfl rfl (Nat.le_of_ble_eq_true rfl) (wM_i5 E.2.2.1 E.2.2.2.1 E.2.2.2.2.1 E.2.2.2.2.2 σ x) hf k
theorem gX10_m_badPlace (hC : xc C (GM E) RX10 cc nL ret rm) (hd : decode cc pc = .ok (.getfield 121, 3)) (hn : pc + 3 = pc') (k : xw C (GM E) nL Q σ pc' lv (.int (σ.1 6) :: st)) : xw C (GM E) nL Q σ pc lv (.ref (E.2.2.1 0) :: st) := xr_get (T := TX10) (N := 53) (Cn := RX10) _ 0 7 hC hd hn rfl rfl inX10 (by decide) (TB_of (i := 926) (by decide +kernel) rfl) rfl k
theorem pX10_m_badPlace {x : Int32} {X : xS → Option α} (hC : xc C (GM E) RX10 cc nL ret rm) (hd : decode cc pc = .ok (.putfield 121, 3)) (hn : pc + 3 = pc') (hf : put σ 6 x X = some res) (k : ∀ σ' : xS, X σ' = some res → xw C (GM E) nL Q σ' pc' lv st) : xw C (GM E) nL Q σ pc lv (.int x :: .ref (E.2.2.1 0) :: st) := xr_put (T := TX10) (N := 53) (Cn := RX10) (ty := .int) 0 7 6 hC hd hn rfl rfl inX10 tyX10 tyX10_ok nmX10 (by decide) (TB_of (i := 926) (by decide +kernel) rfl) rfl (by decide +kernel) rfl rfl (Nat.le_of_ble_eq_true rfl) (wM_i6 E.2.2.1 E.2.2.2.1 E.2.2.2.2.1 E.2.2.2.2.2 σ x) hf k
theorem gX10_m_at (hC : xc C (GM E) RX10 cc nL ret rm) (hd : decode cc pc = .ok (.getfield 124, 3)) (hn : pc + 3 = pc') (k : xw C (GM E) nL Q σ pc' lv (.int (σ.1 1) :: st)) : xw C (GM E) nL Q σ pc lv (.ref (E.2.2.1 0) :: st) := xr_get (T := TX10) (N := 53) (Cn := RX10) _ 0 2 hC hd hn rfl rfl inX10 (by decide) (TB_of (i := 921) (by decide +kernel) rfl) rfl k
theorem pX10_m_at {x : Int32} {X : xS → Option α} (hC : xc C (GM E) RX10 cc nL ret rm) (hd : decode cc pc = .ok (.putfield 124, 3)) (hn : pc + 3 = pc') (hf : put σ 1 x X = some res) (k : ∀ σ' : xS, X σ' = some res → xw C (GM E) nL Q σ' pc' lv st) : xw C (GM E) nL Q σ pc lv (.int x :: .ref (E.2.2.1 0) :: st) := xr_put (T := TX10) (N := 53) (Cn := RX10) (ty := .int) 0 2 1 hC hd hn rfl rfl inX10 tyX10 tyX10_ok nmX10 (by decide) (TB_of (i := 921) (by decide +kernel) rfl) rfl (by decide +kernel) rfl rfl (Nat.le_of_ble_eq_true rfl) (wM_i1 E.2.2.1 E.2.2.2.1 E.2.2.2.2.1 E.2.2.2.2.2 σ x) hf k
theorem gX10_m_size (hC : xc C (GM E) RX10 cc nL ret rm) (hd : decode cc pc = .ok (.getfield 127, 3)) (hn : pc + 3 = pc') (k : xw C (GM E) nL Q σ pc' lv (.int (σ.1 2) :: st)) : xw C (GM E) nL Q σ pc lv (.ref (E.2.2.1 0) :: st) := xr_get (T := TX10) (N := 53) (Cn := RX10) _ 0 3 hC hd hn rfl rfl inX10 (by decide) (TB_of (i := 922) (by decide +kernel) rfl) rfl k
theorem pX10_m_size {x : Int32} {X : xS → Option α} (hC : xc C (GM E) RX10 cc nL ret rm) (hd : decode cc pc = .ok (.putfield 127, 3)) (hn : pc + 3 = pc') (hf : put σ 2 x X = some res) (k : ∀ σ' : xS, X σ' = some res → xw C (GM E) nL Q σ' pc' lv st) : xw C (GM E) nL Q σ pc lv (.int x :: .ref (E.2.2.1 0) :: st) := xr_put (T := TX10) (N := 53) (Cn := RX10) (ty := .int) 0 3 2 hC hd hn rfl rfl inX10 tyX10 tyX10_ok nmX10 (by decide) (TB_of (i := 922) (by decide +kernel) rfl) rfl (by decide +kernel) rfl rfl (Nat.le_of_ble_eq_true rfl) (wM_i2 E.2.2.1 E.2.2.2.1 E.2.2.2.2.1 E.2.2.2.2.2 σ x) hf k
theorem gX10_m_begun (hC : xc C (GM E) RX10 cc nL ret rm) (hd : decode cc pc = .ok (.getfield 130, 3)) (hn : pc + 3 = pc') (k : xw C (GM E) nL Q σ pc' lv (.int (σ.1 3) :: st)) : xw C (GM E) nL Q σ pc lv (.ref (E.2.2.1 0) :: st) := xr_get (T := TX10) (N := 53) (Cn := RX10) _ 0 4 hC hd hn rfl rfl inX10 (by decide) (TB_of (i := 923) (by decide +kernel) rfl) rfl k
theorem pX10_m_begun {x : Int32} {X : xS → Option α} (hC : xc C (GM E) RX10 cc nL ret rm) (hd : decode cc pc = .ok (.putfield 130, 3)) (hn : pc + 3 = pc') (hf : put σ 3 x X = some res) (k : ∀ σ' : xS, X σ' = some res → xw C (GM E) nL Q σ' pc' lv st) : xw C (GM E) nL Q σ pc lv (.int x :: .ref (E.2.2.1 0) :: st) := xr_put (T := TX10) (N := 53) (Cn := RX10) (ty := .int) 0 4 3 hC hd hn rfl rfl inX10 tyX10 tyX10_ok nmX10 (by decide) (TB_of (i := 923) (by decide +kernel) rfl) rfl (by decide +kernel) rfl rfl (Nat.le_of_ble_eq_true rfl) (wM_i3 E.2.2.1 E.2.2.2.1 E.2.2.2.2.1 E.2.2.2.2.2 σ x) hf k
theorem gX10_m_ended (hC : xc C (GM E) RX10 cc nL ret rm) (hd : decode cc pc = .ok (.getfield 141, 3)) (hn : pc + 3 = pc') (k : xw C (GM E) nL Q σ pc' lv (.int (σ.1 4) :: st)) : xw C (GM E) nL Q σ pc lv (.ref (E.2.2.1 0) :: st) := xr_get (T := TX10) (N := 53) (Cn := RX10) _ 0 5 hC hd hn rfl rfl inX10 (by decide) (TB_of (i := 924) (by decide +kernel) rfl) rfl k
theorem pX10_m_ended {x : Int32} {X : xS → Option α} (hC : xc C (GM E) RX10 cc nL ret rm) (hd : decode cc pc = .ok (.putfield 141, 3)) (hn : pc + 3 = pc') (hf : put σ 4 x X = some res) (k : ∀ σ' : xS, X σ' = some res → xw C (GM E) nL Q σ' pc' lv st) : xw C (GM E) nL Q σ pc lv (.int x :: .ref (E.2.2.1 0) :: st) := xr_put (T := TX10) (N := 53) (Cn := RX10) (ty := .int) 0 5 4 hC hd hn rfl rfl inX10 tyX10 tyX10_ok nmX10 (by decide) (TB_of (i := 924) (by decide +kernel) rfl) rfl (by decide +kernel) rfl rfl (Nat.le_of_ble_eq_true rfl) (wM_i4 E.2.2.1 E.2.2.2.1 E.2.2.2.2.1 E.2.2.2.2.2 σ x) hf k
theorem gX10_m_newDeep (hC : xc C (GM E) RX10 cc nL ret rm) (hd : decode cc pc = .ok (.getfield 155, 3)) (hn : pc + 3 = pc') (k : xw C (GM E) nL Q σ pc' lv (.int (σ.1 11) :: st)) : xw C (GM E) nL Q σ pc lv (.ref (E.2.2.1 0) :: st) := xr_get (T := TX10) (N := 53) (Cn := RX10) _ 0 16 hC hd hn rfl rfl inX10 (by decide) (TB_of (i := 935) (by decide +kernel) rfl) rfl k
theorem pX10_m_newDeep {x : Int32} {X : xS → Option α} (hC : xc C (GM E) RX10 cc nL ret rm) (hd : decode cc pc = .ok (.putfield 155, 3)) (hn : pc + 3 = pc') (hf : put σ 11 x X = some res) (k : ∀ σ' : xS, X σ' = some res → xw C (GM E) nL Q σ' pc' lv st) : xw C (GM E) nL Q σ pc lv (.int x :: .ref (E.2.2.1 0) :: st) := xr_put (T := TX10) (N := 53) (Cn := RX10) (ty := .int) 0 16 11 hC hd hn rfl rfl inX10 tyX10 tyX10_ok nmX10 (by decide) (TB_of (i := 935) (by decide +kernel) rfl) rfl (by decide +kernel) rfl rfl (Nat.le_of_ble_eq_true rfl) (wM_i11 E.2.2.1 E.2.2.2.1 E.2.2.2.2.1 E.2.2.2.2.2 σ x) hf k
theorem gX10_m_newHigh (hC : xc C (GM E) RX10 cc nL ret rm) (hd : decode cc pc = .ok (.getfield 158, 3)) (hn : pc + 3 = pc') (k : xw C (GM E) nL Q σ pc' lv (.int (σ.1 10) :: st)) : xw C (GM E) nL Q σ pc lv (.ref (E.2.2.1 0) :: st) := xr_get (T := TX10) (N := 53) (Cn := RX10) _ 0 15 hC hd hn rfl rfl inX10 (by decide) (TB_of (i := 934) (by decide +kernel) rfl) rfl k
theorem pX10_m_newHigh {x : Int32} {X : xS → Option α} (hC : xc C (GM E) RX10 cc nL ret rm) (hd : decode cc pc = .ok (.putfield 158, 3)) (hn : pc + 3 = pc') (hf : put σ 10 x X = some res) (k : ∀ σ' : xS, X σ' = some res → xw C (GM E) nL Q σ' pc' lv st) : xw C (GM E) nL Q σ pc lv (.int x :: .ref (E.2.2.1 0) :: st) := xr_put (T := TX10) (N := 53) (Cn := RX10) (ty := .int) 0 15 10 hC hd hn rfl rfl inX10 tyX10 tyX10_ok nmX10 (by decide) (TB_of (i := 934) (by decide +kernel) rfl) rfl (by decide +kernel) rfl rfl (Nat.le_of_ble_eq_true rfl) (wM_i10 E.2.2.1 E.2.2.2.1 E.2.2.2.2.1 E.2.2.2.2.2 σ x) hf k
theorem gX10_m_newWide (hC : xc C (GM E) RX10 cc nL ret rm) (hd : decode cc pc = .ok (.getfield 161, 3)) (hn : pc + 3 = pc') (k : xw C (GM E) nL Q σ pc' lv (.int (σ.1 9) :: st)) : xw C (GM E) nL Q σ pc lv (.ref (E.2.2.1 0) :: st) := xr_get (T := TX10) (N := 53) (Cn := RX10) _ 0 14 hC hd hn rfl rfl inX10 (by decide) (TB_of (i := 933) (by decide +kernel) rfl) rfl k
theorem pX10_m_newWide {x : Int32} {X : xS → Option α} (hC : xc C (GM E) RX10 cc nL ret rm) (hd : decode cc pc = .ok (.putfield 161, 3)) (hn : pc + 3 = pc') (hf : put σ 9 x X = some res) (k : ∀ σ' : xS, X σ' = some res → xw C (GM E) nL Q σ' pc' lv st) : xw C (GM E) nL Q σ pc lv (.int x :: .ref (E.2.2.1 0) :: st) := xr_put (T := TX10) (N := 53) (Cn := RX10) (ty := .int) 0 14 9 hC hd hn rfl rfl inX10 tyX10 tyX10_ok nmX10 (by decide) (TB_of (i := 933) (by decide +kernel) rfl) rfl (by decide +kernel) rfl rfl (Nat.le_of_ble_eq_true rfl) (wM_i9 E.2.2.1 E.2.2.2.1 E.2.2.2.2.1 E.2.2.2.2.2 σ x) hf k
theorem gX10_m_hasForm (hC : xc C (GM E) RX10 cc nL ret rm) (hd : decode cc pc = .ok (.getfield 183, 3)) (hn : pc + 3 = pc') (k : xw C (GM E) nL Q σ pc' lv (.int (σ.1 12) :: st)) : xw C (GM E) nL Q σ pc lv (.ref (E.2.2.1 0) :: st) := xr_get (T := TX10) (N := 53) (Cn := RX10) _ 0 20 hC hd hn rfl rfl inX10 (by decide) (TB_of (i := 939) (by decide +kernel) rfl) rfl k
theorem pX10_m_hasForm {x : Int32} {X : xS → Option α} (hz : narrow .boolean (.int x) = .int x) (hz2 : fits .boolean (.int x) = true) (hC : xc C (GM E) RX10 cc nL ret rm) (hd : decode cc pc = .ok (.putfield 183, 3)) (hn : pc + 3 = pc') (hf : put σ 12 x X = some res) (k : ∀ σ' : xS, X σ' = some res → xw C (GM E) nL Q σ' pc' lv st) : xw C (GM E) nL Q σ pc lv (.int x :: .ref (E.2.2.1 0) :: st) := xr_put (T := TX10) (N := 53) (Cn := RX10) (ty := .boolean) 0 20 12 hC hd hn rfl rfl inX10 tyX10 tyX10_ok nmX10 (by decide) (TB_of (i := 939) (by decide +kernel) rfl) rfl (by decide +kernel) hz hz2 (Nat.le_of_ble_eq_true rfl) (wM_i12 E.2.2.1 E.2.2.2.1 E.2.2.2.2.1 E.2.2.2.2.2 σ x) hf k
theorem gX10_m_wide (hC : xc C (GM E) RX10 cc nL ret rm) (hd : decode cc pc = .ok (.getfield 187, 3)) (hn : pc + 3 = pc') (k : xw C (GM E) nL Q σ pc' lv (.int (σ.1 13) :: st)) : xw C (GM E) nL Q σ pc lv (.ref (E.2.2.1 0) :: st) := xr_get (T := TX10) (N := 53) (Cn := RX10) _ 0 21 hC hd hn rfl rfl inX10 (by decide) (TB_of (i := 940) (by decide +kernel) rfl) rfl k
theorem pX10_m_wide {x : Int32} {X : xS → Option α} (hC : xc C (GM E) RX10 cc nL ret rm) (hd : decode cc pc = .ok (.putfield 187, 3)) (hn : pc + 3 = pc') (hf : put σ 13 x X = some res) (k : ∀ σ' : xS, X σ' = some res → xw C (GM E) nL Q σ' pc' lv st) : xw C (GM E) nL Q σ pc lv (.int x :: .ref (E.2.2.1 0) :: st) := xr_put (T := TX10) (N := 53) (Cn := RX10) (ty := .int) 0 21 13 hC hd hn rfl rfl inX10 tyX10 tyX10_ok nmX10 (by decide) (TB_of (i := 940) (by decide +kernel) rfl) rfl (by decide +kernel) rfl rfl (Nat.le_of_ble_eq_true rfl) (wM_i13 E.2.2.1 E.2.2.2.1 E.2.2.2.2.1 E.2.2.2.2.2 σ x) hf k
theorem gX10_m_high (hC : xc C (GM E) RX10 cc nL ret rm) (hd : decode cc pc = .ok (.getfield 190, 3)) (hn : pc + 3 = pc') (k : xw C (GM E) nL Q σ pc' lv (.int (σ.1 14) :: st)) : xw C (GM E) nL Q σ pc lv (.ref (E.2.2.1 0) :: st) := xr_get (T := TX10) (N := 53) (Cn := RX10) _ 0 22 hC hd hn rfl rfl inX10 (by decide) (TB_of (i := 941) (by decide +kernel) rfl) rfl k
theorem pX10_m_high {x : Int32} {X : xS → Option α} (hC : xc C (GM E) RX10 cc nL ret rm) (hd : decode cc pc = .ok (.putfield 190, 3)) (hn : pc + 3 = pc') (hf : put σ 14 x X = some res) (k : ∀ σ' : xS, X σ' = some res → xw C (GM E) nL Q σ' pc' lv st) : xw C (GM E) nL Q σ pc lv (.int x :: .ref (E.2.2.1 0) :: st) := xr_put (T := TX10) (N := 53) (Cn := RX10) (ty := .int) 0 22 14 hC hd hn rfl rfl inX10 tyX10 tyX10_ok nmX10 (by decide) (TB_of (i := 941) (by decide +kernel) rfl) rfl (by decide +kernel) rfl rfl (Nat.le_of_ble_eq_true rfl) (wM_i14 E.2.2.1 E.2.2.2.1 E.2.2.2.2.1 E.2.2.2.2.2 σ x) hf k
theorem gX10_m_deep (hC : xc C (GM E) RX10 cc nL ret rm) (hd : decode cc pc = .ok (.getfield 193, 3)) (hn : pc + 3 = pc') (k : xw C (GM E) nL Q σ pc' lv (.int (σ.1 15) :: st)) : xw C (GM E) nL Q σ pc lv (.ref (E.2.2.1 0) :: st) := xr_get (T := TX10) (N := 53) (Cn := RX10) _ 0 23 hC hd hn rfl rfl inX10 (by decide) (TB_of (i := 942) (by decide +kernel) rfl) rfl k
theorem pX10_m_deep {x : Int32} {X : xS → Option α} (hC : xc C (GM E) RX10 cc nL ret rm) (hd : decode cc pc = .ok (.putfield 193, 3)) (hn : pc + 3 = pc') (hf : put σ 15 x X = some res) (k : ∀ σ' : xS, X σ' = some res → xw C (GM E) nL Q σ' pc' lv st) : xw C (GM E) nL Q σ pc lv (.int x :: .ref (E.2.2.1 0) :: st) := xr_put (T := TX10) (N := 53) (Cn := RX10) (ty := .int) 0 23 15 hC hd hn rfl rfl inX10 tyX10 tyX10_ok nmX10 (by decide) (TB_of (i := 942) (by decide +kernel) rfl) rfl (by decide +kernel) rfl rfl (Nat.le_of_ble_eq_true rfl) (wM_i15 E.2.2.1 E.2.2.2.1 E.2.2.2.2.1 E.2.2.2.2.2 σ x) hf k
theorem gX10_m_fault (hC : xc C (GM E) RX10 cc nL ret rm) (hd : decode cc pc = .ok (.getfield 203, 3)) (hn : pc + 3 = pc') (k : xw C (GM E) nL Q σ pc' lv (.int (σ.1 7) :: st)) : xw C (GM E) nL Q σ pc lv (.ref (E.2.2.1 0) :: st) := xr_get (T := TX10) (N := 53) (Cn := RX10) _ 0 8 hC hd hn rfl rfl inX10 (by decide) (TB_of (i := 927) (by decide +kernel) rfl) rfl k
theorem pX10_m_fault {x : Int32} {X : xS → Option α} (hC : xc C (GM E) RX10 cc nL ret rm) (hd : decode cc pc = .ok (.putfield 203, 3)) (hn : pc + 3 = pc') (hf : put σ 7 x X = some res) (k : ∀ σ' : xS, X σ' = some res → xw C (GM E) nL Q σ' pc' lv st) : xw C (GM E) nL Q σ pc lv (.int x :: .ref (E.2.2.1 0) :: st) := xr_put (T := TX10) (N := 53) (Cn := RX10) (ty := .int) 0 8 7 hC hd hn rfl rfl inX10 tyX10 tyX10_ok nmX10 (by decide) (TB_of (i := 927) (by decide +kernel) rfl) rfl (by decide +kernel) rfl rfl (Nat.le_of_ble_eq_true rfl) (wM_i7 E.2.2.1 E.2.2.2.1 E.2.2.2.2.1 E.2.2.2.2.2 σ x) hf k
theorem gX10_m_hasDrawing (hC : xc C (GM E) RX10 cc nL ret rm) (hd : decode cc pc = .ok (.getfield 206, 3)) (hn : pc + 3 = pc') (k : xw C (GM E) nL Q σ pc' lv (.int (σ.1 16) :: st)) : xw C (GM E) nL Q σ pc lv (.ref (E.2.2.1 0) :: st) := xr_get (T := TX10) (N := 53) (Cn := RX10) _ 0 26 hC hd hn rfl rfl inX10 (by decide) (TB_of (i := 945) (by decide +kernel) rfl) rfl k
theorem pX10_m_hasDrawing {x : Int32} {X : xS → Option α} (hz : narrow .boolean (.int x) = .int x) (hz2 : fits .boolean (.int x) = true) (hC : xc C (GM E) RX10 cc nL ret rm) (hd : decode cc pc = .ok (.putfield 206, 3)) (hn : pc + 3 = pc') (hf : put σ 16 x X = some res) (k : ∀ σ' : xS, X σ' = some res → xw C (GM E) nL Q σ' pc' lv st) : xw C (GM E) nL Q σ pc lv (.int x :: .ref (E.2.2.1 0) :: st) := xr_put (T := TX10) (N := 53) (Cn := RX10) (ty := .boolean) 0 26 16 hC hd hn rfl rfl inX10 tyX10 tyX10_ok nmX10 (by decide) (TB_of (i := 945) (by decide +kernel) rfl) rfl (by decide +kernel) hz hz2 (Nat.le_of_ble_eq_true rfl) (wM_i16 E.2.2.1 E.2.2.2.1 E.2.2.2.2.1 E.2.2.2.2.2 σ x) hf k
theorem gX10_m_pieces (hC : xc C (GM E) RX10 cc nL ret rm) (hd : decode cc pc = .ok (.getfield 227, 3)) (hn : pc + 3 = pc') (k : xw C (GM E) nL Q σ pc' lv (.int (σ.1 18) :: st)) : xw C (GM E) nL Q σ pc lv (.ref (E.2.2.1 0) :: st) := xr_get (T := TX10) (N := 53) (Cn := RX10) _ 0 32 hC hd hn rfl rfl inX10 (by decide) (TB_of (i := 951) (by decide +kernel) rfl) rfl k
theorem pX10_m_pieces {x : Int32} {X : xS → Option α} (hC : xc C (GM E) RX10 cc nL ret rm) (hd : decode cc pc = .ok (.putfield 227, 3)) (hn : pc + 3 = pc') (hf : put σ 18 x X = some res) (k : ∀ σ' : xS, X σ' = some res → xw C (GM E) nL Q σ' pc' lv st) : xw C (GM E) nL Q σ pc lv (.int x :: .ref (E.2.2.1 0) :: st) := xr_put (T := TX10) (N := 53) (Cn := RX10) (ty := .int) 0 32 18 hC hd hn rfl rfl inX10 tyX10 tyX10_ok nmX10 (by decide) (TB_of (i := 951) (by decide +kernel) rfl) rfl (by decide +kernel) rfl rfl (Nat.le_of_ble_eq_true rfl) (wM_i18 E.2.2.1 E.2.2.2.1 E.2.2.2.2.1 E.2.2.2.2.2 σ x) hf k
theorem gX10_m_many (hC : xc C (GM E) RX10 cc nL ret rm) (hd : decode cc pc = .ok (.getfield 255, 3)) (hn : pc + 3 = pc') (k : xw C (GM E) nL Q σ pc' lv (.int (σ.1 17) :: st)) : xw C (GM E) nL Q σ pc lv (.ref (E.2.2.1 0) :: st) := xr_get (T := TX10) (N := 53) (Cn := RX10) _ 0 27 hC hd hn rfl rfl inX10 (by decide) (TB_of (i := 946) (by decide +kernel) rfl) rfl k
theorem pX10_m_many {x : Int32} {X : xS → Option α} (hC : xc C (GM E) RX10 cc nL ret rm) (hd : decode cc pc = .ok (.putfield 255, 3)) (hn : pc + 3 = pc') (hf : put σ 17 x X = some res) (k : ∀ σ' : xS, X σ' = some res → xw C (GM E) nL Q σ' pc' lv st) : xw C (GM E) nL Q σ pc lv (.int x :: .ref (E.2.2.1 0) :: st) := xr_put (T := TX10) (N := 53) (Cn := RX10) (ty := .int) 0 27 17 hC hd hn rfl rfl inX10 tyX10 tyX10_ok nmX10 (by decide) (TB_of (i := 946) (by decide +kernel) rfl) rfl (by decide +kernel) rfl rfl (Nat.le_of_ble_eq_true rfl) (wM_i17 E.2.2.1 E.2.2.2.1 E.2.2.2.2.1 E.2.2.2.2.2 σ x) hf k
theorem gX10_m_rows (hC : xc C (GM E) RX10 cc nL ret rm) (hd : decode cc pc = .ok (.getfield 282, 3)) (hn : pc + 3 = pc') (k : xw C (GM E) nL Q σ pc' lv (.int (σ.1 22) :: st)) : xw C (GM E) nL Q σ pc lv (.ref (E.2.2.1 0) :: st) := xr_get (T := TX10) (N := 53) (Cn := RX10) _ 0 45 hC hd hn rfl rfl inX10 (by decide) (TB_of (i := 964) (by decide +kernel) rfl) rfl k
theorem pX10_m_rows {x : Int32} {X : xS → Option α} (hC : xc C (GM E) RX10 cc nL ret rm) (hd : decode cc pc = .ok (.putfield 282, 3)) (hn : pc + 3 = pc') (hf : put σ 22 x X = some res) (k : ∀ σ' : xS, X σ' = some res → xw C (GM E) nL Q σ' pc' lv st) : xw C (GM E) nL Q σ pc lv (.int x :: .ref (E.2.2.1 0) :: st) := xr_put (T := TX10) (N := 53) (Cn := RX10) (ty := .int) 0 45 22 hC hd hn rfl rfl inX10 tyX10 tyX10_ok nmX10 (by decide) (TB_of (i := 964) (by decide +kernel) rfl) rfl (by decide +kernel) rfl rfl (Nat.le_of_ble_eq_true rfl) (wM_i22 E.2.2.1 E.2.2.2.1 E.2.2.2.2.1 E.2.2.2.2.2 σ x) hf k
theorem lM_0 {i : Int32} {X : Int32 → Option α} (hC : xc C (GM E) own cc nL ret rm) (hd : decode cc pc = .ok (.iaload, 1)) (hn : pc + 1 = pc') (hf : ald σ 0 400 i X = some res) (k : ∀ x : Int32, X x = some res → xw C (GM E) nL Q σ pc' lv (.int x :: st)) : xw C (GM E) nL Q σ pc lv (.int i :: .ref (E.2.2.1 1) :: st) := xr_iald 1 0 hC hd hn rfl rfl hf k
theorem nM_0 (hC : xc C (GM E) own cc nL ret rm) (hd : decode cc pc = .ok (.arraylength, 1)) (hn : pc + 1 = pc') (k : xw C (GM E) nL Q σ pc' lv (.int (Int32.ofNat 400) :: st)) : xw C (GM E) nL Q σ pc lv (.ref (E.2.2.1 1) :: st) := xr_alen (Int32.ofNat 400) 1 0 hC hd hn rfl rfl rfl k
theorem sM_0 {i x : Int32} {X : xS → Option α} (hC : xc C (GM E) own cc nL ret rm) (hd : decode cc pc = .ok (.iastore, 1)) (hn : pc + 1 = pc') (hf : ast σ 0 400 i x X = some res) (k : ∀ σ' : xS, X σ' = some res → xw C (GM E) nL Q σ' pc' lv st) : xw C (GM E) nL Q σ pc lv (.int x :: .int i :: .ref (E.2.2.1 1) :: st) := xr_iast 1 0 hC hd hn rfl rfl (wM_a0 E.2.2.1 E.2.2.2.1 E.2.2.2.2.1 E.2.2.2.2.2 σ) hf k
theorem lM_1 {i : Int32} {X : Int32 → Option α} (hC : xc C (GM E) own cc nL ret rm) (hd : decode cc pc = .ok (.caload, 1)) (hn : pc + 1 = pc') (hf : ald σ 1 3 i X = some res) (k : ∀ x : Int32, X x = some res → xw C (GM E) nL Q σ pc' lv (.int x :: st)) : xw C (GM E) nL Q σ pc lv (.int i :: .ref (E.2.2.1 2) :: st) := xr_cald 2 2 hC hd hn rfl rfl hf k
theorem nM_1 (hC : xc C (GM E) own cc nL ret rm) (hd : decode cc pc = .ok (.arraylength, 1)) (hn : pc + 1 = pc') (k : xw C (GM E) nL Q σ pc' lv (.int (Int32.ofNat 3) :: st)) : xw C (GM E) nL Q σ pc lv (.ref (E.2.2.1 2) :: st) := xr_alen (Int32.ofNat 3) 2 2 hC hd hn rfl rfl rfl k
theorem lM_2 {i : Int32} {X : Int32 → Option α} (hC : xc C (GM E) own cc nL ret rm) (hd : decode cc pc = .ok (.caload, 1)) (hn : pc + 1 = pc') (hf : ald σ 2 4 i X = some res) (k : ∀ x : Int32, X x = some res → xw C (GM E) nL Q σ pc' lv (.int x :: st)) : xw C (GM E) nL Q σ pc lv (.int i :: .ref (E.2.2.1 3) :: st) := xr_cald 3 2 hC hd hn rfl rfl hf k
theorem nM_2 (hC : xc C (GM E) own cc nL ret rm) (hd : decode cc pc = .ok (.arraylength, 1)) (hn : pc + 1 = pc') (k : xw C (GM E) nL Q σ pc' lv (.int (Int32.ofNat 4) :: st)) : xw C (GM E) nL Q σ pc lv (.ref (E.2.2.1 3) :: st) := xr_alen (Int32.ofNat 4) 3 2 hC hd hn rfl rfl rfl k
theorem lM_3 {i : Int32} {X : Int32 → Option α} (hC : xc C (GM E) own cc nL ret rm) (hd : decode cc pc = .ok (.caload, 1)) (hn : pc + 1 = pc') (hf : ald σ 3 6 i X = some res) (k : ∀ x : Int32, X x = some res → xw C (GM E) nL Q σ pc' lv (.int x :: st)) : xw C (GM E) nL Q σ pc lv (.int i :: .ref (E.2.2.1 4) :: st) := xr_cald 4 2 hC hd hn rfl rfl hf k
theorem nM_3 (hC : xc C (GM E) own cc nL ret rm) (hd : decode cc pc = .ok (.arraylength, 1)) (hn : pc + 1 = pc') (k : xw C (GM E) nL Q σ pc' lv (.int (Int32.ofNat 6) :: st)) : xw C (GM E) nL Q σ pc lv (.ref (E.2.2.1 4) :: st) := xr_alen (Int32.ofNat 6) 4 2 hC hd hn rfl rfl rfl k
theorem lM_4 {i : Int32} {X : Int32 → Option α} (hC : xc C (GM E) own cc nL ret rm) (hd : decode cc pc = .ok (.caload, 1)) (hn : pc + 1 = pc') (hf : ald σ 4 4 i X = some res) (k : ∀ x : Int32, X x = some res → xw C (GM E) nL Q σ pc' lv (.int x :: st)) : xw C (GM E) nL Q σ pc lv (.int i :: .ref (E.2.2.1 5) :: st) := xr_cald 5 2 hC hd hn rfl rfl hf k
theorem nM_4 (hC : xc C (GM E) own cc nL ret rm) (hd : decode cc pc = .ok (.arraylength, 1)) (hn : pc + 1 = pc') (k : xw C (GM E) nL Q σ pc' lv (.int (Int32.ofNat 4) :: st)) : xw C (GM E) nL Q σ pc lv (.ref (E.2.2.1 5) :: st) := xr_alen (Int32.ofNat 4) 5 2 hC hd hn rfl rfl rfl k
theorem lM_5 {i : Int32} {X : Int32 → Option α} (hC : xc C (GM E) own cc nL ret rm) (hd : decode cc pc = .ok (.baload, 1)) (hn : pc + 1 = pc') (hf : ald σ 5 512 i X = some res) (k : ∀ x : Int32, X x = some res → xw C (GM E) nL Q σ pc' lv (.int x :: st)) : xw C (GM E) nL Q σ pc lv (.int i :: .ref (E.2.2.1 6) :: st) := xr_zald 6 1 hC hd hn rfl rfl hf k
theorem nM_5 (hC : xc C (GM E) own cc nL ret rm) (hd : decode cc pc = .ok (.arraylength, 1)) (hn : pc + 1 = pc') (k : xw C (GM E) nL Q σ pc' lv (.int (Int32.ofNat 512) :: st)) : xw C (GM E) nL Q σ pc lv (.ref (E.2.2.1 6) :: st) := xr_alen (Int32.ofNat 512) 6 1 hC hd hn rfl rfl rfl k
theorem sM_5 {i x : Int32} {X : xS → Option α} (hC : xc C (GM E) own cc nL ret rm) (hd : decode cc pc = .ok (.bastore, 1)) (hn : pc + 1 = pc') (hf : ast σ 5 512 i (vp_nar .boolean x) X = some res) (k : ∀ σ' : xS, X σ' = some res → xw C (GM E) nL Q σ' pc' lv st) : xw C (GM E) nL Q σ pc lv (.int x :: .int i :: .ref (E.2.2.1 6) :: st) := xr_zast 6 1 hC hd hn rfl rfl (wM_a5 E.2.2.1 E.2.2.2.1 E.2.2.2.2.1 E.2.2.2.2.2 σ) hf k
theorem lM_6 {i : Int32} {X : Int32 → Option α} (hC : xc C (GM E) own cc nL ret rm) (hd : decode cc pc = .ok (.baload, 1)) (hn : pc + 1 = pc') (hf : ald σ 6 512 i X = some res) (k : ∀ x : Int32, X x = some res → xw C (GM E) nL Q σ pc' lv (.int x :: st)) : xw C (GM E) nL Q σ pc lv (.int i :: .ref (E.2.2.1 7) :: st) := xr_zald 7 1 hC hd hn rfl rfl hf k
theorem nM_6 (hC : xc C (GM E) own cc nL ret rm) (hd : decode cc pc = .ok (.arraylength, 1)) (hn : pc + 1 = pc') (k : xw C (GM E) nL Q σ pc' lv (.int (Int32.ofNat 512) :: st)) : xw C (GM E) nL Q σ pc lv (.ref (E.2.2.1 7) :: st) := xr_alen (Int32.ofNat 512) 7 1 hC hd hn rfl rfl rfl k
theorem sM_6 {i x : Int32} {X : xS → Option α} (hC : xc C (GM E) own cc nL ret rm) (hd : decode cc pc = .ok (.bastore, 1)) (hn : pc + 1 = pc') (hf : ast σ 6 512 i (vp_nar .boolean x) X = some res) (k : ∀ σ' : xS, X σ' = some res → xw C (GM E) nL Q σ' pc' lv st) : xw C (GM E) nL Q σ pc lv (.int x :: .int i :: .ref (E.2.2.1 7) :: st) := xr_zast 7 1 hC hd hn rfl rfl (wM_a6 E.2.2.1 E.2.2.2.1 E.2.2.2.2.1 E.2.2.2.2.2 σ) hf k
theorem lM_7 {i : Int32} {X : Int32 → Option α} (hC : xc C (GM E) own cc nL ret rm) (hd : decode cc pc = .ok (.iaload, 1)) (hn : pc + 1 = pc') (hf : ald σ 7 6 i X = some res) (k : ∀ x : Int32, X x = some res → xw C (GM E) nL Q σ pc' lv (.int x :: st)) : xw C (GM E) nL Q σ pc lv (.int i :: .ref (E.2.2.1 8) :: st) := xr_iald 8 0 hC hd hn rfl rfl hf k
theorem nM_7 (hC : xc C (GM E) own cc nL ret rm) (hd : decode cc pc = .ok (.arraylength, 1)) (hn : pc + 1 = pc') (k : xw C (GM E) nL Q σ pc' lv (.int (Int32.ofNat 6) :: st)) : xw C (GM E) nL Q σ pc lv (.ref (E.2.2.1 8) :: st) := xr_alen (Int32.ofNat 6) 8 0 hC hd hn rfl rfl rfl k
theorem sM_7 {i x : Int32} {X : xS → Option α} (hC : xc C (GM E) own cc nL ret rm) (hd : decode cc pc = .ok (.iastore, 1)) (hn : pc + 1 = pc') (hf : ast σ 7 6 i x X = some res) (k : ∀ σ' : xS, X σ' = some res → xw C (GM E) nL Q σ' pc' lv st) : xw C (GM E) nL Q σ pc lv (.int x :: .int i :: .ref (E.2.2.1 8) :: st) := xr_iast 8 0 hC hd hn rfl rfl (wM_a7 E.2.2.1 E.2.2.2.1 E.2.2.2.2.1 E.2.2.2.2.2 σ) hf k
theorem lM_8 {i : Int32} {X : Int32 → Option α} (hC : xc C (GM E) own cc nL ret rm) (hd : decode cc pc = .ok (.baload, 1)) (hn : pc + 1 = pc') (hf : ald σ 8 1000 i X = some res) (k : ∀ x : Int32, X x = some res → xw C (GM E) nL Q σ pc' lv (.int x :: st)) : xw C (GM E) nL Q σ pc lv (.int i :: .ref (E.2.2.1 9) :: st) := xr_zald 9 1 hC hd hn rfl rfl hf k
theorem nM_8 (hC : xc C (GM E) own cc nL ret rm) (hd : decode cc pc = .ok (.arraylength, 1)) (hn : pc + 1 = pc') (k : xw C (GM E) nL Q σ pc' lv (.int (Int32.ofNat 1000) :: st)) : xw C (GM E) nL Q σ pc lv (.ref (E.2.2.1 9) :: st) := xr_alen (Int32.ofNat 1000) 9 1 hC hd hn rfl rfl rfl k
theorem sM_8 {i x : Int32} {X : xS → Option α} (hC : xc C (GM E) own cc nL ret rm) (hd : decode cc pc = .ok (.bastore, 1)) (hn : pc + 1 = pc') (hf : ast σ 8 1000 i (vp_nar .boolean x) X = some res) (k : ∀ σ' : xS, X σ' = some res → xw C (GM E) nL Q σ' pc' lv st) : xw C (GM E) nL Q σ pc lv (.int x :: .int i :: .ref (E.2.2.1 9) :: st) := xr_zast 9 1 hC hd hn rfl rfl (wM_a8 E.2.2.1 E.2.2.2.1 E.2.2.2.2.1 E.2.2.2.2.2 σ) hf k
theorem lM_9 {i : Int32} {X : Int32 → Option α} (hC : xc C (GM E) own cc nL ret rm) (hd : decode cc pc = .ok (.iaload, 1)) (hn : pc + 1 = pc') (hf : ald σ 9 1000 i X = some res) (k : ∀ x : Int32, X x = some res → xw C (GM E) nL Q σ pc' lv (.int x :: st)) : xw C (GM E) nL Q σ pc lv (.int i :: .ref (E.2.2.1 10) :: st) := xr_iald 10 0 hC hd hn rfl rfl hf k
theorem nM_9 (hC : xc C (GM E) own cc nL ret rm) (hd : decode cc pc = .ok (.arraylength, 1)) (hn : pc + 1 = pc') (k : xw C (GM E) nL Q σ pc' lv (.int (Int32.ofNat 1000) :: st)) : xw C (GM E) nL Q σ pc lv (.ref (E.2.2.1 10) :: st) := xr_alen (Int32.ofNat 1000) 10 0 hC hd hn rfl rfl rfl k
theorem sM_9 {i x : Int32} {X : xS → Option α} (hC : xc C (GM E) own cc nL ret rm) (hd : decode cc pc = .ok (.iastore, 1)) (hn : pc + 1 = pc') (hf : ast σ 9 1000 i x X = some res) (k : ∀ σ' : xS, X σ' = some res → xw C (GM E) nL Q σ' pc' lv st) : xw C (GM E) nL Q σ pc lv (.int x :: .int i :: .ref (E.2.2.1 10) :: st) := xr_iast 10 0 hC hd hn rfl rfl (wM_a9 E.2.2.1 E.2.2.2.1 E.2.2.2.2.1 E.2.2.2.2.2 σ) hf k
theorem lM_10 {i : Int32} {X : Int32 → Option α} (hC : xc C (GM E) own cc nL ret rm) (hd : decode cc pc = .ok (.iaload, 1)) (hn : pc + 1 = pc') (hf : ald σ 10 6 i X = some res) (k : ∀ x : Int32, X x = some res → xw C (GM E) nL Q σ pc' lv (.int x :: st)) : xw C (GM E) nL Q σ pc lv (.int i :: .ref (E.2.2.1 11) :: st) := xr_iald 11 0 hC hd hn rfl rfl hf k
theorem nM_10 (hC : xc C (GM E) own cc nL ret rm) (hd : decode cc pc = .ok (.arraylength, 1)) (hn : pc + 1 = pc') (k : xw C (GM E) nL Q σ pc' lv (.int (Int32.ofNat 6) :: st)) : xw C (GM E) nL Q σ pc lv (.ref (E.2.2.1 11) :: st) := xr_alen (Int32.ofNat 6) 11 0 hC hd hn rfl rfl rfl k
theorem sM_10 {i x : Int32} {X : xS → Option α} (hC : xc C (GM E) own cc nL ret rm) (hd : decode cc pc = .ok (.iastore, 1)) (hn : pc + 1 = pc') (hf : ast σ 10 6 i x X = some res) (k : ∀ σ' : xS, X σ' = some res → xw C (GM E) nL Q σ' pc' lv st) : xw C (GM E) nL Q σ pc lv (.int x :: .int i :: .ref (E.2.2.1 11) :: st) := xr_iast 11 0 hC hd hn rfl rfl (wM_a10 E.2.2.1 E.2.2.2.1 E.2.2.2.2.1 E.2.2.2.2.2 σ) hf k
theorem lM_11 {i : Int32} {X : Int32 → Option α} (hC : xc C (GM E) own cc nL ret rm) (hd : decode cc pc = .ok (.iaload, 1)) (hn : pc + 1 = pc') (hf : ald σ 11 6 i X = some res) (k : ∀ x : Int32, X x = some res → xw C (GM E) nL Q σ pc' lv (.int x :: st)) : xw C (GM E) nL Q σ pc lv (.int i :: .ref (E.2.2.1 12) :: st) := xr_iald 12 0 hC hd hn rfl rfl hf k
theorem nM_11 (hC : xc C (GM E) own cc nL ret rm) (hd : decode cc pc = .ok (.arraylength, 1)) (hn : pc + 1 = pc') (k : xw C (GM E) nL Q σ pc' lv (.int (Int32.ofNat 6) :: st)) : xw C (GM E) nL Q σ pc lv (.ref (E.2.2.1 12) :: st) := xr_alen (Int32.ofNat 6) 12 0 hC hd hn rfl rfl rfl k
theorem sM_11 {i x : Int32} {X : xS → Option α} (hC : xc C (GM E) own cc nL ret rm) (hd : decode cc pc = .ok (.iastore, 1)) (hn : pc + 1 = pc') (hf : ast σ 11 6 i x X = some res) (k : ∀ σ' : xS, X σ' = some res → xw C (GM E) nL Q σ' pc' lv st) : xw C (GM E) nL Q σ pc lv (.int x :: .int i :: .ref (E.2.2.1 12) :: st) := xr_iast 12 0 hC hd hn rfl rfl (wM_a11 E.2.2.1 E.2.2.2.1 E.2.2.2.2.1 E.2.2.2.2.2 σ) hf k
theorem lM_12 {i : Int32} {X : Int32 → Option α} (hC : xc C (GM E) own cc nL ret rm) (hd : decode cc pc = .ok (.iaload, 1)) (hn : pc + 1 = pc') (hf : ald σ 12 1000 i X = some res) (k : ∀ x : Int32, X x = some res → xw C (GM E) nL Q σ pc' lv (.int x :: st)) : xw C (GM E) nL Q σ pc lv (.int i :: .ref (E.2.2.1 13) :: st) := xr_iald 13 0 hC hd hn rfl rfl hf k
theorem nM_12 (hC : xc C (GM E) own cc nL ret rm) (hd : decode cc pc = .ok (.arraylength, 1)) (hn : pc + 1 = pc') (k : xw C (GM E) nL Q σ pc' lv (.int (Int32.ofNat 1000) :: st)) : xw C (GM E) nL Q σ pc lv (.ref (E.2.2.1 13) :: st) := xr_alen (Int32.ofNat 1000) 13 0 hC hd hn rfl rfl rfl k
theorem sM_12 {i x : Int32} {X : xS → Option α} (hC : xc C (GM E) own cc nL ret rm) (hd : decode cc pc = .ok (.iastore, 1)) (hn : pc + 1 = pc') (hf : ast σ 12 1000 i x X = some res) (k : ∀ σ' : xS, X σ' = some res → xw C (GM E) nL Q σ' pc' lv st) : xw C (GM E) nL Q σ pc lv (.int x :: .int i :: .ref (E.2.2.1 13) :: st) := xr_iast 13 0 hC hd hn rfl rfl (wM_a12 E.2.2.1 E.2.2.2.1 E.2.2.2.2.1 E.2.2.2.2.2 σ) hf k
theorem lM_13 {i : Int32} {X : Int32 → Option α} (hC : xc C (GM E) own cc nL ret rm) (hd : decode cc pc = .ok (.iaload, 1)) (hn : pc + 1 = pc') (hf : ald σ 13 1000 i X = some res) (k : ∀ x : Int32, X x = some res → xw C (GM E) nL Q σ pc' lv (.int x :: st)) : xw C (GM E) nL Q σ pc lv (.int i :: .ref (E.2.2.1 14) :: st) := xr_iald 14 0 hC hd hn rfl rfl hf k
theorem nM_13 (hC : xc C (GM E) own cc nL ret rm) (hd : decode cc pc = .ok (.arraylength, 1)) (hn : pc + 1 = pc') (k : xw C (GM E) nL Q σ pc' lv (.int (Int32.ofNat 1000) :: st)) : xw C (GM E) nL Q σ pc lv (.ref (E.2.2.1 14) :: st) := xr_alen (Int32.ofNat 1000) 14 0 hC hd hn rfl rfl rfl k
theorem sM_13 {i x : Int32} {X : xS → Option α} (hC : xc C (GM E) own cc nL ret rm) (hd : decode cc pc = .ok (.iastore, 1)) (hn : pc + 1 = pc') (hf : ast σ 13 1000 i x X = some res) (k : ∀ σ' : xS, X σ' = some res → xw C (GM E) nL Q σ' pc' lv st) : xw C (GM E) nL Q σ pc lv (.int x :: .int i :: .ref (E.2.2.1 14) :: st) := xr_iast 14 0 hC hd hn rfl rfl (wM_a13 E.2.2.1 E.2.2.2.1 E.2.2.2.2.1 E.2.2.2.2.2 σ) hf k
theorem lM_14 {i : Int32} {X : Int32 → Option α} (hC : xc C (GM E) own cc nL ret rm) (hd : decode cc pc = .ok (.iaload, 1)) (hn : pc + 1 = pc') (hf : ald σ 14 1000 i X = some res) (k : ∀ x : Int32, X x = some res → xw C (GM E) nL Q σ pc' lv (.int x :: st)) : xw C (GM E) nL Q σ pc lv (.int i :: .ref (E.2.2.1 15) :: st) := xr_iald 15 0 hC hd hn rfl rfl hf k
theorem nM_14 (hC : xc C (GM E) own cc nL ret rm) (hd : decode cc pc = .ok (.arraylength, 1)) (hn : pc + 1 = pc') (k : xw C (GM E) nL Q σ pc' lv (.int (Int32.ofNat 1000) :: st)) : xw C (GM E) nL Q σ pc lv (.ref (E.2.2.1 15) :: st) := xr_alen (Int32.ofNat 1000) 15 0 hC hd hn rfl rfl rfl k
theorem sM_14 {i x : Int32} {X : xS → Option α} (hC : xc C (GM E) own cc nL ret rm) (hd : decode cc pc = .ok (.iastore, 1)) (hn : pc + 1 = pc') (hf : ast σ 14 1000 i x X = some res) (k : ∀ σ' : xS, X σ' = some res → xw C (GM E) nL Q σ' pc' lv st) : xw C (GM E) nL Q σ pc lv (.int x :: .int i :: .ref (E.2.2.1 15) :: st) := xr_iast 15 0 hC hd hn rfl rfl (wM_a14 E.2.2.1 E.2.2.2.1 E.2.2.2.2.1 E.2.2.2.2.2 σ) hf k
theorem lM_15 {i : Int32} {X : Int32 → Option α} (hC : xc C (GM E) own cc nL ret rm) (hd : decode cc pc = .ok (.iaload, 1)) (hn : pc + 1 = pc') (hf : ald σ 15 1000 i X = some res) (k : ∀ x : Int32, X x = some res → xw C (GM E) nL Q σ pc' lv (.int x :: st)) : xw C (GM E) nL Q σ pc lv (.int i :: .ref (E.2.2.1 16) :: st) := xr_iald 16 0 hC hd hn rfl rfl hf k
theorem nM_15 (hC : xc C (GM E) own cc nL ret rm) (hd : decode cc pc = .ok (.arraylength, 1)) (hn : pc + 1 = pc') (k : xw C (GM E) nL Q σ pc' lv (.int (Int32.ofNat 1000) :: st)) : xw C (GM E) nL Q σ pc lv (.ref (E.2.2.1 16) :: st) := xr_alen (Int32.ofNat 1000) 16 0 hC hd hn rfl rfl rfl k
theorem sM_15 {i x : Int32} {X : xS → Option α} (hC : xc C (GM E) own cc nL ret rm) (hd : decode cc pc = .ok (.iastore, 1)) (hn : pc + 1 = pc') (hf : ast σ 15 1000 i x X = some res) (k : ∀ σ' : xS, X σ' = some res → xw C (GM E) nL Q σ' pc' lv st) : xw C (GM E) nL Q σ pc lv (.int x :: .int i :: .ref (E.2.2.1 16) :: st) := xr_iast 16 0 hC hd hn rfl rfl (wM_a15 E.2.2.1 E.2.2.2.1 E.2.2.2.2.1 E.2.2.2.2.2 σ) hf k
theorem lM_16 {i : Int32} {X : Int32 → Option α} (hC : xc C (GM E) own cc nL ret rm) (hd : decode cc pc = .ok (.iaload, 1)) (hn : pc + 1 = pc') (hf : ald σ 16 1000 i X = some res) (k : ∀ x : Int32, X x = some res → xw C (GM E) nL Q σ pc' lv (.int x :: st)) : xw C (GM E) nL Q σ pc lv (.int i :: .ref (E.2.2.1 17) :: st) := xr_iald 17 0 hC hd hn rfl rfl hf k
theorem nM_16 (hC : xc C (GM E) own cc nL ret rm) (hd : decode cc pc = .ok (.arraylength, 1)) (hn : pc + 1 = pc') (k : xw C (GM E) nL Q σ pc' lv (.int (Int32.ofNat 1000) :: st)) : xw C (GM E) nL Q σ pc lv (.ref (E.2.2.1 17) :: st) := xr_alen (Int32.ofNat 1000) 17 0 hC hd hn rfl rfl rfl k
theorem sM_16 {i x : Int32} {X : xS → Option α} (hC : xc C (GM E) own cc nL ret rm) (hd : decode cc pc = .ok (.iastore, 1)) (hn : pc + 1 = pc') (hf : ast σ 16 1000 i x X = some res) (k : ∀ σ' : xS, X σ' = some res → xw C (GM E) nL Q σ' pc' lv st) : xw C (GM E) nL Q σ pc lv (.int x :: .int i :: .ref (E.2.2.1 17) :: st) := xr_iast 17 0 hC hd hn rfl rfl (wM_a16 E.2.2.1 E.2.2.2.1 E.2.2.2.2.1 E.2.2.2.2.2 σ) hf k
theorem lM_17 {i : Int32} {X : Int32 → Option α} (hC : xc C (GM E) own cc nL ret rm) (hd : decode cc pc = .ok (.iaload, 1)) (hn : pc + 1 = pc') (hf : ald σ 17 1000 i X = some res) (k : ∀ x : Int32, X x = some res → xw C (GM E) nL Q σ pc' lv (.int x :: st)) : xw C (GM E) nL Q σ pc lv (.int i :: .ref (E.2.2.1 18) :: st) := xr_iald 18 0 hC hd hn rfl rfl hf k
theorem nM_17 (hC : xc C (GM E) own cc nL ret rm) (hd : decode cc pc = .ok (.arraylength, 1)) (hn : pc + 1 = pc') (k : xw C (GM E) nL Q σ pc' lv (.int (Int32.ofNat 1000) :: st)) : xw C (GM E) nL Q σ pc lv (.ref (E.2.2.1 18) :: st) := xr_alen (Int32.ofNat 1000) 18 0 hC hd hn rfl rfl rfl k
theorem sM_17 {i x : Int32} {X : xS → Option α} (hC : xc C (GM E) own cc nL ret rm) (hd : decode cc pc = .ok (.iastore, 1)) (hn : pc + 1 = pc') (hf : ast σ 17 1000 i x X = some res) (k : ∀ σ' : xS, X σ' = some res → xw C (GM E) nL Q σ' pc' lv st) : xw C (GM E) nL Q σ pc lv (.int x :: .int i :: .ref (E.2.2.1 18) :: st) := xr_iast 18 0 hC hd hn rfl rfl (wM_a17 E.2.2.1 E.2.2.2.1 E.2.2.2.2.1 E.2.2.2.2.2 σ) hf k
theorem lM_18 {i : Int32} {X : Int32 → Option α} (hC : xc C (GM E) own cc nL ret rm) (hd : decode cc pc = .ok (.baload, 1)) (hn : pc + 1 = pc') (hf : ald σ 18 10 i X = some res) (k : ∀ x : Int32, X x = some res → xw C (GM E) nL Q σ pc' lv (.int x :: st)) : xw C (GM E) nL Q σ pc lv (.int i :: .ref (E.2.2.1 19) :: st) := xr_zald 19 1 hC hd hn rfl rfl hf k
theorem nM_18 (hC : xc C (GM E) own cc nL ret rm) (hd : decode cc pc = .ok (.arraylength, 1)) (hn : pc + 1 = pc') (k : xw C (GM E) nL Q σ pc' lv (.int (Int32.ofNat 10) :: st)) : xw C (GM E) nL Q σ pc lv (.ref (E.2.2.1 19) :: st) := xr_alen (Int32.ofNat 10) 19 1 hC hd hn rfl rfl rfl k
theorem sM_18 {i x : Int32} {X : xS → Option α} (hC : xc C (GM E) own cc nL ret rm) (hd : decode cc pc = .ok (.bastore, 1)) (hn : pc + 1 = pc') (hf : ast σ 18 10 i (vp_nar .boolean x) X = some res) (k : ∀ σ' : xS, X σ' = some res → xw C (GM E) nL Q σ' pc' lv st) : xw C (GM E) nL Q σ pc lv (.int x :: .int i :: .ref (E.2.2.1 19) :: st) := xr_zast 19 1 hC hd hn rfl rfl (wM_a18 E.2.2.1 E.2.2.2.1 E.2.2.2.2.1 E.2.2.2.2.2 σ) hf k
theorem lM_19 {i : Int32} {X : Int32 → Option α} (hC : xc C (GM E) own cc nL ret rm) (hd : decode cc pc = .ok (.iaload, 1)) (hn : pc + 1 = pc') (hf : ald σ 19 10 i X = some res) (k : ∀ x : Int32, X x = some res → xw C (GM E) nL Q σ pc' lv (.int x :: st)) : xw C (GM E) nL Q σ pc lv (.int i :: .ref (E.2.2.1 20) :: st) := xr_iald 20 0 hC hd hn rfl rfl hf k
theorem nM_19 (hC : xc C (GM E) own cc nL ret rm) (hd : decode cc pc = .ok (.arraylength, 1)) (hn : pc + 1 = pc') (k : xw C (GM E) nL Q σ pc' lv (.int (Int32.ofNat 10) :: st)) : xw C (GM E) nL Q σ pc lv (.ref (E.2.2.1 20) :: st) := xr_alen (Int32.ofNat 10) 20 0 hC hd hn rfl rfl rfl k
theorem sM_19 {i x : Int32} {X : xS → Option α} (hC : xc C (GM E) own cc nL ret rm) (hd : decode cc pc = .ok (.iastore, 1)) (hn : pc + 1 = pc') (hf : ast σ 19 10 i x X = some res) (k : ∀ σ' : xS, X σ' = some res → xw C (GM E) nL Q σ' pc' lv st) : xw C (GM E) nL Q σ pc lv (.int x :: .int i :: .ref (E.2.2.1 20) :: st) := xr_iast 20 0 hC hd hn rfl rfl (wM_a19 E.2.2.1 E.2.2.2.1 E.2.2.2.2.1 E.2.2.2.2.2 σ) hf k
theorem lM_20 {i : Int32} {X : Int32 → Option α} (hC : xc C (GM E) own cc nL ret rm) (hd : decode cc pc = .ok (.iaload, 1)) (hn : pc + 1 = pc') (hf : ald σ 20 10 i X = some res) (k : ∀ x : Int32, X x = some res → xw C (GM E) nL Q σ pc' lv (.int x :: st)) : xw C (GM E) nL Q σ pc lv (.int i :: .ref (E.2.2.1 21) :: st) := xr_iald 21 0 hC hd hn rfl rfl hf k
theorem nM_20 (hC : xc C (GM E) own cc nL ret rm) (hd : decode cc pc = .ok (.arraylength, 1)) (hn : pc + 1 = pc') (k : xw C (GM E) nL Q σ pc' lv (.int (Int32.ofNat 10) :: st)) : xw C (GM E) nL Q σ pc lv (.ref (E.2.2.1 21) :: st) := xr_alen (Int32.ofNat 10) 21 0 hC hd hn rfl rfl rfl k
theorem sM_20 {i x : Int32} {X : xS → Option α} (hC : xc C (GM E) own cc nL ret rm) (hd : decode cc pc = .ok (.iastore, 1)) (hn : pc + 1 = pc') (hf : ast σ 20 10 i x X = some res) (k : ∀ σ' : xS, X σ' = some res → xw C (GM E) nL Q σ' pc' lv st) : xw C (GM E) nL Q σ pc lv (.int x :: .int i :: .ref (E.2.2.1 21) :: st) := xr_iast 21 0 hC hd hn rfl rfl (wM_a20 E.2.2.1 E.2.2.2.1 E.2.2.2.2.1 E.2.2.2.2.2 σ) hf k
theorem lM_21 {i : Int32} {X : Int32 → Option α} (hC : xc C (GM E) own cc nL ret rm) (hd : decode cc pc = .ok (.iaload, 1)) (hn : pc + 1 = pc') (hf : ald σ 21 10 i X = some res) (k : ∀ x : Int32, X x = some res → xw C (GM E) nL Q σ pc' lv (.int x :: st)) : xw C (GM E) nL Q σ pc lv (.int i :: .ref (E.2.2.1 22) :: st) := xr_iald 22 0 hC hd hn rfl rfl hf k
theorem nM_21 (hC : xc C (GM E) own cc nL ret rm) (hd : decode cc pc = .ok (.arraylength, 1)) (hn : pc + 1 = pc') (k : xw C (GM E) nL Q σ pc' lv (.int (Int32.ofNat 10) :: st)) : xw C (GM E) nL Q σ pc lv (.ref (E.2.2.1 22) :: st) := xr_alen (Int32.ofNat 10) 22 0 hC hd hn rfl rfl rfl k
theorem sM_21 {i x : Int32} {X : xS → Option α} (hC : xc C (GM E) own cc nL ret rm) (hd : decode cc pc = .ok (.iastore, 1)) (hn : pc + 1 = pc') (hf : ast σ 21 10 i x X = some res) (k : ∀ σ' : xS, X σ' = some res → xw C (GM E) nL Q σ' pc' lv st) : xw C (GM E) nL Q σ pc lv (.int x :: .int i :: .ref (E.2.2.1 22) :: st) := xr_iast 22 0 hC hd hn rfl rfl (wM_a21 E.2.2.1 E.2.2.2.1 E.2.2.2.2.1 E.2.2.2.2.2 σ) hf k
theorem lM_22 {i : Int32} {X : Int32 → Option α} (hC : xc C (GM E) own cc nL ret rm) (hd : decode cc pc = .ok (.iaload, 1)) (hn : pc + 1 = pc') (hf : ald σ 22 1024 i X = some res) (k : ∀ x : Int32, X x = some res → xw C (GM E) nL Q σ pc' lv (.int x :: st)) : xw C (GM E) nL Q σ pc lv (.int i :: .ref (E.2.2.1 23) :: st) := xr_iald 23 0 hC hd hn rfl rfl hf k
theorem nM_22 (hC : xc C (GM E) own cc nL ret rm) (hd : decode cc pc = .ok (.arraylength, 1)) (hn : pc + 1 = pc') (k : xw C (GM E) nL Q σ pc' lv (.int (Int32.ofNat 1024) :: st)) : xw C (GM E) nL Q σ pc lv (.ref (E.2.2.1 23) :: st) := xr_alen (Int32.ofNat 1024) 23 0 hC hd hn rfl rfl rfl k
theorem sM_22 {i x : Int32} {X : xS → Option α} (hC : xc C (GM E) own cc nL ret rm) (hd : decode cc pc = .ok (.iastore, 1)) (hn : pc + 1 = pc') (hf : ast σ 22 1024 i x X = some res) (k : ∀ σ' : xS, X σ' = some res → xw C (GM E) nL Q σ' pc' lv st) : xw C (GM E) nL Q σ pc lv (.int x :: .int i :: .ref (E.2.2.1 23) :: st) := xr_iast 23 0 hC hd hn rfl rfl (wM_a22 E.2.2.1 E.2.2.2.1 E.2.2.2.2.1 E.2.2.2.2.2 σ) hf k
theorem lM_23 {i : Int32} {X : Int32 → Option α} (hC : xc C (GM E) own cc nL ret rm) (hd : decode cc pc = .ok (.iaload, 1)) (hn : pc + 1 = pc') (hf : ald σ 23 10 i X = some res) (k : ∀ x : Int32, X x = some res → xw C (GM E) nL Q σ pc' lv (.int x :: st)) : xw C (GM E) nL Q σ pc lv (.int i :: .ref (E.2.2.1 24) :: st) := xr_iald 24 0 hC hd hn rfl rfl hf k
theorem nM_23 (hC : xc C (GM E) own cc nL ret rm) (hd : decode cc pc = .ok (.arraylength, 1)) (hn : pc + 1 = pc') (k : xw C (GM E) nL Q σ pc' lv (.int (Int32.ofNat 10) :: st)) : xw C (GM E) nL Q σ pc lv (.ref (E.2.2.1 24) :: st) := xr_alen (Int32.ofNat 10) 24 0 hC hd hn rfl rfl rfl k
theorem sM_23 {i x : Int32} {X : xS → Option α} (hC : xc C (GM E) own cc nL ret rm) (hd : decode cc pc = .ok (.iastore, 1)) (hn : pc + 1 = pc') (hf : ast σ 23 10 i x X = some res) (k : ∀ σ' : xS, X σ' = some res → xw C (GM E) nL Q σ' pc' lv st) : xw C (GM E) nL Q σ pc lv (.int x :: .int i :: .ref (E.2.2.1 24) :: st) := xr_iast 24 0 hC hd hn rfl rfl (wM_a23 E.2.2.1 E.2.2.2.1 E.2.2.2.2.1 E.2.2.2.2.2 σ) hf k
theorem lM_24 {i : Int32} {X : Int32 → Option α} (hC : xc C (GM E) own cc nL ret rm) (hd : decode cc pc = .ok (.iaload, 1)) (hn : pc + 1 = pc') (hf : ald σ 24 10 i X = some res) (k : ∀ x : Int32, X x = some res → xw C (GM E) nL Q σ pc' lv (.int x :: st)) : xw C (GM E) nL Q σ pc lv (.int i :: .ref (E.2.2.1 25) :: st) := xr_iald 25 0 hC hd hn rfl rfl hf k
theorem nM_24 (hC : xc C (GM E) own cc nL ret rm) (hd : decode cc pc = .ok (.arraylength, 1)) (hn : pc + 1 = pc') (k : xw C (GM E) nL Q σ pc' lv (.int (Int32.ofNat 10) :: st)) : xw C (GM E) nL Q σ pc lv (.ref (E.2.2.1 25) :: st) := xr_alen (Int32.ofNat 10) 25 0 hC hd hn rfl rfl rfl k
theorem sM_24 {i x : Int32} {X : xS → Option α} (hC : xc C (GM E) own cc nL ret rm) (hd : decode cc pc = .ok (.iastore, 1)) (hn : pc + 1 = pc') (hf : ast σ 24 10 i x X = some res) (k : ∀ σ' : xS, X σ' = some res → xw C (GM E) nL Q σ' pc' lv st) : xw C (GM E) nL Q σ pc lv (.int x :: .int i :: .ref (E.2.2.1 25) :: st) := xr_iast 25 0 hC hd hn rfl rfl (wM_a24 E.2.2.1 E.2.2.2.1 E.2.2.2.2.1 E.2.2.2.2.2 σ) hf k
theorem lM_25 {i : Int32} {X : Int32 → Option α} (hC : xc C (GM E) own cc nL ret rm) (hd : decode cc pc = .ok (.iaload, 1)) (hn : pc + 1 = pc') (hf : ald σ 25 12 i X = some res) (k : ∀ x : Int32, X x = some res → xw C (GM E) nL Q σ pc' lv (.int x :: st)) : xw C (GM E) nL Q σ pc lv (.int i :: .ref (E.2.2.1 26) :: st) := xr_iald 26 0 hC hd hn rfl rfl hf k
theorem nM_25 (hC : xc C (GM E) own cc nL ret rm) (hd : decode cc pc = .ok (.arraylength, 1)) (hn : pc + 1 = pc') (k : xw C (GM E) nL Q σ pc' lv (.int (Int32.ofNat 12) :: st)) : xw C (GM E) nL Q σ pc lv (.ref (E.2.2.1 26) :: st) := xr_alen (Int32.ofNat 12) 26 0 hC hd hn rfl rfl rfl k
theorem sM_25 {i x : Int32} {X : xS → Option α} (hC : xc C (GM E) own cc nL ret rm) (hd : decode cc pc = .ok (.iastore, 1)) (hn : pc + 1 = pc') (hf : ast σ 25 12 i x X = some res) (k : ∀ σ' : xS, X σ' = some res → xw C (GM E) nL Q σ' pc' lv st) : xw C (GM E) nL Q σ pc lv (.int x :: .int i :: .ref (E.2.2.1 26) :: st) := xr_iast 26 0 hC hd hn rfl rfl (wM_a25 E.2.2.1 E.2.2.2.1 E.2.2.2.2.1 E.2.2.2.2.2 σ) hf k
theorem lM_26 {i : Int32} {X : Int32 → Option α} (hC : xc C (GM E) own cc nL ret rm) (hd : decode cc pc = .ok (.iaload, 1)) (hn : pc + 1 = pc') (hf : ald σ 26 12 i X = some res) (k : ∀ x : Int32, X x = some res → xw C (GM E) nL Q σ pc' lv (.int x :: st)) : xw C (GM E) nL Q σ pc lv (.int i :: .ref (E.2.2.1 27) :: st) := xr_iald 27 0 hC hd hn rfl rfl hf k
theorem nM_26 (hC : xc C (GM E) own cc nL ret rm) (hd : decode cc pc = .ok (.arraylength, 1)) (hn : pc + 1 = pc') (k : xw C (GM E) nL Q σ pc' lv (.int (Int32.ofNat 12) :: st)) : xw C (GM E) nL Q σ pc lv (.ref (E.2.2.1 27) :: st) := xr_alen (Int32.ofNat 12) 27 0 hC hd hn rfl rfl rfl k
theorem sM_26 {i x : Int32} {X : xS → Option α} (hC : xc C (GM E) own cc nL ret rm) (hd : decode cc pc = .ok (.iastore, 1)) (hn : pc + 1 = pc') (hf : ast σ 26 12 i x X = some res) (k : ∀ σ' : xS, X σ' = some res → xw C (GM E) nL Q σ' pc' lv st) : xw C (GM E) nL Q σ pc lv (.int x :: .int i :: .ref (E.2.2.1 27) :: st) := xr_iast 27 0 hC hd hn rfl rfl (wM_a26 E.2.2.1 E.2.2.2.1 E.2.2.2.2.1 E.2.2.2.2.2 σ) hf k
end XWM
end
section
theorem xc_ok {C : xT} {G : xG} {own : String} {cc : ByteArray} {nL : Nat} {ret : Option FieldType} {rm : Room} (hC : xc C G own cc nL ret rm) : xOk G := hC.2.2.2.2.2.2.2.2.2.2
theorem i32_ne {v k : Int32} {z : Int} (h : ¬ v = k) (hk : k.toInt = z) : ¬ v.toInt = z := fun e => h (Int32.toInt_inj.mp (e.trans hk.symm))
def xmax (x y : Int32) : Int32 := if x < y then y else x
def xmin (x y : Int32) : Int32 := if y < x then y else x
def xabs (x : Int32) : Int32 := if 0 ≤ x then x else 0 - x
/-- n places of row a come over those of row b -/
def cpy {α : Type} (σ : xS) (a b n : Nat) (X : xS → Option α) : Option α := X (σ.1, va_up σ.2 b (va_cpy (σ.2 a) (σ.2 b) 0 0 n))
/-- the i-th sign of word w -/
def sch {α : Type} (w : Nat) (i : Int32) (X : Int32 → Option α) : Option α := if xin i (xtl.getD w 0) = true then X ((xtb.getD w []).getD i.toNatClampNeg 0) else none
section XSP
variable {C : xT} {E : xE} {own : String} {cc : ByteArray} {nL : Nat} {ret : Option FieldType} {rm : Room} {Q : State → Prop} {σ : xS} {pc pc' : Nat} {lv : List (Nat × Value)} {st : List Value} {α : Type} {res : α}
theorem xr_copy {X : xS → Option α} (hC : xc C (GX E) RX0 cc nL ret rm) (hd : decode cc pc = .ok (.invokestatic 32, 3)) (hn : pc + 3 = pc') (hroom : 1 ≤ rm.frames ∧ (st.map fun v => v.category).sum + (nativeFrameWords "java/lang/System" "arraycopy" 5 + 11) ≤ rm.locals) (hf : cpy σ 4 2 1000 X = some res) (k : ∀ σ' : xS, X σ' = some res → xw C (GX E) nL Q σ' pc' lv st) : xw C (GX E) nL Q σ pc lv (.int 1000 :: .int 0 :: .ref (E.2.2.1 13) :: .int 0 :: .ref (E.2.2.1 15) :: st) := by
  obtain ⟨p, l, e, R, s, m, args, below, meth, c⟩ := C
  obtain ⟨hx, hb, hml, hown, hts, hK, hZ, hlk, hr, hR, hG⟩ := hC
  dsimp only at hR
  subst hn; subst hR
  intro H locs ls h1 h2 h3
  refine va_copyi (q0 := 15) (q1 := 13) (t0 := 0) (t1 := 0) hx hb (hml.trans h3.1.symm) hown (hts _ (TB_of (i := 516) (by decide +kernel) rfl)) (hts _ (TB_of (i := 518) (by decide +kernel) rfl)) (hts _ (TB_of (i := 517) (by decide +kernel) rfl)) (hts _ (TB_of (i := 76) (by decide +kernel) rfl)) hK h1 (hG.1 σ) h2 rfl rfl rfl rfl rfl (by decide) (by decide) (by decide) (by decide) (by decide) (fun _ _ => rfl) hroom.1 hroom.2 hd (fun H1 locs1 g1 g2 g3 => ?_)
  have g1 : va_P (GX E).1 xCl ((GX E).2.2.1 (σ.1, va_up σ.2 2 (va_cpy (σ.2 4) (σ.2 2) 0 0 1000))) H1 := g1
  exact k _ hf H1 locs1 ls g1 g3 h3
theorem xr_ldcS (w : Nat) {idx : Nat} (hC : xc C (GX E) RX8 cc nL ret rm) (hd : decode cc pc = .ok (.ldc idx, 2)) (hn : pc + 2 = pc') (hw : w < 7) (hi : (xtx.getD w (0, "")).1 = idx) (k : xw C (GX E) nL Q σ pc' lv (.ref (E.2.2.2.2.1 w) :: st)) : xw C (GX E) nL Q σ pc lv st := by
  obtain ⟨p, l, e, R, s, m, args, below, meth, c⟩ := C
  obtain ⟨hx, hb, hml, hown, hts, hK, hZ, hlk, hr, hR, hG⟩ := hC
  subst hn; subst hi
  intro H locs ls h1 h2 h3
  exact va_ldcS hx hb hown (hZ.2.2.2.1 w hw) hd (k H locs ls h1 h2 h3)
end XSP
end
