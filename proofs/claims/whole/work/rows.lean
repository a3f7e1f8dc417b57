section
-- ===== PART A: goes FIRST, ahead of the names: the tables' words, and 'selects' of the private methods out of them =====
/-- a private method of a class that the tables say can be made, by its rows of tables_1 -/
def lw_okq (q : MethodName × Nat) : Prop := (q.1.cls ≠ "java/lang/invoke/MethodHandle" ∧ q.1.cls ≠ "java/lang/invoke/VarHandle") ∧ Cond.instantiable q.1.cls q.2 ∈ tables_1 ∧ Cond.privateMethod q.1 ∈ tables_1 ∧ Cond.instanceMethod q.1 ∈ tables_1
theorem lw_p0 : lw_okq (⟨"ColumnHouse", "refuse", "(I)I"⟩, 6) := ⟨⟨by decide +kernel, by decide +kernel⟩, List.mem_of_getElem? (i := 12) (by decide +kernel), List.mem_of_getElem? (i := 76) (by decide +kernel), List.mem_of_getElem? (i := 77) (by decide +kernel)⟩
theorem lw_p1 : lw_okq (⟨"ColumnHouse", "done", "(I)I"⟩, 6) := ⟨⟨by decide +kernel, by decide +kernel⟩, List.mem_of_getElem? (i := 12) (by decide +kernel), List.mem_of_getElem? (i := 108) (by decide +kernel), List.mem_of_getElem? (i := 109) (by decide +kernel)⟩
theorem lw_p2 : lw_okq (⟨"ColumnHouse", "rowIn", "(I)LColumnHouse$Row;"⟩, 6) := ⟨⟨by decide +kernel, by decide +kernel⟩, List.mem_of_getElem? (i := 12) (by decide +kernel), List.mem_of_getElem? (i := 165) (by decide +kernel), List.mem_of_getElem? (i := 166) (by decide +kernel)⟩
theorem lw_p3 : lw_okq (⟨"ColumnHouse", "rowAmiss", "(I)I"⟩, 6) := ⟨⟨by decide +kernel, by decide +kernel⟩, List.mem_of_getElem? (i := 12) (by decide +kernel), List.mem_of_getElem? (i := 170) (by decide +kernel), List.mem_of_getElem? (i := 171) (by decide +kernel)⟩
theorem lw_p4 : lw_okq (⟨"ColumnHouse", "cardIn", "(I)LColumnHouse$Card;"⟩, 6) := ⟨⟨by decide +kernel, by decide +kernel⟩, List.mem_of_getElem? (i := 12) (by decide +kernel), List.mem_of_getElem? (i := 197) (by decide +kernel), List.mem_of_getElem? (i := 198) (by decide +kernel)⟩
theorem lw_p5 : lw_okq (⟨"ColumnHouse", "cardAmiss", "(I)I"⟩, 6) := ⟨⟨by decide +kernel, by decide +kernel⟩, List.mem_of_getElem? (i := 12) (by decide +kernel), List.mem_of_getElem? (i := 201) (by decide +kernel), List.mem_of_getElem? (i := 202) (by decide +kernel)⟩
theorem lw_p6 : lw_okq (⟨"ColumnHouse", "putTold", "(IIIII)I"⟩, 6) := ⟨⟨by decide +kernel, by decide +kernel⟩, List.mem_of_getElem? (i := 12) (by decide +kernel), List.mem_of_getElem? (i := 213) (by decide +kernel), List.mem_of_getElem? (i := 214) (by decide +kernel)⟩
theorem lw_p7 : lw_okq (⟨"ColumnHouse", "placeOne", "(LColumnHouse$Row;II)I"⟩, 6) := ⟨⟨by decide +kernel, by decide +kernel⟩, List.mem_of_getElem? (i := 12) (by decide +kernel), List.mem_of_getElem? (i := 235) (by decide +kernel), List.mem_of_getElem? (i := 236) (by decide +kernel)⟩
theorem lw_p8 : lw_okq (⟨"ColumnHouse", "readOneAs", "(III)Z"⟩, 6) := ⟨⟨by decide +kernel, by decide +kernel⟩, List.mem_of_getElem? (i := 12) (by decide +kernel), List.mem_of_getElem? (i := 307) (by decide +kernel), List.mem_of_getElem? (i := 308) (by decide +kernel)⟩
theorem lw_p9 : lw_okq (⟨"ColumnHouse", "writeStage", "(LColumnHouse$Row;)I"⟩, 6) := ⟨⟨by decide +kernel, by decide +kernel⟩, List.mem_of_getElem? (i := 12) (by decide +kernel), List.mem_of_getElem? (i := 358) (by decide +kernel), List.mem_of_getElem? (i := 359) (by decide +kernel)⟩
theorem lw_p10 : lw_okq (⟨"ColumnHouse", "moveByIndex", "(IIIZ)I"⟩, 6) := ⟨⟨by decide +kernel, by decide +kernel⟩, List.mem_of_getElem? (i := 12) (by decide +kernel), List.mem_of_getElem? (i := 366) (by decide +kernel), List.mem_of_getElem? (i := 367) (by decide +kernel)⟩
theorem lw_p11 : lw_okq (⟨"ColumnHouse", "rowsAmiss", "(III)I"⟩, 6) := ⟨⟨by decide +kernel, by decide +kernel⟩, List.mem_of_getElem? (i := 12) (by decide +kernel), List.mem_of_getElem? (i := 370) (by decide +kernel), List.mem_of_getElem? (i := 371) (by decide +kernel)⟩
theorem lw_p12 : lw_okq (⟨"ColumnHouse", "indexAt", "(LColumnHouse$Row;I)I"⟩, 6) := ⟨⟨by decide +kernel, by decide +kernel⟩, List.mem_of_getElem? (i := 12) (by decide +kernel), List.mem_of_getElem? (i := 374) (by decide +kernel), List.mem_of_getElem? (i := 375) (by decide +kernel)⟩
theorem lw_p13 : lw_okq (⟨"ColumnHouse", "stageMove", "(LColumnHouse$Row;ILColumnHouse$Row;I)I"⟩, 6) := ⟨⟨by decide +kernel, by decide +kernel⟩, List.mem_of_getElem? (i := 12) (by decide +kernel), List.mem_of_getElem? (i := 378) (by decide +kernel), List.mem_of_getElem? (i := 379) (by decide +kernel)⟩
theorem lw_p14 : lw_okq (⟨"ColumnHouse", "comesFromRight", "(LColumnHouse$Row;ILColumnHouse$Row;I)Z"⟩, 6) := ⟨⟨by decide +kernel, by decide +kernel⟩, List.mem_of_getElem? (i := 12) (by decide +kernel), List.mem_of_getElem? (i := 390) (by decide +kernel), List.mem_of_getElem? (i := 391) (by decide +kernel)⟩
theorem lw_p15 : lw_okq (⟨"ColumnHouse", "sinkIntoOrder", "(I)V"⟩, 6) := ⟨⟨by decide +kernel, by decide +kernel⟩, List.mem_of_getElem? (i := 12) (by decide +kernel), List.mem_of_getElem? (i := 403) (by decide +kernel), List.mem_of_getElem? (i := 404) (by decide +kernel)⟩
def lw_privs_1 : List (MethodName × Nat) := [(⟨"ColumnHouse", "refuse", "(I)I"⟩, 6), (⟨"ColumnHouse", "done", "(I)I"⟩, 6), (⟨"ColumnHouse", "rowIn", "(I)LColumnHouse$Row;"⟩, 6), (⟨"ColumnHouse", "rowAmiss", "(I)I"⟩, 6), (⟨"ColumnHouse", "cardIn", "(I)LColumnHouse$Card;"⟩, 6), (⟨"ColumnHouse", "cardAmiss", "(I)I"⟩, 6), (⟨"ColumnHouse", "putTold", "(IIIII)I"⟩, 6), (⟨"ColumnHouse", "placeOne", "(LColumnHouse$Row;II)I"⟩, 6), (⟨"ColumnHouse", "readOneAs", "(III)Z"⟩, 6), (⟨"ColumnHouse", "writeStage", "(LColumnHouse$Row;)I"⟩, 6), (⟨"ColumnHouse", "moveByIndex", "(IIIZ)I"⟩, 6), (⟨"ColumnHouse", "rowsAmiss", "(III)I"⟩, 6), (⟨"ColumnHouse", "indexAt", "(LColumnHouse$Row;I)I"⟩, 6), (⟨"ColumnHouse", "stageMove", "(LColumnHouse$Row;ILColumnHouse$Row;I)I"⟩, 6), (⟨"ColumnHouse", "comesFromRight", "(LColumnHouse$Row;ILColumnHouse$Row;I)Z"⟩, 6), (⟨"ColumnHouse", "sinkIntoOrder", "(I)V"⟩, 6)]
theorem lw_r1 : ∀ q ∈ lw_privs_1, lw_okq q := List.forall_mem_cons.mpr ⟨lw_p0, List.forall_mem_cons.mpr ⟨lw_p1, List.forall_mem_cons.mpr ⟨lw_p2, List.forall_mem_cons.mpr ⟨lw_p3, List.forall_mem_cons.mpr ⟨lw_p4, List.forall_mem_cons.mpr ⟨lw_p5, List.forall_mem_cons.mpr ⟨lw_p6, List.forall_mem_cons.mpr ⟨lw_p7, List.forall_mem_cons.mpr ⟨lw_p8, List.forall_mem_cons.mpr ⟨lw_p9, List.forall_mem_cons.mpr ⟨lw_p10, List.forall_mem_cons.mpr ⟨lw_p11, List.forall_mem_cons.mpr ⟨lw_p12, List.forall_mem_cons.mpr ⟨lw_p13, List.forall_mem_cons.mpr ⟨lw_p14, List.forall_mem_cons.mpr ⟨lw_p15, fun _ h => absurd h List.not_mem_nil⟩⟩⟩⟩⟩⟩⟩⟩⟩⟩⟩⟩⟩⟩⟩⟩
theorem lw_p16 : lw_okq (⟨"ColumnHouse", "placesUnlikeStage", "(LColumnHouse$Row;)I"⟩, 6) := ⟨⟨by decide +kernel, by decide +kernel⟩, List.mem_of_getElem? (i := 12) (by decide +kernel), List.mem_of_getElem? (i := 424) (by decide +kernel), List.mem_of_getElem? (i := 425) (by decide +kernel)⟩
theorem lw_p17 : lw_okq (⟨"ColumnHouseModel", "refuse", "(I)I"⟩, 17) := ⟨⟨by decide +kernel, by decide +kernel⟩, List.mem_of_getElem? (i := 462) (by decide +kernel), List.mem_of_getElem? (i := 530) (by decide +kernel), List.mem_of_getElem? (i := 531) (by decide +kernel)⟩
theorem lw_p18 : lw_okq (⟨"ColumnHouseModel", "reasonOfRow", "(I)I"⟩, 17) := ⟨⟨by decide +kernel, by decide +kernel⟩, List.mem_of_getElem? (i := 462) (by decide +kernel), List.mem_of_getElem? (i := 542) (by decide +kernel), List.mem_of_getElem? (i := 543) (by decide +kernel)⟩
theorem lw_p19 : lw_okq (⟨"ColumnHouseModel", "in", "(I)I"⟩, 17) := ⟨⟨by decide +kernel, by decide +kernel⟩, List.mem_of_getElem? (i := 462) (by decide +kernel), List.mem_of_getElem? (i := 546) (by decide +kernel), List.mem_of_getElem? (i := 547) (by decide +kernel)⟩
theorem lw_p20 : lw_okq (⟨"ColumnHouseModel", "isRow", "(I)Z"⟩, 17) := ⟨⟨by decide +kernel, by decide +kernel⟩, List.mem_of_getElem? (i := 462) (by decide +kernel), List.mem_of_getElem? (i := 550) (by decide +kernel), List.mem_of_getElem? (i := 551) (by decide +kernel)⟩
theorem lw_p21 : lw_okq (⟨"ColumnHouseModel", "isCard", "(I)Z"⟩, 17) := ⟨⟨by decide +kernel, by decide +kernel⟩, List.mem_of_getElem? (i := 462) (by decide +kernel), List.mem_of_getElem? (i := 562) (by decide +kernel), List.mem_of_getElem? (i := 563) (by decide +kernel)⟩
theorem lw_p22 : lw_okq (⟨"ColumnHouseModel", "reasonOfPlace", "(II)I"⟩, 17) := ⟨⟨by decide +kernel, by decide +kernel⟩, List.mem_of_getElem? (i := 462) (by decide +kernel), List.mem_of_getElem? (i := 574) (by decide +kernel), List.mem_of_getElem? (i := 575) (by decide +kernel)⟩
theorem lw_p23 : lw_okq (⟨"ColumnHouseModel", "hasPlace", "(II)Z"⟩, 17) := ⟨⟨by decide +kernel, by decide +kernel⟩, List.mem_of_getElem? (i := 462) (by decide +kernel), List.mem_of_getElem? (i := 578) (by decide +kernel), List.mem_of_getElem? (i := 579) (by decide +kernel)⟩
theorem lw_p24 : lw_okq (⟨"ColumnHouseModel", "tell", "(III)V"⟩, 17) := ⟨⟨by decide +kernel, by decide +kernel⟩, List.mem_of_getElem? (i := 462) (by decide +kernel), List.mem_of_getElem? (i := 582) (by decide +kernel), List.mem_of_getElem? (i := 583) (by decide +kernel)⟩
theorem lw_p25 : lw_okq (⟨"ColumnHouseModel", "goesIn", "(I)Z"⟩, 17) := ⟨⟨by decide +kernel, by decide +kernel⟩, List.mem_of_getElem? (i := 462) (by decide +kernel), List.mem_of_getElem? (i := 589) (by decide +kernel), List.mem_of_getElem? (i := 590) (by decide +kernel)⟩
theorem lw_p26 : lw_okq (⟨"ColumnHouseModel", "isPlain", "(I)Z"⟩, 17) := ⟨⟨by decide +kernel, by decide +kernel⟩, List.mem_of_getElem? (i := 462) (by decide +kernel), List.mem_of_getElem? (i := 593) (by decide +kernel), List.mem_of_getElem? (i := 594) (by decide +kernel)⟩
theorem lw_p27 : lw_okq (⟨"ColumnHouseModel", "goesInto", "(II)Z"⟩, 17) := ⟨⟨by decide +kernel, by decide +kernel⟩, List.mem_of_getElem? (i := 462) (by decide +kernel), List.mem_of_getElem? (i := 597) (by decide +kernel), List.mem_of_getElem? (i := 598) (by decide +kernel)⟩
theorem lw_p28 : lw_okq (⟨"ColumnHouseModel", "fits", "(IJ)Z"⟩, 17) := ⟨⟨by decide +kernel, by decide +kernel⟩, List.mem_of_getElem? (i := 462) (by decide +kernel), List.mem_of_getElem? (i := 601) (by decide +kernel), List.mem_of_getElem? (i := 602) (by decide +kernel)⟩
theorem lw_p29 : lw_okq (⟨"ColumnHouseModel", "widen", "(I)V"⟩, 17) := ⟨⟨by decide +kernel, by decide +kernel⟩, List.mem_of_getElem? (i := 462) (by decide +kernel), List.mem_of_getElem? (i := 605) (by decide +kernel), List.mem_of_getElem? (i := 606) (by decide +kernel)⟩
theorem lw_p30 : lw_okq (⟨"ColumnHouseModel", "set", "(II)V"⟩, 17) := ⟨⟨by decide +kernel, by decide +kernel⟩, List.mem_of_getElem? (i := 462) (by decide +kernel), List.mem_of_getElem? (i := 609) (by decide +kernel), List.mem_of_getElem? (i := 610) (by decide +kernel)⟩
theorem lw_p31 : lw_okq (⟨"ColumnHouseModel", "reasonOfValue", "(III)I"⟩, 17) := ⟨⟨by decide +kernel, by decide +kernel⟩, List.mem_of_getElem? (i := 462) (by decide +kernel), List.mem_of_getElem? (i := 626) (by decide +kernel), List.mem_of_getElem? (i := 627) (by decide +kernel)⟩
def lw_privs_2 : List (MethodName × Nat) := [(⟨"ColumnHouse", "placesUnlikeStage", "(LColumnHouse$Row;)I"⟩, 6), (⟨"ColumnHouseModel", "refuse", "(I)I"⟩, 17), (⟨"ColumnHouseModel", "reasonOfRow", "(I)I"⟩, 17), (⟨"ColumnHouseModel", "in", "(I)I"⟩, 17), (⟨"ColumnHouseModel", "isRow", "(I)Z"⟩, 17), (⟨"ColumnHouseModel", "isCard", "(I)Z"⟩, 17), (⟨"ColumnHouseModel", "reasonOfPlace", "(II)I"⟩, 17), (⟨"ColumnHouseModel", "hasPlace", "(II)Z"⟩, 17), (⟨"ColumnHouseModel", "tell", "(III)V"⟩, 17), (⟨"ColumnHouseModel", "goesIn", "(I)Z"⟩, 17), (⟨"ColumnHouseModel", "isPlain", "(I)Z"⟩, 17), (⟨"ColumnHouseModel", "goesInto", "(II)Z"⟩, 17), (⟨"ColumnHouseModel", "fits", "(IJ)Z"⟩, 17), (⟨"ColumnHouseModel", "widen", "(I)V"⟩, 17), (⟨"ColumnHouseModel", "set", "(II)V"⟩, 17), (⟨"ColumnHouseModel", "reasonOfValue", "(III)I"⟩, 17)]
theorem lw_r2 : ∀ q ∈ lw_privs_2, lw_okq q := List.forall_mem_cons.mpr ⟨lw_p16, List.forall_mem_cons.mpr ⟨lw_p17, List.forall_mem_cons.mpr ⟨lw_p18, List.forall_mem_cons.mpr ⟨lw_p19, List.forall_mem_cons.mpr ⟨lw_p20, List.forall_mem_cons.mpr ⟨lw_p21, List.forall_mem_cons.mpr ⟨lw_p22, List.forall_mem_cons.mpr ⟨lw_p23, List.forall_mem_cons.mpr ⟨lw_p24, List.forall_mem_cons.mpr ⟨lw_p25, List.forall_mem_cons.mpr ⟨lw_p26, List.forall_mem_cons.mpr ⟨lw_p27, List.forall_mem_cons.mpr ⟨lw_p28, List.forall_mem_cons.mpr ⟨lw_p29, List.forall_mem_cons.mpr ⟨lw_p30, List.forall_mem_cons.mpr ⟨lw_p31, fun _ h => absurd h List.not_mem_nil⟩⟩⟩⟩⟩⟩⟩⟩⟩⟩⟩⟩⟩⟩⟩⟩
theorem lw_p32 : lw_okq (⟨"ColumnHouseModel", "get", "(II)V"⟩, 17) := ⟨⟨by decide +kernel, by decide +kernel⟩, List.mem_of_getElem? (i := 462) (by decide +kernel), List.mem_of_getElem? (i := 630) (by decide +kernel), List.mem_of_getElem? (i := 631) (by decide +kernel)⟩
theorem lw_p33 : lw_okq (⟨"ColumnHouseModel", "kindOf", "(J)I"⟩, 17) := ⟨⟨by decide +kernel, by decide +kernel⟩, List.mem_of_getElem? (i := 462) (by decide +kernel), List.mem_of_getElem? (i := 642) (by decide +kernel), List.mem_of_getElem? (i := 643) (by decide +kernel)⟩
theorem lw_p34 : lw_okq (⟨"ColumnHouseModel", "reasonOfRows", "(III)I"⟩, 17) := ⟨⟨by decide +kernel, by decide +kernel⟩, List.mem_of_getElem? (i := 462) (by decide +kernel), List.mem_of_getElem? (i := 654) (by decide +kernel), List.mem_of_getElem? (i := 655) (by decide +kernel)⟩
theorem lw_p35 : lw_okq (⟨"ColumnHouseModel", "carry", "(III)I"⟩, 17) := ⟨⟨by decide +kernel, by decide +kernel⟩, List.mem_of_getElem? (i := 462) (by decide +kernel), List.mem_of_getElem? (i := 658) (by decide +kernel), List.mem_of_getElem? (i := 659) (by decide +kernel)⟩
theorem lw_p36 : lw_okq (⟨"ColumnHouseModel", "tellsPlaces", "(I)Z"⟩, 17) := ⟨⟨by decide +kernel, by decide +kernel⟩, List.mem_of_getElem? (i := 462) (by decide +kernel), List.mem_of_getElem? (i := 666) (by decide +kernel), List.mem_of_getElem? (i := 667) (by decide +kernel)⟩
theorem lw_p37 : lw_okq (⟨"ColumnHouseModel", "mergeAll", "(II)V"⟩, 17) := ⟨⟨by decide +kernel, by decide +kernel⟩, List.mem_of_getElem? (i := 462) (by decide +kernel), List.mem_of_getElem? (i := 678) (by decide +kernel), List.mem_of_getElem? (i := 679) (by decide +kernel)⟩
theorem lw_p38 : lw_okq (⟨"ColumnHouseModel", "against", "(IJD)I"⟩, 17) := ⟨⟨by decide +kernel, by decide +kernel⟩, List.mem_of_getElem? (i := 462) (by decide +kernel), List.mem_of_getElem? (i := 682) (by decide +kernel), List.mem_of_getElem? (i := 683) (by decide +kernel)⟩
theorem lw_p39 : lw_okq (⟨"ColumnHouseModel", "takeOut", "(I)V"⟩, 17) := ⟨⟨by decide +kernel, by decide +kernel⟩, List.mem_of_getElem? (i := 462) (by decide +kernel), List.mem_of_getElem? (i := 699) (by decide +kernel), List.mem_of_getElem? (i := 700) (by decide +kernel)⟩
theorem lw_p40 : lw_okq (⟨"ColumnHouseModel", "isBefore", "(III)Z"⟩, 17) := ⟨⟨by decide +kernel, by decide +kernel⟩, List.mem_of_getElem? (i := 462) (by decide +kernel), List.mem_of_getElem? (i := 703) (by decide +kernel), List.mem_of_getElem? (i := 704) (by decide +kernel)⟩
theorem lw_p41 : lw_okq (⟨"ColumnHouseModel", "rankOf", "(J)J"⟩, 17) := ⟨⟨by decide +kernel, by decide +kernel⟩, List.mem_of_getElem? (i := 462) (by decide +kernel), List.mem_of_getElem? (i := 707) (by decide +kernel), List.mem_of_getElem? (i := 708) (by decide +kernel)⟩
theorem lw_p42 : lw_okq (⟨"ColumnHouseModel", "swap", "(III)V"⟩, 17) := ⟨⟨by decide +kernel, by decide +kernel⟩, List.mem_of_getElem? (i := 462) (by decide +kernel), List.mem_of_getElem? (i := 712) (by decide +kernel), List.mem_of_getElem? (i := 713) (by decide +kernel)⟩
theorem lw_p43 : lw_okq (⟨"ColumnHouseModel", "others", "(I)I"⟩, 17) := ⟨⟨by decide +kernel, by decide +kernel⟩, List.mem_of_getElem? (i := 462) (by decide +kernel), List.mem_of_getElem? (i := 716) (by decide +kernel), List.mem_of_getElem? (i := 717) (by decide +kernel)⟩
theorem lw_p44 : lw_okq (⟨"ColumnHouseModel", "areAlike", "(III)Z"⟩, 17) := ⟨⟨by decide +kernel, by decide +kernel⟩, List.mem_of_getElem? (i := 462) (by decide +kernel), List.mem_of_getElem? (i := 743) (by decide +kernel), List.mem_of_getElem? (i := 744) (by decide +kernel)⟩
def lw_privs_3 : List (MethodName × Nat) := [(⟨"ColumnHouseModel", "get", "(II)V"⟩, 17), (⟨"ColumnHouseModel", "kindOf", "(J)I"⟩, 17), (⟨"ColumnHouseModel", "reasonOfRows", "(III)I"⟩, 17), (⟨"ColumnHouseModel", "carry", "(III)I"⟩, 17), (⟨"ColumnHouseModel", "tellsPlaces", "(I)Z"⟩, 17), (⟨"ColumnHouseModel", "mergeAll", "(II)V"⟩, 17), (⟨"ColumnHouseModel", "against", "(IJD)I"⟩, 17), (⟨"ColumnHouseModel", "takeOut", "(I)V"⟩, 17), (⟨"ColumnHouseModel", "isBefore", "(III)Z"⟩, 17), (⟨"ColumnHouseModel", "rankOf", "(J)J"⟩, 17), (⟨"ColumnHouseModel", "swap", "(III)V"⟩, 17), (⟨"ColumnHouseModel", "others", "(I)I"⟩, 17), (⟨"ColumnHouseModel", "areAlike", "(III)Z"⟩, 17)]
theorem lw_r3 : ∀ q ∈ lw_privs_3, lw_okq q := List.forall_mem_cons.mpr ⟨lw_p32, List.forall_mem_cons.mpr ⟨lw_p33, List.forall_mem_cons.mpr ⟨lw_p34, List.forall_mem_cons.mpr ⟨lw_p35, List.forall_mem_cons.mpr ⟨lw_p36, List.forall_mem_cons.mpr ⟨lw_p37, List.forall_mem_cons.mpr ⟨lw_p38, List.forall_mem_cons.mpr ⟨lw_p39, List.forall_mem_cons.mpr ⟨lw_p40, List.forall_mem_cons.mpr ⟨lw_p41, List.forall_mem_cons.mpr ⟨lw_p42, List.forall_mem_cons.mpr ⟨lw_p43, List.forall_mem_cons.mpr ⟨lw_p44, fun _ h => absurd h List.not_mem_nil⟩⟩⟩⟩⟩⟩⟩⟩⟩⟩⟩⟩⟩
def lw_privs : List (MethodName × Nat) := lw_privs_1 ++ (lw_privs_2 ++ (lw_privs_3))
def lw_tbl : List Cond := k2_sels lw_privs ++ tables_1
theorem lw_privs_ok : ∀ q ∈ lw_privs, lw_okq q := by
  show ∀ q ∈ lw_privs_1 ++ (lw_privs_2 ++ (lw_privs_3)), lw_okq q
  exact List.forall_mem_append.mpr ⟨lw_r1, List.forall_mem_append.mpr ⟨lw_r2, lw_r3⟩⟩
/-- the streams that the claim lets the run draw from -/
abbrev lw_cs : List Choice := [Jvm.Choice.named "NaN.bits"]
theorem lw_bits : nanBits ∈ lw_cs := by first | decide | exact List.mem_cons_self | simp [lw_cs, nanBits]
end
section
def RX0 : String := "ColumnHouse$Card"
def TX0 : u_T := fun k => match k with
  | 0 => ("ColumnHouse$Thing", "kind", "I", true)
  | _ => ("ColumnHouse$Card", "tag", "I", true)
def tyX0 : Nat → FieldType := fun k => match k with
  | 0 => .int
  | _ => .int
abbrev wsX00 : List Cond := u_ws RX0 TX0 2
theorem nmX0 : ∀ a, a < 2 → ∀ b, b < 2 → a ≠ b → (TX0 a).2.1 ≠ (TX0 b).2.1 := by decide +kernel
theorem tyX0_ok : ∀ k, k < 2 → parseFieldDescriptor (TX0 k).2.2.1 = some (tyX0 k) := by decide +kernel
abbrev cX0_init : ByteArray := prog_2_method_1_code
def yX0_init : MethodName := ⟨RX0, "<init>", "(II)V"⟩
abbrev cX0_measure : ByteArray := prog_2_method_2_code
def yX0_measure : MethodName := ⟨RX0, "measure", "()I"⟩
def RX1 : String := "ColumnHouse$Cell"
def TX1 : u_T := fun k => match k with
  | 0 => ("ColumnHouse$Cell", "sort", "I", false)
  | 1 => ("ColumnHouse$Cell", "whole", "J", false)
  | 2 => ("ColumnHouse$Cell", "point", "D", false)
  | _ => ("ColumnHouse$Cell", "thing", "LColumnHouse$Thing;", false)
def tyX1 : Nat → FieldType := fun k => match k with
  | 0 => .int
  | 1 => .long
  | 2 => .double
  | _ => .object "ColumnHouse$Thing"
abbrev wsX10 : List Cond := u_ws RX1 TX1 4
theorem nmX1 : ∀ a, a < 4 → ∀ b, b < 4 → a ≠ b → (TX1 a).2.1 ≠ (TX1 b).2.1 := by decide +kernel
theorem tyX1_ok : ∀ k, k < 4 → parseFieldDescriptor (TX1 k).2.2.1 = some (tyX1 k) := by decide +kernel
abbrev cX1_init : ByteArray := prog_3_method_1_code
def yX1_init : MethodName := ⟨RX1, "<init>", "()V"⟩
abbrev cX1_holdWhole : ByteArray := prog_3_method_2_code
def yX1_holdWhole : MethodName := ⟨RX1, "holdWhole", "(IJ)V"⟩
abbrev cX1_holdPoint : ByteArray := prog_3_method_3_code
def yX1_holdPoint : MethodName := ⟨RX1, "holdPoint", "(ID)V"⟩
abbrev cX1_holdThing : ByteArray := prog_3_method_4_code
def yX1_holdThing : MethodName := ⟨RX1, "holdThing", "(LColumnHouse$Thing;)V"⟩
abbrev cX1_holdTold : ByteArray := prog_3_method_5_code
def yX1_holdTold : MethodName := ⟨RX1, "holdTold", "(III)V"⟩
abbrev cX1_isValue : ByteArray := prog_3_method_6_code
def yX1_isValue : MethodName := ⟨RX1, "isValue", "()Z"⟩
abbrev cX1_isWhole : ByteArray := prog_3_method_7_code
def yX1_isWhole : MethodName := ⟨RX1, "isWhole", "()Z"⟩
abbrev cX1_pointAs : ByteArray := prog_3_method_8_code
def yX1_pointAs : MethodName := ⟨RX1, "pointAs", "(I)D"⟩
abbrev cX1_isLike : ByteArray := prog_3_method_9_code
def yX1_isLike : MethodName := ⟨RX1, "isLike", "(LColumnHouse$Cell;)Z"⟩
abbrev cX1_isLess : ByteArray := prog_3_method_10_code
def yX1_isLess : MethodName := ⟨RX1, "isLess", "(LColumnHouse$Cell;)Z"⟩
abbrev cX1_comesBefore : ByteArray := prog_3_method_11_code
def yX1_comesBefore : MethodName := ⟨RX1, "comesBefore", "(LColumnHouse$Cell;)Z"⟩
def RX2 : String := "ColumnHouse$PointRow"
def TX2 : u_T := fun k => match k with
  | 0 => ("ColumnHouse$Thing", "kind", "I", true)
  | _ => ("ColumnHouse$PointRow", "points", "[D", true)
def tyX2 : Nat → FieldType := fun k => match k with
  | 0 => .int
  | _ => .array .double
abbrev wsX20 : List Cond := u_ws RX2 TX2 2
theorem nmX2 : ∀ a, a < 2 → ∀ b, b < 2 → a ≠ b → (TX2 a).2.1 ≠ (TX2 b).2.1 := by decide +kernel
theorem tyX2_ok : ∀ k, k < 2 → parseFieldDescriptor (TX2 k).2.2.1 = some (tyX2 k) := by decide +kernel
abbrev cX2_init : ByteArray := prog_4_method_1_code
def yX2_init : MethodName := ⟨RX2, "<init>", "(II)V"⟩
abbrev cX2_length : ByteArray := prog_4_method_2_code
def yX2_length : MethodName := ⟨RX2, "length", "()I"⟩
abbrev cX2_read : ByteArray := prog_4_method_3_code
def yX2_read : MethodName := ⟨RX2, "read", "(ILColumnHouse$Cell;)V"⟩
abbrev cX2_write : ByteArray := prog_4_method_4_code
def yX2_write : MethodName := ⟨RX2, "write", "(ILColumnHouse$Cell;)V"⟩
def RX3 : String := "ColumnHouse$Row"
def TX3 : u_T := fun k => match k with
  | _ => ("", "", "", false)
def tyX3 : Nat → FieldType := fun k => match k with
  | _ => .int
abbrev wsX30 : List Cond := u_ws RX3 TX3 0
theorem nmX3 : ∀ a, a < 0 → ∀ b, b < 0 → a ≠ b → (TX3 a).2.1 ≠ (TX3 b).2.1 := by decide +kernel
theorem tyX3_ok : ∀ k, k < 0 → parseFieldDescriptor (TX3 k).2.2.1 = some (tyX3 k) := by decide +kernel
abbrev cX3_init : ByteArray := prog_5_method_1_code
def yX3_init : MethodName := ⟨RX3, "<init>", "(I)V"⟩
abbrev cX3_measure : ByteArray := prog_5_method_5_code
def yX3_measure : MethodName := ⟨RX3, "measure", "()I"⟩
abbrev cX3_has : ByteArray := prog_5_method_6_code
def yX3_has : MethodName := ⟨RX3, "has", "(I)Z"⟩
abbrev cX3_isPlain : ByteArray := prog_5_method_7_code
def yX3_isPlain : MethodName := ⟨RX3, "isPlain", "()Z"⟩
abbrev cX3_goesAs : ByteArray := prog_5_method_8_code
def yX3_goesAs : MethodName := ⟨RX3, "goesAs", "(I)Z"⟩
abbrev cX3_takes : ByteArray := prog_5_method_9_code
def yX3_takes : MethodName := ⟨RX3, "takes", "(LColumnHouse$Cell;)Z"⟩
def RX4 : String := "ColumnHouse$Thing"
def TX4 : u_T := fun k => match k with
  | _ => ("", "", "", false)
def tyX4 : Nat → FieldType := fun k => match k with
  | _ => .int
abbrev wsX40 : List Cond := u_ws RX4 TX4 0
theorem nmX4 : ∀ a, a < 0 → ∀ b, b < 0 → a ≠ b → (TX4 a).2.1 ≠ (TX4 b).2.1 := by decide +kernel
theorem tyX4_ok : ∀ k, k < 0 → parseFieldDescriptor (TX4 k).2.2.1 = some (tyX4 k) := by decide +kernel
abbrev cX4_init : ByteArray := prog_6_method_1_code
def yX4_init : MethodName := ⟨RX4, "<init>", "(I)V"⟩
def RX5 : String := "ColumnHouse$ThingRow"
def TX5 : u_T := fun k => match k with
  | 0 => ("ColumnHouse$Thing", "kind", "I", true)
  | _ => ("ColumnHouse$ThingRow", "things", "[LColumnHouse$Thing;", true)
def tyX5 : Nat → FieldType := fun k => match k with
  | 0 => .int
  | _ => .array (.object "ColumnHouse$Thing")
abbrev wsX50 : List Cond := u_ws RX5 TX5 2
theorem nmX5 : ∀ a, a < 2 → ∀ b, b < 2 → a ≠ b → (TX5 a).2.1 ≠ (TX5 b).2.1 := by decide +kernel
theorem tyX5_ok : ∀ k, k < 2 → parseFieldDescriptor (TX5 k).2.2.1 = some (tyX5 k) := by decide +kernel
abbrev cX5_init : ByteArray := prog_7_method_1_code
def yX5_init : MethodName := ⟨RX5, "<init>", "(II)V"⟩
abbrev cX5_length : ByteArray := prog_7_method_2_code
def yX5_length : MethodName := ⟨RX5, "length", "()I"⟩
abbrev cX5_read : ByteArray := prog_7_method_3_code
def yX5_read : MethodName := ⟨RX5, "read", "(ILColumnHouse$Cell;)V"⟩
abbrev cX5_write : ByteArray := prog_7_method_4_code
def yX5_write : MethodName := ⟨RX5, "write", "(ILColumnHouse$Cell;)V"⟩
def RX6 : String := "ColumnHouse$WholeRow"
def TX6 : u_T := fun k => match k with
  | 0 => ("ColumnHouse$Thing", "kind", "I", true)
  | _ => ("ColumnHouse$WholeRow", "wholes", "[J", true)
def tyX6 : Nat → FieldType := fun k => match k with
  | 0 => .int
  | _ => .array .long
abbrev wsX60 : List Cond := u_ws RX6 TX6 2
theorem nmX6 : ∀ a, a < 2 → ∀ b, b < 2 → a ≠ b → (TX6 a).2.1 ≠ (TX6 b).2.1 := by decide +kernel
theorem tyX6_ok : ∀ k, k < 2 → parseFieldDescriptor (TX6 k).2.2.1 = some (tyX6 k) := by decide +kernel
abbrev cX6_init : ByteArray := prog_8_method_1_code
def yX6_init : MethodName := ⟨RX6, "<init>", "(II)V"⟩
abbrev cX6_length : ByteArray := prog_8_method_2_code
def yX6_length : MethodName := ⟨RX6, "length", "()I"⟩
abbrev cX6_read : ByteArray := prog_8_method_3_code
def yX6_read : MethodName := ⟨RX6, "read", "(ILColumnHouse$Cell;)V"⟩
abbrev cX6_write : ByteArray := prog_8_method_4_code
def yX6_write : MethodName := ⟨RX6, "write", "(ILColumnHouse$Cell;)V"⟩
def RX7 : String := "ColumnHouse"
def TX7 : u_T := fun k => match k with
  | 0 => ("ColumnHouse", "columns", "[LColumnHouse$Thing;", true)
  | 1 => ("ColumnHouse", "stage", "[LColumnHouse$Cell;", true)
  | 2 => ("ColumnHouse", "targets", "[I", true)
  | 3 => ("ColumnHouse", "one", "LColumnHouse$Cell;", true)
  | 4 => ("ColumnHouse", "other", "LColumnHouse$Cell;", true)
  | _ => ("ColumnHouse", "why", "I", false)
def tyX7 : Nat → FieldType := fun k => match k with
  | 0 => .array (.object "ColumnHouse$Thing")
  | 1 => .array (.object "ColumnHouse$Cell")
  | 2 => .array .int
  | 3 => .object "ColumnHouse$Cell"
  | 4 => .object "ColumnHouse$Cell"
  | _ => .int
abbrev wsX70 : List Cond := u_ws RX7 TX7 6
theorem nmX7 : ∀ a, a < 6 → ∀ b, b < 6 → a ≠ b → (TX7 a).2.1 ≠ (TX7 b).2.1 := by decide +kernel
theorem tyX7_ok : ∀ k, k < 6 → parseFieldDescriptor (TX7 k).2.2.1 = some (tyX7 k) := by decide +kernel
abbrev cX7_init : ByteArray := prog_1_method_1_code
def yX7_init : MethodName := ⟨RX7, "<init>", "()V"⟩
abbrev cX7_make : ByteArray := prog_1_method_2_code
def yX7_make : MethodName := ⟨RX7, "make", "(III)I"⟩
abbrev cX7_lay : ByteArray := prog_1_method_3_code
def yX7_lay : MethodName := ⟨RX7, "lay", "(II)I"⟩
abbrev cX7_places : ByteArray := prog_1_method_4_code
def yX7_places : MethodName := ⟨RX7, "places", "(I)I"⟩
abbrev cX7_kind : ByteArray := prog_1_method_5_code
def yX7_kind : MethodName := ⟨RX7, "kind", "(I)I"⟩
abbrev cX7_tag : ByteArray := prog_1_method_6_code
def yX7_tag : MethodName := ⟨RX7, "tag", "(I)I"⟩
abbrev cX7_load : ByteArray := prog_1_method_7_code
def yX7_load : MethodName := ⟨RX7, "load", "(I)I"⟩
abbrev cX7_put : ByteArray := prog_1_method_8_code
def yX7_put : MethodName := ⟨RX7, "put", "(IIIII)I"⟩
abbrev cX7_putBoxed : ByteArray := prog_1_method_9_code
def yX7_putBoxed : MethodName := ⟨RX7, "putBoxed", "(IIIII)I"⟩
abbrev cX7_putThing : ByteArray := prog_1_method_10_code
def yX7_putThing : MethodName := ⟨RX7, "putThing", "(III)I"⟩
abbrev cX7_number : ByteArray := prog_1_method_11_code
def yX7_number : MethodName := ⟨RX7, "number", "(III)J"⟩
abbrev cX7_point : ByteArray := prog_1_method_12_code
def yX7_point : MethodName := ⟨RX7, "point", "(III)D"⟩
abbrev cX7_what : ByteArray := prog_1_method_13_code
def yX7_what : MethodName := ⟨RX7, "what", "(II)I"⟩
abbrev cX7_take : ByteArray := prog_1_method_14_code
def yX7_take : MethodName := ⟨RX7, "take", "(III)I"⟩
abbrev cX7_copy : ByteArray := prog_1_method_15_code
def yX7_copy : MethodName := ⟨RX7, "copy", "(II)I"⟩
abbrev cX7_gather : ByteArray := prog_1_method_16_code
def yX7_gather : MethodName := ⟨RX7, "gather", "(III)I"⟩
abbrev cX7_scatter : ByteArray := prog_1_method_17_code
def yX7_scatter : MethodName := ⟨RX7, "scatter", "(III)I"⟩
abbrev cX7_merge : ByteArray := prog_1_method_18_code
def yX7_merge : MethodName := ⟨RX7, "merge", "(III)I"⟩
abbrev cX7_sort : ByteArray := prog_1_method_19_code
def yX7_sort : MethodName := ⟨RX7, "sort", "(I)I"⟩
abbrev cX7_turn : ByteArray := prog_1_method_20_code
def yX7_turn : MethodName := ⟨RX7, "turn", "(II)I"⟩
abbrev cX7_sum : ByteArray := prog_1_method_21_code
def yX7_sum : MethodName := ⟨RX7, "sum", "(I)J"⟩
abbrev cX7_total : ByteArray := prog_1_method_22_code
def yX7_total : MethodName := ⟨RX7, "total", "(I)D"⟩
abbrev cX7_find : ByteArray := prog_1_method_23_code
def yX7_find : MethodName := ⟨RX7, "find", "(IIIII)I"⟩
abbrev cX7_alike : ByteArray := prog_1_method_24_code
def yX7_alike : MethodName := ⟨RX7, "alike", "(II)I"⟩
abbrev cX7_why : ByteArray := prog_1_method_25_code
def yX7_why : MethodName := ⟨RX7, "why", "()I"⟩
abbrev cX7_done : ByteArray := prog_1_method_26_code
def yX7_done : MethodName := ⟨RX7, "done", "(I)I"⟩
abbrev cX7_refuse : ByteArray := prog_1_method_27_code
def yX7_refuse : MethodName := ⟨RX7, "refuse", "(I)I"⟩
abbrev cX7_isColumn : ByteArray := prog_1_method_28_code
def yX7_isColumn : MethodName := ⟨RX7, "isColumn", "(I)Z"⟩
abbrev cX7_isSort : ByteArray := prog_1_method_29_code
def yX7_isSort : MethodName := ⟨RX7, "isSort", "(I)Z"⟩
abbrev cX7_kindOf : ByteArray := prog_1_method_30_code
def yX7_kindOf : MethodName := ⟨RX7, "kindOf", "(LColumnHouse$Thing;)I"⟩
abbrev cX7_oneIfThing : ByteArray := prog_1_method_31_code
def yX7_oneIfThing : MethodName := ⟨RX7, "oneIfThing", "(LColumnHouse$Thing;)I"⟩
abbrev cX7_newRow : ByteArray := prog_1_method_32_code
def yX7_newRow : MethodName := ⟨RX7, "newRow", "(II)LColumnHouse$Row;"⟩
abbrev cX7_rowIn : ByteArray := prog_1_method_33_code
def yX7_rowIn : MethodName := ⟨RX7, "rowIn", "(I)LColumnHouse$Row;"⟩
abbrev cX7_rowAmiss : ByteArray := prog_1_method_34_code
def yX7_rowAmiss : MethodName := ⟨RX7, "rowAmiss", "(I)I"⟩
abbrev cX7_rowsAmiss : ByteArray := prog_1_method_35_code
def yX7_rowsAmiss : MethodName := ⟨RX7, "rowsAmiss", "(III)I"⟩
abbrev cX7_earlier : ByteArray := prog_1_method_36_code
def yX7_earlier : MethodName := ⟨RX7, "earlier", "(II)I"⟩
abbrev cX7_cardIn : ByteArray := prog_1_method_37_code
def yX7_cardIn : MethodName := ⟨RX7, "cardIn", "(I)LColumnHouse$Card;"⟩
abbrev cX7_cardAmiss : ByteArray := prog_1_method_38_code
def yX7_cardAmiss : MethodName := ⟨RX7, "cardAmiss", "(I)I"⟩
abbrev cX7_putTold : ByteArray := prog_1_method_39_code
def yX7_putTold : MethodName := ⟨RX7, "putTold", "(IIIII)I"⟩
abbrev cX7_placeOne : ByteArray := prog_1_method_40_code
def yX7_placeOne : MethodName := ⟨RX7, "placeOne", "(LColumnHouse$Row;II)I"⟩
abbrev cX7_readOneAs : ByteArray := prog_1_method_41_code
def yX7_readOneAs : MethodName := ⟨RX7, "readOneAs", "(III)Z"⟩
abbrev cX7_moveByIndex : ByteArray := prog_1_method_42_code
def yX7_moveByIndex : MethodName := ⟨RX7, "moveByIndex", "(IIIZ)I"⟩
abbrev cX7_stageMove : ByteArray := prog_1_method_43_code
def yX7_stageMove : MethodName := ⟨RX7, "stageMove", "(LColumnHouse$Row;ILColumnHouse$Row;I)I"⟩
abbrev cX7_indexAt : ByteArray := prog_1_method_44_code
def yX7_indexAt : MethodName := ⟨RX7, "indexAt", "(LColumnHouse$Row;I)I"⟩
abbrev cX7_writeStage : ByteArray := prog_1_method_45_code
def yX7_writeStage : MethodName := ⟨RX7, "writeStage", "(LColumnHouse$Row;)I"⟩
abbrev cX7_comesFromRight : ByteArray := prog_1_method_46_code
def yX7_comesFromRight : MethodName := ⟨RX7, "comesFromRight", "(LColumnHouse$Row;ILColumnHouse$Row;I)Z"⟩
abbrev cX7_sinkIntoOrder : ByteArray := prog_1_method_47_code
def yX7_sinkIntoOrder : MethodName := ⟨RX7, "sinkIntoOrder", "(I)V"⟩
abbrev cX7_placesUnlikeStage : ByteArray := prog_1_method_48_code
def yX7_placesUnlikeStage : MethodName := ⟨RX7, "placesUnlikeStage", "(LColumnHouse$Row;)I"⟩
abbrev cX7_goesInto : ByteArray := prog_1_method_49_code
def yX7_goesInto : MethodName := ⟨RX7, "goesInto", "(II)Z"⟩
abbrev cX7_fits : ByteArray := prog_1_method_50_code
def yX7_fits : MethodName := ⟨RX7, "fits", "(II)Z"⟩
def RX8 : String := "ColumnHouseModel"
def TX8 : u_T := fun k => match k with
  | 0 => ("ColumnHouseModel", "goes", "[I", true)
  | 1 => ("ColumnHouseModel", "kinds", "[I", true)
  | 2 => ("ColumnHouseModel", "lengths", "[I", true)
  | 3 => ("ColumnHouseModel", "tags", "[I", true)
  | 4 => ("ColumnHouseModel", "wholes", "[J", true)
  | 5 => ("ColumnHouseModel", "reals", "[D", true)
  | 6 => ("ColumnHouseModel", "things", "I", false)
  | 7 => ("ColumnHouseModel", "columns", "[I", true)
  | 8 => ("ColumnHouseModel", "why", "I", false)
  | 9 => ("ColumnHouseModel", "sortOf", "I", false)
  | 10 => ("ColumnHouseModel", "whole", "J", false)
  | 11 => ("ColumnHouseModel", "real", "D", false)
  | 12 => ("ColumnHouseModel", "newSorts", "[I", true)
  | 13 => ("ColumnHouseModel", "newWholes", "[J", true)
  | 14 => ("ColumnHouseModel", "newReals", "[D", true)
  | 15 => ("ColumnHouseModel", "froms", "[I", true)
  | _ => ("ColumnHouseModel", "tos", "[I", true)
def tyX8 : Nat → FieldType := fun k => match k with
  | 0 => .array .int
  | 1 => .array .int
  | 2 => .array .int
  | 3 => .array .int
  | 4 => .array .long
  | 5 => .array .double
  | 6 => .int
  | 7 => .array .int
  | 8 => .int
  | 9 => .int
  | 10 => .long
  | 11 => .double
  | 12 => .array .int
  | 13 => .array .long
  | 14 => .array .double
  | 15 => .array .int
  | _ => .array .int
abbrev wsX80 : List Cond := u_ws RX8 TX8 17
theorem nmX8 : ∀ a, a < 17 → ∀ b, b < 17 → a ≠ b → (TX8 a).2.1 ≠ (TX8 b).2.1 := by decide +kernel
theorem tyX8_ok : ∀ k, k < 17 → parseFieldDescriptor (TX8 k).2.2.1 = some (tyX8 k) := by decide +kernel
abbrev cX8_init : ByteArray := prog_10_method_1_code
def yX8_init : MethodName := ⟨RX8, "<init>", "()V"⟩
abbrev cX8_refuse : ByteArray := prog_10_method_2_code
def yX8_refuse : MethodName := ⟨RX8, "refuse", "(I)I"⟩
abbrev cX8_isIn : ByteArray := prog_10_method_3_code
def yX8_isIn : MethodName := ⟨RX8, "isIn", "(III)Z"⟩
abbrev cX8_isColumn : ByteArray := prog_10_method_4_code
def yX8_isColumn : MethodName := ⟨RX8, "isColumn", "(I)Z"⟩
abbrev cX8_in : ByteArray := prog_10_method_5_code
def yX8_in : MethodName := ⟨RX8, "in", "(I)I"⟩
abbrev cX8_isRow : ByteArray := prog_10_method_6_code
def yX8_isRow : MethodName := ⟨RX8, "isRow", "(I)Z"⟩
abbrev cX8_isPlain : ByteArray := prog_10_method_7_code
def yX8_isPlain : MethodName := ⟨RX8, "isPlain", "(I)Z"⟩
abbrev cX8_hasPlace : ByteArray := prog_10_method_8_code
def yX8_hasPlace : MethodName := ⟨RX8, "hasPlace", "(II)Z"⟩
abbrev cX8_reasonOfRow : ByteArray := prog_10_method_9_code
def yX8_reasonOfRow : MethodName := ⟨RX8, "reasonOfRow", "(I)I"⟩
abbrev cX8_reasonOfRows : ByteArray := prog_10_method_10_code
def yX8_reasonOfRows : MethodName := ⟨RX8, "reasonOfRows", "(III)I"⟩
abbrev cX8_tell : ByteArray := prog_10_method_11_code
def yX8_tell : MethodName := ⟨RX8, "tell", "(III)V"⟩
abbrev cX8_get : ByteArray := prog_10_method_12_code
def yX8_get : MethodName := ⟨RX8, "get", "(II)V"⟩
abbrev cX8_goesInto : ByteArray := prog_10_method_13_code
def yX8_goesInto : MethodName := ⟨RX8, "goesInto", "(II)Z"⟩
abbrev cX8_widen : ByteArray := prog_10_method_14_code
def yX8_widen : MethodName := ⟨RX8, "widen", "(I)V"⟩
abbrev cX8_set : ByteArray := prog_10_method_15_code
def yX8_set : MethodName := ⟨RX8, "set", "(II)V"⟩
abbrev cX8_isFloating : ByteArray := prog_10_method_16_code
def yX8_isFloating : MethodName := ⟨RX8, "isFloating", "(I)Z"⟩
abbrev cX8_doubleOf : ByteArray := prog_10_method_17_code
def yX8_doubleOf : MethodName := ⟨RX8, "doubleOf", "(IJD)D"⟩
abbrev cX8_order : ByteArray := prog_10_method_18_code
def yX8_order : MethodName := ⟨RX8, "order", "(IJIJ)I"⟩
abbrev cX8_against : ByteArray := prog_10_method_19_code
def yX8_against : MethodName := ⟨RX8, "against", "(IJD)I"⟩
abbrev cX8_fits : ByteArray := prog_10_method_20_code
def yX8_fits : MethodName := ⟨RX8, "fits", "(IJ)Z"⟩
abbrev cX8_goesIn : ByteArray := prog_10_method_21_code
def yX8_goesIn : MethodName := ⟨RX8, "goesIn", "(I)Z"⟩
abbrev cX8_make : ByteArray := prog_10_method_22_code
def yX8_make : MethodName := ⟨RX8, "make", "(III)I"⟩
abbrev cX8_lay : ByteArray := prog_10_method_23_code
def yX8_lay : MethodName := ⟨RX8, "lay", "(II)I"⟩
abbrev cX8_places : ByteArray := prog_10_method_24_code
def yX8_places : MethodName := ⟨RX8, "places", "(I)I"⟩
abbrev cX8_kind : ByteArray := prog_10_method_25_code
def yX8_kind : MethodName := ⟨RX8, "kind", "(I)I"⟩
abbrev cX8_isCard : ByteArray := prog_10_method_26_code
def yX8_isCard : MethodName := ⟨RX8, "isCard", "(I)Z"⟩
abbrev cX8_tag : ByteArray := prog_10_method_27_code
def yX8_tag : MethodName := ⟨RX8, "tag", "(I)I"⟩
abbrev cX8_load : ByteArray := prog_10_method_28_code
def yX8_load : MethodName := ⟨RX8, "load", "(I)I"⟩
abbrev cX8_reasonOfPlace : ByteArray := prog_10_method_29_code
def yX8_reasonOfPlace : MethodName := ⟨RX8, "reasonOfPlace", "(II)I"⟩
abbrev cX8_put : ByteArray := prog_10_method_30_code
def yX8_put : MethodName := ⟨RX8, "put", "(IIIII)I"⟩
abbrev cX8_putBoxed : ByteArray := prog_10_method_31_code
def yX8_putBoxed : MethodName := ⟨RX8, "putBoxed", "(IIIII)I"⟩
abbrev cX8_putThing : ByteArray := prog_10_method_32_code
def yX8_putThing : MethodName := ⟨RX8, "putThing", "(III)I"⟩
abbrev cX8_reasonOfValue : ByteArray := prog_10_method_33_code
def yX8_reasonOfValue : MethodName := ⟨RX8, "reasonOfValue", "(III)I"⟩
abbrev cX8_number : ByteArray := prog_10_method_34_code
def yX8_number : MethodName := ⟨RX8, "number", "(III)J"⟩
abbrev cX8_point : ByteArray := prog_10_method_35_code
def yX8_point : MethodName := ⟨RX8, "point", "(III)D"⟩
abbrev cX8_kindOf : ByteArray := prog_10_method_36_code
def yX8_kindOf : MethodName := ⟨RX8, "kindOf", "(J)I"⟩
abbrev cX8_what : ByteArray := prog_10_method_37_code
def yX8_what : MethodName := ⟨RX8, "what", "(II)I"⟩
abbrev cX8_take : ByteArray := prog_10_method_38_code
def yX8_take : MethodName := ⟨RX8, "take", "(III)I"⟩
abbrev cX8_carry : ByteArray := prog_10_method_39_code
def yX8_carry : MethodName := ⟨RX8, "carry", "(III)I"⟩
abbrev cX8_copy : ByteArray := prog_10_method_40_code
def yX8_copy : MethodName := ⟨RX8, "copy", "(II)I"⟩
abbrev cX8_tellsPlaces : ByteArray := prog_10_method_41_code
def yX8_tellsPlaces : MethodName := ⟨RX8, "tellsPlaces", "(I)Z"⟩
abbrev cX8_gather : ByteArray := prog_10_method_42_code
def yX8_gather : MethodName := ⟨RX8, "gather", "(III)I"⟩
abbrev cX8_scatter : ByteArray := prog_10_method_43_code
def yX8_scatter : MethodName := ⟨RX8, "scatter", "(III)I"⟩
abbrev cX8_mergeAll : ByteArray := prog_10_method_44_code
def yX8_mergeAll : MethodName := ⟨RX8, "mergeAll", "(II)V"⟩
abbrev cX8_merge : ByteArray := prog_10_method_45_code
def yX8_merge : MethodName := ⟨RX8, "merge", "(III)I"⟩
abbrev cX8_rankOf : ByteArray := prog_10_method_46_code
def yX8_rankOf : MethodName := ⟨RX8, "rankOf", "(J)J"⟩
abbrev cX8_isBefore : ByteArray := prog_10_method_47_code
def yX8_isBefore : MethodName := ⟨RX8, "isBefore", "(III)Z"⟩
abbrev cX8_swap : ByteArray := prog_10_method_48_code
def yX8_swap : MethodName := ⟨RX8, "swap", "(III)V"⟩
abbrev cX8_hasMinus : ByteArray := prog_10_method_49_code
def yX8_hasMinus : MethodName := ⟨RX8, "hasMinus", "(D)Z"⟩
abbrev cX8_others : ByteArray := prog_10_method_50_code
def yX8_others : MethodName := ⟨RX8, "others", "(I)I"⟩
abbrev cX8_takeOut : ByteArray := prog_10_method_51_code
def yX8_takeOut : MethodName := ⟨RX8, "takeOut", "(I)V"⟩
abbrev cX8_sort : ByteArray := prog_10_method_52_code
def yX8_sort : MethodName := ⟨RX8, "sort", "(I)I"⟩
abbrev cX8_turn : ByteArray := prog_10_method_53_code
def yX8_turn : MethodName := ⟨RX8, "turn", "(II)I"⟩
abbrev cX8_sum : ByteArray := prog_10_method_54_code
def yX8_sum : MethodName := ⟨RX8, "sum", "(I)J"⟩
abbrev cX8_total : ByteArray := prog_10_method_55_code
def yX8_total : MethodName := ⟨RX8, "total", "(I)D"⟩
abbrev cX8_find : ByteArray := prog_10_method_56_code
def yX8_find : MethodName := ⟨RX8, "find", "(IIIII)I"⟩
abbrev cX8_areAlike : ByteArray := prog_10_method_57_code
def yX8_areAlike : MethodName := ⟨RX8, "areAlike", "(III)Z"⟩
abbrev cX8_alike : ByteArray := prog_10_method_58_code
def yX8_alike : MethodName := ⟨RX8, "alike", "(II)I"⟩
abbrev cX8_why : ByteArray := prog_10_method_59_code
def yX8_why : MethodName := ⟨RX8, "why", "()I"⟩
def RJ9 : String := "java/lang/Math"
def TJ9 : u_T := fun k => match k with
  | _ => ("", "", "", false)
def tyJ9 : Nat → FieldType := fun k => match k with
  | _ => .int
abbrev wsJ90 : List Cond := u_ws RJ9 TJ9 0
theorem tyJ9_ok : ∀ k, k < 0 → parseFieldDescriptor (TJ9 k).2.2.1 = some (tyJ9 k) := by decide +kernel
abbrev cJ9_floorMod_7cf53 : ByteArray := prog_11_method_50_code
def yJ9_floorMod_7cf53 : MethodName := ⟨RJ9, "floorMod", "(II)I"⟩
abbrev cJ9_max_7cf53 : ByteArray := prog_11_method_65_code
def yJ9_max_7cf53 : MethodName := ⟨RJ9, "max", "(II)I"⟩
abbrev cJ9_min_7cf53 : ByteArray := prog_11_method_69_code
def yJ9_min_7cf53 : MethodName := ⟨RJ9, "min", "(II)I"⟩
def RL : String := "ColumnHouseLaw"
abbrev cL_law : ByteArray := code
def yL_law : MethodName := ⟨RL, "law", "([I)Z"⟩
abbrev vwCl : List vw_C := [(RX0, TX0, 2), (RX1, TX1, 4), (RX2, TX2, 2), (RX5, TX5, 2), (RX6, TX6, 2), (RX7, TX7, 6), (RX8, TX8, 17)]
end
section
theorem dX0_init_0 : decode cX0_init 0 = .ok (.aload_n 0, 1) := by decide +kernel
theorem dX0_init_1 : decode cX0_init 1 = .ok (.iload_n 1, 1) := by decide +kernel
theorem dX0_init_2 : decode cX0_init 2 = .ok (.invokespecial 1, 3) := by decide +kernel
theorem dX0_init_5 : decode cX0_init 5 = .ok (.aload_n 0, 1) := by decide +kernel
theorem dX0_init_6 : decode cX0_init 6 = .ok (.iload_n 2, 1) := by decide +kernel
theorem dX0_init_7 : decode cX0_init 7 = .ok (.putfield 7, 3) := by decide +kernel
theorem dX0_init_10 : decode cX0_init 10 = .ok (.return_, 1) := by decide +kernel
theorem dX0_measure_0 : decode cX0_measure 0 = .ok (.aload_n 0, 1) := by decide +kernel
theorem dX0_measure_1 : decode cX0_measure 1 = .ok (.getfield 7, 3) := by decide +kernel
theorem dX0_measure_4 : decode cX0_measure 4 = .ok (.ireturn, 1) := by decide +kernel
theorem dX1_init_0 : decode cX1_init 0 = .ok (.aload_n 0, 1) := by decide +kernel
theorem dX1_init_1 : decode cX1_init 1 = .ok (.invokespecial 3, 3) := by decide +kernel
theorem dX1_init_4 : decode cX1_init 4 = .ok (.aload_n 0, 1) := by decide +kernel
theorem dX1_init_5 : decode cX1_init 5 = .ok (.iconst (-1), 1) := by decide +kernel
theorem dX1_init_6 : decode cX1_init 6 = .ok (.putfield 9, 3) := by decide +kernel
theorem dX1_init_9 : decode cX1_init 9 = .ok (.return_, 1) := by decide +kernel
theorem dX1_holdWhole_0 : decode cX1_holdWhole 0 = .ok (.aload_n 0, 1) := by decide +kernel
theorem dX1_holdWhole_1 : decode cX1_holdWhole 1 = .ok (.iload_n 1, 1) := by decide +kernel
theorem dX1_holdWhole_2 : decode cX1_holdWhole 2 = .ok (.putfield 9, 3) := by decide +kernel
theorem dX1_holdWhole_5 : decode cX1_holdWhole 5 = .ok (.aload_n 0, 1) := by decide +kernel
theorem dX1_holdWhole_6 : decode cX1_holdWhole 6 = .ok (.lload_n 2, 1) := by decide +kernel
theorem dX1_holdWhole_7 : decode cX1_holdWhole 7 = .ok (.putfield 15, 3) := by decide +kernel
theorem dX1_holdWhole_10 : decode cX1_holdWhole 10 = .ok (.return_, 1) := by decide +kernel
theorem dX1_holdPoint_0 : decode cX1_holdPoint 0 = .ok (.aload_n 0, 1) := by decide +kernel
theorem dX1_holdPoint_1 : decode cX1_holdPoint 1 = .ok (.iload_n 1, 1) := by decide +kernel
theorem dX1_holdPoint_2 : decode cX1_holdPoint 2 = .ok (.putfield 9, 3) := by decide +kernel
theorem dX1_holdPoint_5 : decode cX1_holdPoint 5 = .ok (.aload_n 0, 1) := by decide +kernel
theorem dX1_holdPoint_6 : decode cX1_holdPoint 6 = .ok (.dload_n 2, 1) := by decide +kernel
theorem dX1_holdPoint_7 : decode cX1_holdPoint 7 = .ok (.putfield 19, 3) := by decide +kernel
theorem dX1_holdPoint_10 : decode cX1_holdPoint 10 = .ok (.return_, 1) := by decide +kernel
theorem dX1_holdThing_0 : decode cX1_holdThing 0 = .ok (.aload_n 0, 1) := by decide +kernel
theorem dX1_holdThing_1 : decode cX1_holdThing 1 = .ok (.iconst (-1), 1) := by decide +kernel
theorem dX1_holdThing_2 : decode cX1_holdThing 2 = .ok (.putfield 9, 3) := by decide +kernel
theorem dX1_holdThing_5 : decode cX1_holdThing 5 = .ok (.aload_n 0, 1) := by decide +kernel
theorem dX1_holdThing_6 : decode cX1_holdThing 6 = .ok (.aload_n 1, 1) := by decide +kernel
theorem dX1_holdThing_7 : decode cX1_holdThing 7 = .ok (.putfield 23, 3) := by decide +kernel
theorem dX1_holdThing_10 : decode cX1_holdThing 10 = .ok (.return_, 1) := by decide +kernel
theorem dX1_holdTold_0 : decode cX1_holdTold 0 = .ok (.iload_n 2, 1) := by decide +kernel
theorem dX1_holdTold_1 : decode cX1_holdTold 1 = .ok (.i2l, 1) := by decide +kernel
theorem dX1_holdTold_2 : decode cX1_holdTold 2 = .ok (.bipush 32, 2) := by decide +kernel
theorem dX1_holdTold_4 : decode cX1_holdTold 4 = .ok (.lshl, 1) := by decide +kernel
theorem dX1_holdTold_5 : decode cX1_holdTold 5 = .ok (.iload_n 3, 1) := by decide +kernel
theorem dX1_holdTold_6 : decode cX1_holdTold 6 = .ok (.i2l, 1) := by decide +kernel
theorem dX1_holdTold_7 : decode cX1_holdTold 7 = .ok (.ldc2_w 27, 3) := by decide +kernel
theorem dX1_holdTold_10 : decode cX1_holdTold 10 = .ok (.land, 1) := by decide +kernel
theorem dX1_holdTold_11 : decode cX1_holdTold 11 = .ok (.lor, 1) := by decide +kernel
theorem dX1_holdTold_12 : decode cX1_holdTold 12 = .ok (.lstore 4, 2) := by decide +kernel
theorem dX1_holdTold_14 : decode cX1_holdTold 14 = .ok (.iload_n 1, 1) := by decide +kernel
theorem dX1_holdTold_15 : decode cX1_holdTold 15 = .ok (.tableswitch 138 0 7 #[45, 57, 70, 83, 96, 138, 108, 123], 45) := by decide +kernel
theorem dX1_holdTold_60 : decode cX1_holdTold 60 = .ok (.aload_n 0, 1) := by decide +kernel
theorem dX1_holdTold_61 : decode cX1_holdTold 61 = .ok (.iload_n 1, 1) := by decide +kernel
theorem dX1_holdTold_62 : decode cX1_holdTold 62 = .ok (.lload 4, 2) := by decide +kernel
theorem dX1_holdTold_64 : decode cX1_holdTold 64 = .ok (.lconst 1, 1) := by decide +kernel
theorem dX1_holdTold_65 : decode cX1_holdTold 65 = .ok (.land, 1) := by decide +kernel
theorem dX1_holdTold_66 : decode cX1_holdTold 66 = .ok (.invokevirtual 29, 3) := by decide +kernel
theorem dX1_holdTold_69 : decode cX1_holdTold 69 = .ok (.goto 91, 3) := by decide +kernel
theorem dX1_holdTold_72 : decode cX1_holdTold 72 = .ok (.aload_n 0, 1) := by decide +kernel
theorem dX1_holdTold_73 : decode cX1_holdTold 73 = .ok (.iload_n 1, 1) := by decide +kernel
theorem dX1_holdTold_74 : decode cX1_holdTold 74 = .ok (.lload 4, 2) := by decide +kernel
theorem dX1_holdTold_76 : decode cX1_holdTold 76 = .ok (.l2i, 1) := by decide +kernel
theorem dX1_holdTold_77 : decode cX1_holdTold 77 = .ok (.i2b, 1) := by decide +kernel
theorem dX1_holdTold_78 : decode cX1_holdTold 78 = .ok (.i2l, 1) := by decide +kernel
theorem dX1_holdTold_79 : decode cX1_holdTold 79 = .ok (.invokevirtual 29, 3) := by decide +kernel
theorem dX1_holdTold_82 : decode cX1_holdTold 82 = .ok (.goto 78, 3) := by decide +kernel
theorem dX1_holdTold_85 : decode cX1_holdTold 85 = .ok (.aload_n 0, 1) := by decide +kernel
theorem dX1_holdTold_86 : decode cX1_holdTold 86 = .ok (.iload_n 1, 1) := by decide +kernel
theorem dX1_holdTold_87 : decode cX1_holdTold 87 = .ok (.lload 4, 2) := by decide +kernel
theorem dX1_holdTold_89 : decode cX1_holdTold 89 = .ok (.l2i, 1) := by decide +kernel
theorem dX1_holdTold_90 : decode cX1_holdTold 90 = .ok (.i2c, 1) := by decide +kernel
theorem dX1_holdTold_91 : decode cX1_holdTold 91 = .ok (.i2l, 1) := by decide +kernel
theorem dX1_holdTold_92 : decode cX1_holdTold 92 = .ok (.invokevirtual 29, 3) := by decide +kernel
theorem dX1_holdTold_95 : decode cX1_holdTold 95 = .ok (.goto 65, 3) := by decide +kernel
theorem dX1_holdTold_98 : decode cX1_holdTold 98 = .ok (.aload_n 0, 1) := by decide +kernel
theorem dX1_holdTold_99 : decode cX1_holdTold 99 = .ok (.iload_n 1, 1) := by decide +kernel
theorem dX1_holdTold_100 : decode cX1_holdTold 100 = .ok (.lload 4, 2) := by decide +kernel
theorem dX1_holdTold_102 : decode cX1_holdTold 102 = .ok (.l2i, 1) := by decide +kernel
theorem dX1_holdTold_103 : decode cX1_holdTold 103 = .ok (.i2s, 1) := by decide +kernel
theorem dX1_holdTold_104 : decode cX1_holdTold 104 = .ok (.i2l, 1) := by decide +kernel
theorem dX1_holdTold_105 : decode cX1_holdTold 105 = .ok (.invokevirtual 29, 3) := by decide +kernel
theorem dX1_holdTold_108 : decode cX1_holdTold 108 = .ok (.goto 52, 3) := by decide +kernel
theorem dX1_holdTold_111 : decode cX1_holdTold 111 = .ok (.aload_n 0, 1) := by decide +kernel
theorem dX1_holdTold_112 : decode cX1_holdTold 112 = .ok (.iload_n 1, 1) := by decide +kernel
theorem dX1_holdTold_113 : decode cX1_holdTold 113 = .ok (.lload 4, 2) := by decide +kernel
theorem dX1_holdTold_115 : decode cX1_holdTold 115 = .ok (.l2i, 1) := by decide +kernel
theorem dX1_holdTold_116 : decode cX1_holdTold 116 = .ok (.i2l, 1) := by decide +kernel
theorem dX1_holdTold_117 : decode cX1_holdTold 117 = .ok (.invokevirtual 29, 3) := by decide +kernel
theorem dX1_holdTold_120 : decode cX1_holdTold 120 = .ok (.goto 40, 3) := by decide +kernel
theorem dX1_holdTold_123 : decode cX1_holdTold 123 = .ok (.aload_n 0, 1) := by decide +kernel
theorem dX1_holdTold_124 : decode cX1_holdTold 124 = .ok (.iload_n 1, 1) := by decide +kernel
theorem dX1_holdTold_125 : decode cX1_holdTold 125 = .ok (.lload 4, 2) := by decide +kernel
theorem dX1_holdTold_127 : decode cX1_holdTold 127 = .ok (.l2f, 1) := by decide +kernel
theorem dX1_holdTold_128 : decode cX1_holdTold 128 = .ok (.ldc 33, 2) := by decide +kernel
theorem dX1_holdTold_130 : decode cX1_holdTold 130 = .ok (.fdiv, 1) := by decide +kernel
theorem dX1_holdTold_131 : decode cX1_holdTold 131 = .ok (.f2d, 1) := by decide +kernel
theorem dX1_holdTold_132 : decode cX1_holdTold 132 = .ok (.invokevirtual 34, 3) := by decide +kernel
theorem dX1_holdTold_135 : decode cX1_holdTold 135 = .ok (.goto 25, 3) := by decide +kernel
theorem dX1_holdTold_138 : decode cX1_holdTold 138 = .ok (.aload_n 0, 1) := by decide +kernel
theorem dX1_holdTold_139 : decode cX1_holdTold 139 = .ok (.iload_n 1, 1) := by decide +kernel
theorem dX1_holdTold_140 : decode cX1_holdTold 140 = .ok (.lload 4, 2) := by decide +kernel
theorem dX1_holdTold_142 : decode cX1_holdTold 142 = .ok (.l2d, 1) := by decide +kernel
theorem dX1_holdTold_143 : decode cX1_holdTold 143 = .ok (.ldc2_w 38, 3) := by decide +kernel
theorem dX1_holdTold_146 : decode cX1_holdTold 146 = .ok (.ddiv, 1) := by decide +kernel
theorem dX1_holdTold_147 : decode cX1_holdTold 147 = .ok (.invokevirtual 34, 3) := by decide +kernel
theorem dX1_holdTold_150 : decode cX1_holdTold 150 = .ok (.goto 10, 3) := by decide +kernel
theorem dX1_holdTold_153 : decode cX1_holdTold 153 = .ok (.aload_n 0, 1) := by decide +kernel
theorem dX1_holdTold_154 : decode cX1_holdTold 154 = .ok (.iload_n 1, 1) := by decide +kernel
theorem dX1_holdTold_155 : decode cX1_holdTold 155 = .ok (.lload 4, 2) := by decide +kernel
theorem dX1_holdTold_157 : decode cX1_holdTold 157 = .ok (.invokevirtual 29, 3) := by decide +kernel
theorem dX1_holdTold_160 : decode cX1_holdTold 160 = .ok (.return_, 1) := by decide +kernel
theorem dX1_isValue_0 : decode cX1_isValue 0 = .ok (.aload_n 0, 1) := by decide +kernel
theorem dX1_isValue_1 : decode cX1_isValue 1 = .ok (.getfield 9, 3) := by decide +kernel
theorem dX1_isValue_4 : decode cX1_isValue 4 = .ok (.iconst (-1), 1) := by decide +kernel
theorem dX1_isValue_5 : decode cX1_isValue 5 = .ok (.if_icmp .eq 7, 3) := by decide +kernel
theorem dX1_isValue_8 : decode cX1_isValue 8 = .ok (.iconst 1, 1) := by decide +kernel
theorem dX1_isValue_9 : decode cX1_isValue 9 = .ok (.goto 4, 3) := by decide +kernel
theorem dX1_isValue_12 : decode cX1_isValue 12 = .ok (.iconst 0, 1) := by decide +kernel
theorem dX1_isValue_13 : decode cX1_isValue 13 = .ok (.ireturn, 1) := by decide +kernel
theorem dX1_isWhole_0 : decode cX1_isWhole 0 = .ok (.aload_n 0, 1) := by decide +kernel
theorem dX1_isWhole_1 : decode cX1_isWhole 1 = .ok (.getfield 9, 3) := by decide +kernel
theorem dX1_isWhole_4 : decode cX1_isWhole 4 = .ok (.ifCond .lt 15, 3) := by decide +kernel
theorem dX1_isWhole_7 : decode cX1_isWhole 7 = .ok (.aload_n 0, 1) := by decide +kernel
theorem dX1_isWhole_8 : decode cX1_isWhole 8 = .ok (.getfield 9, 3) := by decide +kernel
theorem dX1_isWhole_11 : decode cX1_isWhole 11 = .ok (.iconst 5, 1) := by decide +kernel
theorem dX1_isWhole_12 : decode cX1_isWhole 12 = .ok (.if_icmp .gt 7, 3) := by decide +kernel
theorem dX1_isWhole_15 : decode cX1_isWhole 15 = .ok (.iconst 1, 1) := by decide +kernel
theorem dX1_isWhole_16 : decode cX1_isWhole 16 = .ok (.goto 4, 3) := by decide +kernel
theorem dX1_isWhole_19 : decode cX1_isWhole 19 = .ok (.iconst 0, 1) := by decide +kernel
theorem dX1_isWhole_20 : decode cX1_isWhole 20 = .ok (.ireturn, 1) := by decide +kernel
theorem dX1_pointAs_0 : decode cX1_pointAs 0 = .ok (.aload_n 0, 1) := by decide +kernel
theorem dX1_pointAs_1 : decode cX1_pointAs 1 = .ok (.invokevirtual 40, 3) := by decide +kernel
theorem dX1_pointAs_4 : decode cX1_pointAs 4 = .ok (.ifCond .ne 8, 3) := by decide +kernel
theorem dX1_pointAs_7 : decode cX1_pointAs 7 = .ok (.aload_n 0, 1) := by decide +kernel
theorem dX1_pointAs_8 : decode cX1_pointAs 8 = .ok (.getfield 19, 3) := by decide +kernel
theorem dX1_pointAs_11 : decode cX1_pointAs 11 = .ok (.dreturn, 1) := by decide +kernel
theorem dX1_pointAs_12 : decode cX1_pointAs 12 = .ok (.iload_n 1, 1) := by decide +kernel
theorem dX1_pointAs_13 : decode cX1_pointAs 13 = .ok (.bipush 6, 2) := by decide +kernel
theorem dX1_pointAs_15 : decode cX1_pointAs 15 = .ok (.if_icmp .ne 12, 3) := by decide +kernel
theorem dX1_pointAs_18 : decode cX1_pointAs 18 = .ok (.aload_n 0, 1) := by decide +kernel
theorem dX1_pointAs_19 : decode cX1_pointAs 19 = .ok (.getfield 15, 3) := by decide +kernel
theorem dX1_pointAs_22 : decode cX1_pointAs 22 = .ok (.l2f, 1) := by decide +kernel
theorem dX1_pointAs_23 : decode cX1_pointAs 23 = .ok (.f2d, 1) := by decide +kernel
theorem dX1_pointAs_24 : decode cX1_pointAs 24 = .ok (.goto 8, 3) := by decide +kernel
theorem dX1_pointAs_27 : decode cX1_pointAs 27 = .ok (.aload_n 0, 1) := by decide +kernel
theorem dX1_pointAs_28 : decode cX1_pointAs 28 = .ok (.getfield 15, 3) := by decide +kernel
theorem dX1_pointAs_31 : decode cX1_pointAs 31 = .ok (.l2d, 1) := by decide +kernel
theorem dX1_pointAs_32 : decode cX1_pointAs 32 = .ok (.dreturn, 1) := by decide +kernel
theorem dX1_isLike_0 : decode cX1_isLike 0 = .ok (.aload_n 0, 1) := by decide +kernel
theorem dX1_isLike_1 : decode cX1_isLike 1 = .ok (.invokevirtual 44, 3) := by decide +kernel
theorem dX1_isLike_4 : decode cX1_isLike 4 = .ok (.ifCond .eq 10, 3) := by decide +kernel
theorem dX1_isLike_7 : decode cX1_isLike 7 = .ok (.aload_n 1, 1) := by decide +kernel
theorem dX1_isLike_8 : decode cX1_isLike 8 = .ok (.invokevirtual 44, 3) := by decide +kernel
theorem dX1_isLike_11 : decode cX1_isLike 11 = .ok (.ifCond .ne 31, 3) := by decide +kernel
theorem dX1_isLike_14 : decode cX1_isLike 14 = .ok (.aload_n 0, 1) := by decide +kernel
theorem dX1_isLike_15 : decode cX1_isLike 15 = .ok (.invokevirtual 44, 3) := by decide +kernel
theorem dX1_isLike_18 : decode cX1_isLike 18 = .ok (.aload_n 1, 1) := by decide +kernel
theorem dX1_isLike_19 : decode cX1_isLike 19 = .ok (.invokevirtual 44, 3) := by decide +kernel
theorem dX1_isLike_22 : decode cX1_isLike 22 = .ok (.if_icmp .ne 18, 3) := by decide +kernel
theorem dX1_isLike_25 : decode cX1_isLike 25 = .ok (.aload_n 0, 1) := by decide +kernel
theorem dX1_isLike_26 : decode cX1_isLike 26 = .ok (.getfield 23, 3) := by decide +kernel
theorem dX1_isLike_29 : decode cX1_isLike 29 = .ok (.aload_n 1, 1) := by decide +kernel
theorem dX1_isLike_30 : decode cX1_isLike 30 = .ok (.getfield 23, 3) := by decide +kernel
theorem dX1_isLike_33 : decode cX1_isLike 33 = .ok (.if_acmp .ne 7, 3) := by decide +kernel
theorem dX1_isLike_36 : decode cX1_isLike 36 = .ok (.iconst 1, 1) := by decide +kernel
theorem dX1_isLike_37 : decode cX1_isLike 37 = .ok (.goto 4, 3) := by decide +kernel
theorem dX1_isLike_40 : decode cX1_isLike 40 = .ok (.iconst 0, 1) := by decide +kernel
theorem dX1_isLike_41 : decode cX1_isLike 41 = .ok (.ireturn, 1) := by decide +kernel
theorem dX1_isLike_42 : decode cX1_isLike 42 = .ok (.aload_n 0, 1) := by decide +kernel
theorem dX1_isLike_43 : decode cX1_isLike 43 = .ok (.getfield 9, 3) := by decide +kernel
theorem dX1_isLike_46 : decode cX1_isLike 46 = .ok (.ifCond .ne 7, 3) := by decide +kernel
theorem dX1_isLike_49 : decode cX1_isLike 49 = .ok (.iconst 1, 1) := by decide +kernel
theorem dX1_isLike_50 : decode cX1_isLike 50 = .ok (.goto 4, 3) := by decide +kernel
theorem dX1_isLike_53 : decode cX1_isLike 53 = .ok (.iconst 0, 1) := by decide +kernel
theorem dX1_isLike_54 : decode cX1_isLike 54 = .ok (.aload_n 1, 1) := by decide +kernel
theorem dX1_isLike_55 : decode cX1_isLike 55 = .ok (.getfield 9, 3) := by decide +kernel
theorem dX1_isLike_58 : decode cX1_isLike 58 = .ok (.ifCond .ne 7, 3) := by decide +kernel
theorem dX1_isLike_61 : decode cX1_isLike 61 = .ok (.iconst 1, 1) := by decide +kernel
theorem dX1_isLike_62 : decode cX1_isLike 62 = .ok (.goto 4, 3) := by decide +kernel
theorem dX1_isLike_65 : decode cX1_isLike 65 = .ok (.iconst 0, 1) := by decide +kernel
theorem dX1_isLike_66 : decode cX1_isLike 66 = .ok (.if_icmp .eq 5, 3) := by decide +kernel
theorem dX1_isLike_69 : decode cX1_isLike 69 = .ok (.iconst 0, 1) := by decide +kernel
theorem dX1_isLike_70 : decode cX1_isLike 70 = .ok (.ireturn, 1) := by decide +kernel
theorem dX1_isLike_71 : decode cX1_isLike 71 = .ok (.aload_n 0, 1) := by decide +kernel
theorem dX1_isLike_72 : decode cX1_isLike 72 = .ok (.invokevirtual 40, 3) := by decide +kernel
theorem dX1_isLike_75 : decode cX1_isLike 75 = .ok (.ifCond .eq 28, 3) := by decide +kernel
theorem dX1_isLike_78 : decode cX1_isLike 78 = .ok (.aload_n 1, 1) := by decide +kernel
theorem dX1_isLike_79 : decode cX1_isLike 79 = .ok (.invokevirtual 40, 3) := by decide +kernel
theorem dX1_isLike_82 : decode cX1_isLike 82 = .ok (.ifCond .eq 21, 3) := by decide +kernel
theorem dX1_isLike_85 : decode cX1_isLike 85 = .ok (.aload_n 0, 1) := by decide +kernel
theorem dX1_isLike_86 : decode cX1_isLike 86 = .ok (.getfield 15, 3) := by decide +kernel
theorem dX1_isLike_89 : decode cX1_isLike 89 = .ok (.aload_n 1, 1) := by decide +kernel
theorem dX1_isLike_90 : decode cX1_isLike 90 = .ok (.getfield 15, 3) := by decide +kernel
theorem dX1_isLike_93 : decode cX1_isLike 93 = .ok (.lcmp, 1) := by decide +kernel
theorem dX1_isLike_94 : decode cX1_isLike 94 = .ok (.ifCond .ne 7, 3) := by decide +kernel
theorem dX1_isLike_97 : decode cX1_isLike 97 = .ok (.iconst 1, 1) := by decide +kernel
theorem dX1_isLike_98 : decode cX1_isLike 98 = .ok (.goto 4, 3) := by decide +kernel
theorem dX1_isLike_101 : decode cX1_isLike 101 = .ok (.iconst 0, 1) := by decide +kernel
theorem dX1_isLike_102 : decode cX1_isLike 102 = .ok (.ireturn, 1) := by decide +kernel
theorem dX1_isLike_103 : decode cX1_isLike 103 = .ok (.aload_n 0, 1) := by decide +kernel
theorem dX1_isLike_104 : decode cX1_isLike 104 = .ok (.bipush 7, 2) := by decide +kernel
theorem dX1_isLike_106 : decode cX1_isLike 106 = .ok (.invokevirtual 47, 3) := by decide +kernel
theorem dX1_isLike_109 : decode cX1_isLike 109 = .ok (.aload_n 1, 1) := by decide +kernel
theorem dX1_isLike_110 : decode cX1_isLike 110 = .ok (.bipush 7, 2) := by decide +kernel
theorem dX1_isLike_112 : decode cX1_isLike 112 = .ok (.invokevirtual 47, 3) := by decide +kernel
theorem dX1_isLike_115 : decode cX1_isLike 115 = .ok (.dcmp .l, 1) := by decide +kernel
theorem dX1_isLike_116 : decode cX1_isLike 116 = .ok (.ifCond .ne 7, 3) := by decide +kernel
theorem dX1_isLike_119 : decode cX1_isLike 119 = .ok (.iconst 1, 1) := by decide +kernel
theorem dX1_isLike_120 : decode cX1_isLike 120 = .ok (.goto 4, 3) := by decide +kernel
theorem dX1_isLike_123 : decode cX1_isLike 123 = .ok (.iconst 0, 1) := by decide +kernel
theorem dX1_isLike_124 : decode cX1_isLike 124 = .ok (.ireturn, 1) := by decide +kernel
theorem dX1_isLess_0 : decode cX1_isLess 0 = .ok (.aload_n 0, 1) := by decide +kernel
theorem dX1_isLess_1 : decode cX1_isLess 1 = .ok (.invokevirtual 40, 3) := by decide +kernel
theorem dX1_isLess_4 : decode cX1_isLess 4 = .ok (.ifCond .eq 28, 3) := by decide +kernel
theorem dX1_isLess_7 : decode cX1_isLess 7 = .ok (.aload_n 1, 1) := by decide +kernel
theorem dX1_isLess_8 : decode cX1_isLess 8 = .ok (.invokevirtual 40, 3) := by decide +kernel
theorem dX1_isLess_11 : decode cX1_isLess 11 = .ok (.ifCond .eq 21, 3) := by decide +kernel
theorem dX1_isLess_14 : decode cX1_isLess 14 = .ok (.aload_n 0, 1) := by decide +kernel
theorem dX1_isLess_15 : decode cX1_isLess 15 = .ok (.getfield 15, 3) := by decide +kernel
theorem dX1_isLess_18 : decode cX1_isLess 18 = .ok (.aload_n 1, 1) := by decide +kernel
theorem dX1_isLess_19 : decode cX1_isLess 19 = .ok (.getfield 15, 3) := by decide +kernel
theorem dX1_isLess_22 : decode cX1_isLess 22 = .ok (.lcmp, 1) := by decide +kernel
theorem dX1_isLess_23 : decode cX1_isLess 23 = .ok (.ifCond .ge 7, 3) := by decide +kernel
theorem dX1_isLess_26 : decode cX1_isLess 26 = .ok (.iconst 1, 1) := by decide +kernel
theorem dX1_isLess_27 : decode cX1_isLess 27 = .ok (.goto 4, 3) := by decide +kernel
theorem dX1_isLess_30 : decode cX1_isLess 30 = .ok (.iconst 0, 1) := by decide +kernel
theorem dX1_isLess_31 : decode cX1_isLess 31 = .ok (.ireturn, 1) := by decide +kernel
theorem dX1_isLess_32 : decode cX1_isLess 32 = .ok (.aload_n 0, 1) := by decide +kernel
theorem dX1_isLess_33 : decode cX1_isLess 33 = .ok (.bipush 7, 2) := by decide +kernel
theorem dX1_isLess_35 : decode cX1_isLess 35 = .ok (.invokevirtual 47, 3) := by decide +kernel
theorem dX1_isLess_38 : decode cX1_isLess 38 = .ok (.aload_n 1, 1) := by decide +kernel
theorem dX1_isLess_39 : decode cX1_isLess 39 = .ok (.bipush 7, 2) := by decide +kernel
theorem dX1_isLess_41 : decode cX1_isLess 41 = .ok (.invokevirtual 47, 3) := by decide +kernel
theorem dX1_isLess_44 : decode cX1_isLess 44 = .ok (.dcmp .g, 1) := by decide +kernel
theorem dX1_isLess_45 : decode cX1_isLess 45 = .ok (.ifCond .ge 7, 3) := by decide +kernel
theorem dX1_isLess_48 : decode cX1_isLess 48 = .ok (.iconst 1, 1) := by decide +kernel
theorem dX1_isLess_49 : decode cX1_isLess 49 = .ok (.goto 4, 3) := by decide +kernel
theorem dX1_isLess_52 : decode cX1_isLess 52 = .ok (.iconst 0, 1) := by decide +kernel
theorem dX1_isLess_53 : decode cX1_isLess 53 = .ok (.ireturn, 1) := by decide +kernel
theorem dX1_comesBefore_0 : decode cX1_comesBefore 0 = .ok (.aload_n 0, 1) := by decide +kernel
theorem dX1_comesBefore_1 : decode cX1_comesBefore 1 = .ok (.invokevirtual 44, 3) := by decide +kernel
theorem dX1_comesBefore_4 : decode cX1_comesBefore 4 = .ok (.ifCond .eq 9, 3) := by decide +kernel
theorem dX1_comesBefore_7 : decode cX1_comesBefore 7 = .ok (.aload_n 0, 1) := by decide +kernel
theorem dX1_comesBefore_8 : decode cX1_comesBefore 8 = .ok (.aload_n 1, 1) := by decide +kernel
theorem dX1_comesBefore_9 : decode cX1_comesBefore 9 = .ok (.invokevirtual 51, 3) := by decide +kernel
theorem dX1_comesBefore_12 : decode cX1_comesBefore 12 = .ok (.ireturn, 1) := by decide +kernel
theorem dX1_comesBefore_13 : decode cX1_comesBefore 13 = .ok (.aload_n 0, 1) := by decide +kernel
theorem dX1_comesBefore_14 : decode cX1_comesBefore 14 = .ok (.getfield 23, 3) := by decide +kernel
theorem dX1_comesBefore_17 : decode cX1_comesBefore 17 = .ok (.ifnull 10, 3) := by decide +kernel
theorem dX1_comesBefore_20 : decode cX1_comesBefore 20 = .ok (.aload_n 1, 1) := by decide +kernel
theorem dX1_comesBefore_21 : decode cX1_comesBefore 21 = .ok (.getfield 23, 3) := by decide +kernel
theorem dX1_comesBefore_24 : decode cX1_comesBefore 24 = .ok (.ifnonnull 23, 3) := by decide +kernel
theorem dX1_comesBefore_27 : decode cX1_comesBefore 27 = .ok (.aload_n 0, 1) := by decide +kernel
theorem dX1_comesBefore_28 : decode cX1_comesBefore 28 = .ok (.getfield 23, 3) := by decide +kernel
theorem dX1_comesBefore_31 : decode cX1_comesBefore 31 = .ok (.ifnonnull 14, 3) := by decide +kernel
theorem dX1_comesBefore_34 : decode cX1_comesBefore 34 = .ok (.aload_n 1, 1) := by decide +kernel
theorem dX1_comesBefore_35 : decode cX1_comesBefore 35 = .ok (.getfield 23, 3) := by decide +kernel
theorem dX1_comesBefore_38 : decode cX1_comesBefore 38 = .ok (.ifnull 7, 3) := by decide +kernel
theorem dX1_comesBefore_41 : decode cX1_comesBefore 41 = .ok (.iconst 1, 1) := by decide +kernel
theorem dX1_comesBefore_42 : decode cX1_comesBefore 42 = .ok (.goto 4, 3) := by decide +kernel
theorem dX1_comesBefore_45 : decode cX1_comesBefore 45 = .ok (.iconst 0, 1) := by decide +kernel
theorem dX1_comesBefore_46 : decode cX1_comesBefore 46 = .ok (.ireturn, 1) := by decide +kernel
theorem dX1_comesBefore_47 : decode cX1_comesBefore 47 = .ok (.aload_n 0, 1) := by decide +kernel
theorem dX1_comesBefore_48 : decode cX1_comesBefore 48 = .ok (.getfield 23, 3) := by decide +kernel
theorem dX1_comesBefore_51 : decode cX1_comesBefore 51 = .ok (.invokevirtual 55, 3) := by decide +kernel
theorem dX1_comesBefore_54 : decode cX1_comesBefore 54 = .ok (.aload_n 1, 1) := by decide +kernel
theorem dX1_comesBefore_55 : decode cX1_comesBefore 55 = .ok (.getfield 23, 3) := by decide +kernel
theorem dX1_comesBefore_58 : decode cX1_comesBefore 58 = .ok (.invokevirtual 55, 3) := by decide +kernel
theorem dX1_comesBefore_61 : decode cX1_comesBefore 61 = .ok (.if_icmp .ge 7, 3) := by decide +kernel
theorem dX1_comesBefore_64 : decode cX1_comesBefore 64 = .ok (.iconst 1, 1) := by decide +kernel
theorem dX1_comesBefore_65 : decode cX1_comesBefore 65 = .ok (.goto 4, 3) := by decide +kernel
theorem dX1_comesBefore_68 : decode cX1_comesBefore 68 = .ok (.iconst 0, 1) := by decide +kernel
theorem dX1_comesBefore_69 : decode cX1_comesBefore 69 = .ok (.ireturn, 1) := by decide +kernel
theorem dX2_init_0 : decode cX2_init 0 = .ok (.aload_n 0, 1) := by decide +kernel
theorem dX2_init_1 : decode cX2_init 1 = .ok (.iload_n 1, 1) := by decide +kernel
theorem dX2_init_2 : decode cX2_init 2 = .ok (.invokespecial 1, 3) := by decide +kernel
theorem dX2_init_5 : decode cX2_init 5 = .ok (.aload_n 0, 1) := by decide +kernel
theorem dX2_init_6 : decode cX2_init 6 = .ok (.iload_n 2, 1) := by decide +kernel
theorem dX2_init_7 : decode cX2_init 7 = .ok (.newarray .double, 2) := by decide +kernel
theorem dX2_init_9 : decode cX2_init 9 = .ok (.putfield 7, 3) := by decide +kernel
theorem dX2_init_12 : decode cX2_init 12 = .ok (.return_, 1) := by decide +kernel
theorem dX2_length_0 : decode cX2_length 0 = .ok (.aload_n 0, 1) := by decide +kernel
theorem dX2_length_1 : decode cX2_length 1 = .ok (.getfield 7, 3) := by decide +kernel
theorem dX2_length_4 : decode cX2_length 4 = .ok (.arraylength, 1) := by decide +kernel
theorem dX2_length_5 : decode cX2_length 5 = .ok (.ireturn, 1) := by decide +kernel
theorem dX2_read_0 : decode cX2_read 0 = .ok (.aload_n 2, 1) := by decide +kernel
theorem dX2_read_1 : decode cX2_read 1 = .ok (.aload_n 0, 1) := by decide +kernel
theorem dX2_read_2 : decode cX2_read 2 = .ok (.getfield 13, 3) := by decide +kernel
theorem dX2_read_5 : decode cX2_read 5 = .ok (.aload_n 0, 1) := by decide +kernel
theorem dX2_read_6 : decode cX2_read 6 = .ok (.getfield 7, 3) := by decide +kernel
theorem dX2_read_9 : decode cX2_read 9 = .ok (.iload_n 1, 1) := by decide +kernel
theorem dX2_read_10 : decode cX2_read 10 = .ok (.daload, 1) := by decide +kernel
theorem dX2_read_11 : decode cX2_read 11 = .ok (.invokevirtual 17, 3) := by decide +kernel
theorem dX2_read_14 : decode cX2_read 14 = .ok (.return_, 1) := by decide +kernel
theorem dX2_write_0 : decode cX2_write 0 = .ok (.aload_n 0, 1) := by decide +kernel
theorem dX2_write_1 : decode cX2_write 1 = .ok (.getfield 7, 3) := by decide +kernel
theorem dX2_write_4 : decode cX2_write 4 = .ok (.iload_n 1, 1) := by decide +kernel
theorem dX2_write_5 : decode cX2_write 5 = .ok (.aload_n 2, 1) := by decide +kernel
theorem dX2_write_6 : decode cX2_write 6 = .ok (.aload_n 0, 1) := by decide +kernel
theorem dX2_write_7 : decode cX2_write 7 = .ok (.getfield 13, 3) := by decide +kernel
theorem dX2_write_10 : decode cX2_write 10 = .ok (.invokevirtual 23, 3) := by decide +kernel
theorem dX2_write_13 : decode cX2_write 13 = .ok (.dastore, 1) := by decide +kernel
theorem dX2_write_14 : decode cX2_write 14 = .ok (.return_, 1) := by decide +kernel
theorem dX3_init_0 : decode cX3_init 0 = .ok (.aload_n 0, 1) := by decide +kernel
theorem dX3_init_1 : decode cX3_init 1 = .ok (.iload_n 1, 1) := by decide +kernel
theorem dX3_init_2 : decode cX3_init 2 = .ok (.invokespecial 3, 3) := by decide +kernel
theorem dX3_init_5 : decode cX3_init 5 = .ok (.return_, 1) := by decide +kernel
theorem dX3_measure_0 : decode cX3_measure 0 = .ok (.aload_n 0, 1) := by decide +kernel
theorem dX3_measure_1 : decode cX3_measure 1 = .ok (.invokevirtual 9, 3) := by decide +kernel
theorem dX3_measure_4 : decode cX3_measure 4 = .ok (.ireturn, 1) := by decide +kernel
theorem dX3_has_0 : decode cX3_has 0 = .ok (.iload_n 1, 1) := by decide +kernel
theorem dX3_has_1 : decode cX3_has 1 = .ok (.ifCond .lt 15, 3) := by decide +kernel
theorem dX3_has_4 : decode cX3_has 4 = .ok (.iload_n 1, 1) := by decide +kernel
theorem dX3_has_5 : decode cX3_has 5 = .ok (.aload_n 0, 1) := by decide +kernel
theorem dX3_has_6 : decode cX3_has 6 = .ok (.invokevirtual 9, 3) := by decide +kernel
theorem dX3_has_9 : decode cX3_has 9 = .ok (.if_icmp .ge 7, 3) := by decide +kernel
theorem dX3_has_12 : decode cX3_has 12 = .ok (.iconst 1, 1) := by decide +kernel
theorem dX3_has_13 : decode cX3_has 13 = .ok (.goto 4, 3) := by decide +kernel
theorem dX3_has_16 : decode cX3_has 16 = .ok (.iconst 0, 1) := by decide +kernel
theorem dX3_has_17 : decode cX3_has 17 = .ok (.ireturn, 1) := by decide +kernel
theorem dX3_isPlain_0 : decode cX3_isPlain 0 = .ok (.aload_n 0, 1) := by decide +kernel
theorem dX3_isPlain_1 : decode cX3_isPlain 1 = .ok (.getfield 15, 3) := by decide +kernel
theorem dX3_isPlain_4 : decode cX3_isPlain 4 = .ok (.bipush 7, 2) := by decide +kernel
theorem dX3_isPlain_6 : decode cX3_isPlain 6 = .ok (.if_icmp .gt 7, 3) := by decide +kernel
theorem dX3_isPlain_9 : decode cX3_isPlain 9 = .ok (.iconst 1, 1) := by decide +kernel
theorem dX3_isPlain_10 : decode cX3_isPlain 10 = .ok (.goto 4, 3) := by decide +kernel
theorem dX3_isPlain_13 : decode cX3_isPlain 13 = .ok (.iconst 0, 1) := by decide +kernel
theorem dX3_isPlain_14 : decode cX3_isPlain 14 = .ok (.ireturn, 1) := by decide +kernel
theorem dX3_goesAs_0 : decode cX3_goesAs 0 = .ok (.aload_n 0, 1) := by decide +kernel
theorem dX3_goesAs_1 : decode cX3_goesAs 1 = .ok (.invokevirtual 19, 3) := by decide +kernel
theorem dX3_goesAs_4 : decode cX3_goesAs 4 = .ok (.ifCond .eq 18, 3) := by decide +kernel
theorem dX3_goesAs_7 : decode cX3_goesAs 7 = .ok (.aload_n 0, 1) := by decide +kernel
theorem dX3_goesAs_8 : decode cX3_goesAs 8 = .ok (.getfield 15, 3) := by decide +kernel
theorem dX3_goesAs_11 : decode cX3_goesAs 11 = .ok (.iload_n 1, 1) := by decide +kernel
theorem dX3_goesAs_12 : decode cX3_goesAs 12 = .ok (.invokestatic 23, 3) := by decide +kernel
theorem dX3_goesAs_15 : decode cX3_goesAs 15 = .ok (.ifCond .eq 7, 3) := by decide +kernel
theorem dX3_goesAs_18 : decode cX3_goesAs 18 = .ok (.iconst 1, 1) := by decide +kernel
theorem dX3_goesAs_19 : decode cX3_goesAs 19 = .ok (.goto 4, 3) := by decide +kernel
theorem dX3_goesAs_22 : decode cX3_goesAs 22 = .ok (.iconst 0, 1) := by decide +kernel
theorem dX3_goesAs_23 : decode cX3_goesAs 23 = .ok (.ireturn, 1) := by decide +kernel
theorem dX3_takes_0 : decode cX3_takes 0 = .ok (.aload_n 1, 1) := by decide +kernel
theorem dX3_takes_1 : decode cX3_takes 1 = .ok (.invokevirtual 27, 3) := by decide +kernel
theorem dX3_takes_4 : decode cX3_takes 4 = .ok (.ifCond .eq 30, 3) := by decide +kernel
theorem dX3_takes_7 : decode cX3_takes 7 = .ok (.aload_n 0, 1) := by decide +kernel
theorem dX3_takes_8 : decode cX3_takes 8 = .ok (.invokevirtual 19, 3) := by decide +kernel
theorem dX3_takes_11 : decode cX3_takes 11 = .ok (.ifCond .eq 21, 3) := by decide +kernel
theorem dX3_takes_14 : decode cX3_takes 14 = .ok (.aload_n 1, 1) := by decide +kernel
theorem dX3_takes_15 : decode cX3_takes 15 = .ok (.getfield 32, 3) := by decide +kernel
theorem dX3_takes_18 : decode cX3_takes 18 = .ok (.aload_n 0, 1) := by decide +kernel
theorem dX3_takes_19 : decode cX3_takes 19 = .ok (.getfield 15, 3) := by decide +kernel
theorem dX3_takes_22 : decode cX3_takes 22 = .ok (.invokestatic 23, 3) := by decide +kernel
theorem dX3_takes_25 : decode cX3_takes 25 = .ok (.ifCond .eq 7, 3) := by decide +kernel
theorem dX3_takes_28 : decode cX3_takes 28 = .ok (.iconst 1, 1) := by decide +kernel
theorem dX3_takes_29 : decode cX3_takes 29 = .ok (.goto 4, 3) := by decide +kernel
theorem dX3_takes_32 : decode cX3_takes 32 = .ok (.iconst 0, 1) := by decide +kernel
theorem dX3_takes_33 : decode cX3_takes 33 = .ok (.ireturn, 1) := by decide +kernel
theorem dX3_takes_34 : decode cX3_takes 34 = .ok (.aload_n 0, 1) := by decide +kernel
theorem dX3_takes_35 : decode cX3_takes 35 = .ok (.invokevirtual 19, 3) := by decide +kernel
theorem dX3_takes_38 : decode cX3_takes 38 = .ok (.ifCond .ne 31, 3) := by decide +kernel
theorem dX3_takes_41 : decode cX3_takes 41 = .ok (.aload_n 1, 1) := by decide +kernel
theorem dX3_takes_42 : decode cX3_takes 42 = .ok (.getfield 35, 3) := by decide +kernel
theorem dX3_takes_45 : decode cX3_takes 45 = .ok (.ifnull 20, 3) := by decide +kernel
theorem dX3_takes_48 : decode cX3_takes 48 = .ok (.aload_n 1, 1) := by decide +kernel
theorem dX3_takes_49 : decode cX3_takes 49 = .ok (.getfield 35, 3) := by decide +kernel
theorem dX3_takes_52 : decode cX3_takes 52 = .ok (.getfield 39, 3) := by decide +kernel
theorem dX3_takes_55 : decode cX3_takes 55 = .ok (.aload_n 0, 1) := by decide +kernel
theorem dX3_takes_56 : decode cX3_takes 56 = .ok (.getfield 15, 3) := by decide +kernel
theorem dX3_takes_59 : decode cX3_takes 59 = .ok (.invokestatic 40, 3) := by decide +kernel
theorem dX3_takes_62 : decode cX3_takes 62 = .ok (.ifCond .eq 7, 3) := by decide +kernel
theorem dX3_takes_65 : decode cX3_takes 65 = .ok (.iconst 1, 1) := by decide +kernel
theorem dX3_takes_66 : decode cX3_takes 66 = .ok (.goto 4, 3) := by decide +kernel
theorem dX3_takes_69 : decode cX3_takes 69 = .ok (.iconst 0, 1) := by decide +kernel
theorem dX3_takes_70 : decode cX3_takes 70 = .ok (.ireturn, 1) := by decide +kernel
theorem dX4_init_0 : decode cX4_init 0 = .ok (.aload_n 0, 1) := by decide +kernel
theorem dX4_init_1 : decode cX4_init 1 = .ok (.invokespecial 1, 3) := by decide +kernel
theorem dX4_init_4 : decode cX4_init 4 = .ok (.aload_n 0, 1) := by decide +kernel
theorem dX4_init_5 : decode cX4_init 5 = .ok (.iload_n 1, 1) := by decide +kernel
theorem dX4_init_6 : decode cX4_init 6 = .ok (.putfield 7, 3) := by decide +kernel
theorem dX4_init_9 : decode cX4_init 9 = .ok (.return_, 1) := by decide +kernel
theorem dX5_init_0 : decode cX5_init 0 = .ok (.aload_n 0, 1) := by decide +kernel
theorem dX5_init_1 : decode cX5_init 1 = .ok (.iload_n 1, 1) := by decide +kernel
theorem dX5_init_2 : decode cX5_init 2 = .ok (.invokespecial 1, 3) := by decide +kernel
theorem dX5_init_5 : decode cX5_init 5 = .ok (.aload_n 0, 1) := by decide +kernel
theorem dX5_init_6 : decode cX5_init 6 = .ok (.iload_n 2, 1) := by decide +kernel
theorem dX5_init_7 : decode cX5_init 7 = .ok (.anewarray 7, 3) := by decide +kernel
theorem dX5_init_10 : decode cX5_init 10 = .ok (.putfield 9, 3) := by decide +kernel
theorem dX5_init_13 : decode cX5_init 13 = .ok (.return_, 1) := by decide +kernel
theorem dX5_length_0 : decode cX5_length 0 = .ok (.aload_n 0, 1) := by decide +kernel
theorem dX5_length_1 : decode cX5_length 1 = .ok (.getfield 9, 3) := by decide +kernel
theorem dX5_length_4 : decode cX5_length 4 = .ok (.arraylength, 1) := by decide +kernel
theorem dX5_length_5 : decode cX5_length 5 = .ok (.ireturn, 1) := by decide +kernel
theorem dX5_read_0 : decode cX5_read 0 = .ok (.aload_n 2, 1) := by decide +kernel
theorem dX5_read_1 : decode cX5_read 1 = .ok (.aload_n 0, 1) := by decide +kernel
theorem dX5_read_2 : decode cX5_read 2 = .ok (.getfield 9, 3) := by decide +kernel
theorem dX5_read_5 : decode cX5_read 5 = .ok (.iload_n 1, 1) := by decide +kernel
theorem dX5_read_6 : decode cX5_read 6 = .ok (.aaload, 1) := by decide +kernel
theorem dX5_read_7 : decode cX5_read 7 = .ok (.invokevirtual 15, 3) := by decide +kernel
theorem dX5_read_10 : decode cX5_read 10 = .ok (.return_, 1) := by decide +kernel
theorem dX5_write_0 : decode cX5_write 0 = .ok (.aload_n 0, 1) := by decide +kernel
theorem dX5_write_1 : decode cX5_write 1 = .ok (.getfield 9, 3) := by decide +kernel
theorem dX5_write_4 : decode cX5_write 4 = .ok (.iload_n 1, 1) := by decide +kernel
theorem dX5_write_5 : decode cX5_write 5 = .ok (.aload_n 2, 1) := by decide +kernel
theorem dX5_write_6 : decode cX5_write 6 = .ok (.getfield 21, 3) := by decide +kernel
theorem dX5_write_9 : decode cX5_write 9 = .ok (.aastore, 1) := by decide +kernel
theorem dX5_write_10 : decode cX5_write 10 = .ok (.return_, 1) := by decide +kernel
theorem dX6_init_0 : decode cX6_init 0 = .ok (.aload_n 0, 1) := by decide +kernel
theorem dX6_init_1 : decode cX6_init 1 = .ok (.iload_n 1, 1) := by decide +kernel
theorem dX6_init_2 : decode cX6_init 2 = .ok (.invokespecial 1, 3) := by decide +kernel
theorem dX6_init_5 : decode cX6_init 5 = .ok (.aload_n 0, 1) := by decide +kernel
theorem dX6_init_6 : decode cX6_init 6 = .ok (.iload_n 2, 1) := by decide +kernel
theorem dX6_init_7 : decode cX6_init 7 = .ok (.newarray .long, 2) := by decide +kernel
theorem dX6_init_9 : decode cX6_init 9 = .ok (.putfield 7, 3) := by decide +kernel
theorem dX6_init_12 : decode cX6_init 12 = .ok (.return_, 1) := by decide +kernel
theorem dX6_length_0 : decode cX6_length 0 = .ok (.aload_n 0, 1) := by decide +kernel
theorem dX6_length_1 : decode cX6_length 1 = .ok (.getfield 7, 3) := by decide +kernel
theorem dX6_length_4 : decode cX6_length 4 = .ok (.arraylength, 1) := by decide +kernel
theorem dX6_length_5 : decode cX6_length 5 = .ok (.ireturn, 1) := by decide +kernel
theorem dX6_read_0 : decode cX6_read 0 = .ok (.aload_n 2, 1) := by decide +kernel
theorem dX6_read_1 : decode cX6_read 1 = .ok (.aload_n 0, 1) := by decide +kernel
theorem dX6_read_2 : decode cX6_read 2 = .ok (.getfield 13, 3) := by decide +kernel
theorem dX6_read_5 : decode cX6_read 5 = .ok (.aload_n 0, 1) := by decide +kernel
theorem dX6_read_6 : decode cX6_read 6 = .ok (.getfield 7, 3) := by decide +kernel
theorem dX6_read_9 : decode cX6_read 9 = .ok (.iload_n 1, 1) := by decide +kernel
theorem dX6_read_10 : decode cX6_read 10 = .ok (.laload, 1) := by decide +kernel
theorem dX6_read_11 : decode cX6_read 11 = .ok (.invokevirtual 17, 3) := by decide +kernel
theorem dX6_read_14 : decode cX6_read 14 = .ok (.return_, 1) := by decide +kernel
theorem dX6_write_0 : decode cX6_write 0 = .ok (.aload_n 0, 1) := by decide +kernel
theorem dX6_write_1 : decode cX6_write 1 = .ok (.getfield 7, 3) := by decide +kernel
theorem dX6_write_4 : decode cX6_write 4 = .ok (.iload_n 1, 1) := by decide +kernel
theorem dX6_write_5 : decode cX6_write 5 = .ok (.aload_n 2, 1) := by decide +kernel
theorem dX6_write_6 : decode cX6_write 6 = .ok (.getfield 23, 3) := by decide +kernel
theorem dX6_write_9 : decode cX6_write 9 = .ok (.lastore, 1) := by decide +kernel
theorem dX6_write_10 : decode cX6_write 10 = .ok (.return_, 1) := by decide +kernel
theorem dX7_init_0 : decode cX7_init 0 = .ok (.aload_n 0, 1) := by decide +kernel
theorem dX7_init_1 : decode cX7_init 1 = .ok (.invokespecial 1, 3) := by decide +kernel
theorem dX7_init_4 : decode cX7_init 4 = .ok (.aload_n 0, 1) := by decide +kernel
theorem dX7_init_5 : decode cX7_init 5 = .ok (.bipush 12, 2) := by decide +kernel
theorem dX7_init_7 : decode cX7_init 7 = .ok (.anewarray 9, 3) := by decide +kernel
theorem dX7_init_10 : decode cX7_init 10 = .ok (.putfield 11, 3) := by decide +kernel
theorem dX7_init_13 : decode cX7_init 13 = .ok (.aload_n 0, 1) := by decide +kernel
theorem dX7_init_14 : decode cX7_init 14 = .ok (.bipush 24, 2) := by decide +kernel
theorem dX7_init_16 : decode cX7_init 16 = .ok (.anewarray 15, 3) := by decide +kernel
theorem dX7_init_19 : decode cX7_init 19 = .ok (.putfield 17, 3) := by decide +kernel
theorem dX7_init_22 : decode cX7_init 22 = .ok (.iconst 0, 1) := by decide +kernel
theorem dX7_init_23 : decode cX7_init 23 = .ok (.istore_n 1, 1) := by decide +kernel
theorem dX7_init_24 : decode cX7_init 24 = .ok (.iload_n 1, 1) := by decide +kernel
theorem dX7_init_25 : decode cX7_init 25 = .ok (.bipush 24, 2) := by decide +kernel
theorem dX7_init_27 : decode cX7_init 27 = .ok (.if_icmp .ge 22, 3) := by decide +kernel
theorem dX7_init_30 : decode cX7_init 30 = .ok (.aload_n 0, 1) := by decide +kernel
theorem dX7_init_31 : decode cX7_init 31 = .ok (.getfield 17, 3) := by decide +kernel
theorem dX7_init_34 : decode cX7_init 34 = .ok (.iload_n 1, 1) := by decide +kernel
theorem dX7_init_35 : decode cX7_init 35 = .ok (.new 15, 3) := by decide +kernel
theorem dX7_init_38 : decode cX7_init 38 = .ok (.dup, 1) := by decide +kernel
theorem dX7_init_39 : decode cX7_init 39 = .ok (.invokespecial 21, 3) := by decide +kernel
theorem dX7_init_42 : decode cX7_init 42 = .ok (.aastore, 1) := by decide +kernel
theorem dX7_init_43 : decode cX7_init 43 = .ok (.iinc 1 1, 3) := by decide +kernel
theorem dX7_init_46 : decode cX7_init 46 = .ok (.goto (-22), 3) := by decide +kernel
theorem dX7_init_49 : decode cX7_init 49 = .ok (.aload_n 0, 1) := by decide +kernel
theorem dX7_init_50 : decode cX7_init 50 = .ok (.bipush 24, 2) := by decide +kernel
theorem dX7_init_52 : decode cX7_init 52 = .ok (.newarray .int, 2) := by decide +kernel
theorem dX7_init_54 : decode cX7_init 54 = .ok (.putfield 22, 3) := by decide +kernel
theorem dX7_init_57 : decode cX7_init 57 = .ok (.aload_n 0, 1) := by decide +kernel
theorem dX7_init_58 : decode cX7_init 58 = .ok (.new 15, 3) := by decide +kernel
theorem dX7_init_61 : decode cX7_init 61 = .ok (.dup, 1) := by decide +kernel
theorem dX7_init_62 : decode cX7_init 62 = .ok (.invokespecial 21, 3) := by decide +kernel
theorem dX7_init_65 : decode cX7_init 65 = .ok (.putfield 26, 3) := by decide +kernel
theorem dX7_init_68 : decode cX7_init 68 = .ok (.aload_n 0, 1) := by decide +kernel
theorem dX7_init_69 : decode cX7_init 69 = .ok (.new 15, 3) := by decide +kernel
theorem dX7_init_72 : decode cX7_init 72 = .ok (.dup, 1) := by decide +kernel
theorem dX7_init_73 : decode cX7_init 73 = .ok (.invokespecial 21, 3) := by decide +kernel
theorem dX7_init_76 : decode cX7_init 76 = .ok (.putfield 30, 3) := by decide +kernel
theorem dX7_init_79 : decode cX7_init 79 = .ok (.aload_n 0, 1) := by decide +kernel
theorem dX7_init_80 : decode cX7_init 80 = .ok (.iconst 0, 1) := by decide +kernel
theorem dX7_init_81 : decode cX7_init 81 = .ok (.putfield 33, 3) := by decide +kernel
theorem dX7_init_84 : decode cX7_init 84 = .ok (.return_, 1) := by decide +kernel
theorem dX7_make_0 : decode cX7_make 0 = .ok (.iload_n 1, 1) := by decide +kernel
theorem dX7_make_1 : decode cX7_make 1 = .ok (.invokestatic 37, 3) := by decide +kernel
theorem dX7_make_4 : decode cX7_make 4 = .ok (.ifCond .eq 13, 3) := by decide +kernel
theorem dX7_make_7 : decode cX7_make 7 = .ok (.iload_n 2, 1) := by decide +kernel
theorem dX7_make_8 : decode cX7_make 8 = .ok (.ifCond .lt 9, 3) := by decide +kernel
theorem dX7_make_11 : decode cX7_make 11 = .ok (.iload_n 2, 1) := by decide +kernel
theorem dX7_make_12 : decode cX7_make 12 = .ok (.bipush 14, 2) := by decide +kernel
theorem dX7_make_14 : decode cX7_make 14 = .ok (.if_icmp .le 9, 3) := by decide +kernel
theorem dX7_make_17 : decode cX7_make 17 = .ok (.aload_n 0, 1) := by decide +kernel
theorem dX7_make_18 : decode cX7_make 18 = .ok (.iconst 1, 1) := by decide +kernel
theorem dX7_make_19 : decode cX7_make 19 = .ok (.invokevirtual 41, 3) := by decide +kernel
theorem dX7_make_22 : decode cX7_make 22 = .ok (.ireturn, 1) := by decide +kernel
theorem dX7_make_23 : decode cX7_make 23 = .ok (.iload_n 2, 1) := by decide +kernel
theorem dX7_make_24 : decode cX7_make 24 = .ok (.bipush 12, 2) := by decide +kernel
theorem dX7_make_26 : decode cX7_make 26 = .ok (.if_icmp .lt 24, 3) := by decide +kernel
theorem dX7_make_29 : decode cX7_make 29 = .ok (.aload_n 0, 1) := by decide +kernel
theorem dX7_make_30 : decode cX7_make 30 = .ok (.getfield 11, 3) := by decide +kernel
theorem dX7_make_33 : decode cX7_make 33 = .ok (.iload_n 1, 1) := by decide +kernel
theorem dX7_make_34 : decode cX7_make 34 = .ok (.new 45, 3) := by decide +kernel
theorem dX7_make_37 : decode cX7_make 37 = .ok (.dup, 1) := by decide +kernel
theorem dX7_make_38 : decode cX7_make 38 = .ok (.iload_n 2, 1) := by decide +kernel
theorem dX7_make_39 : decode cX7_make 39 = .ok (.iload_n 3, 1) := by decide +kernel
theorem dX7_make_40 : decode cX7_make 40 = .ok (.invokespecial 47, 3) := by decide +kernel
theorem dX7_make_43 : decode cX7_make 43 = .ok (.aastore, 1) := by decide +kernel
theorem dX7_make_44 : decode cX7_make 44 = .ok (.aload_n 0, 1) := by decide +kernel
theorem dX7_make_45 : decode cX7_make 45 = .ok (.iconst 1, 1) := by decide +kernel
theorem dX7_make_46 : decode cX7_make 46 = .ok (.invokevirtual 50, 3) := by decide +kernel
theorem dX7_make_49 : decode cX7_make 49 = .ok (.ireturn, 1) := by decide +kernel
theorem dX7_make_50 : decode cX7_make 50 = .ok (.iload_n 3, 1) := by decide +kernel
theorem dX7_make_51 : decode cX7_make 51 = .ok (.ifCond .lt 9, 3) := by decide +kernel
theorem dX7_make_54 : decode cX7_make 54 = .ok (.iload_n 3, 1) := by decide +kernel
theorem dX7_make_55 : decode cX7_make 55 = .ok (.bipush 24, 2) := by decide +kernel
theorem dX7_make_57 : decode cX7_make 57 = .ok (.if_icmp .le 9, 3) := by decide +kernel
theorem dX7_make_60 : decode cX7_make 60 = .ok (.aload_n 0, 1) := by decide +kernel
theorem dX7_make_61 : decode cX7_make 61 = .ok (.iconst 1, 1) := by decide +kernel
theorem dX7_make_62 : decode cX7_make 62 = .ok (.invokevirtual 41, 3) := by decide +kernel
theorem dX7_make_65 : decode cX7_make 65 = .ok (.ireturn, 1) := by decide +kernel
theorem dX7_make_66 : decode cX7_make 66 = .ok (.aload_n 0, 1) := by decide +kernel
theorem dX7_make_67 : decode cX7_make 67 = .ok (.getfield 11, 3) := by decide +kernel
theorem dX7_make_70 : decode cX7_make 70 = .ok (.iload_n 1, 1) := by decide +kernel
theorem dX7_make_71 : decode cX7_make 71 = .ok (.iload_n 2, 1) := by decide +kernel
theorem dX7_make_72 : decode cX7_make 72 = .ok (.iload_n 3, 1) := by decide +kernel
theorem dX7_make_73 : decode cX7_make 73 = .ok (.invokestatic 53, 3) := by decide +kernel
theorem dX7_make_76 : decode cX7_make 76 = .ok (.aastore, 1) := by decide +kernel
theorem dX7_make_77 : decode cX7_make 77 = .ok (.aload_n 0, 1) := by decide +kernel
theorem dX7_make_78 : decode cX7_make 78 = .ok (.iconst 1, 1) := by decide +kernel
theorem dX7_make_79 : decode cX7_make 79 = .ok (.invokevirtual 50, 3) := by decide +kernel
theorem dX7_make_82 : decode cX7_make 82 = .ok (.ireturn, 1) := by decide +kernel
theorem dX7_lay_0 : decode cX7_lay 0 = .ok (.iload_n 1, 1) := by decide +kernel
theorem dX7_lay_1 : decode cX7_lay 1 = .ok (.invokestatic 37, 3) := by decide +kernel
theorem dX7_lay_4 : decode cX7_lay 4 = .ok (.ifCond .eq 10, 3) := by decide +kernel
theorem dX7_lay_7 : decode cX7_lay 7 = .ok (.iload_n 2, 1) := by decide +kernel
theorem dX7_lay_8 : decode cX7_lay 8 = .ok (.invokestatic 37, 3) := by decide +kernel
theorem dX7_lay_11 : decode cX7_lay 11 = .ok (.ifCond .ne 9, 3) := by decide +kernel
theorem dX7_lay_14 : decode cX7_lay 14 = .ok (.aload_n 0, 1) := by decide +kernel
theorem dX7_lay_15 : decode cX7_lay 15 = .ok (.iconst 1, 1) := by decide +kernel
theorem dX7_lay_16 : decode cX7_lay 16 = .ok (.invokevirtual 41, 3) := by decide +kernel
theorem dX7_lay_19 : decode cX7_lay 19 = .ok (.ireturn, 1) := by decide +kernel
theorem dX7_lay_20 : decode cX7_lay 20 = .ok (.aload_n 0, 1) := by decide +kernel
theorem dX7_lay_21 : decode cX7_lay 21 = .ok (.getfield 11, 3) := by decide +kernel
theorem dX7_lay_24 : decode cX7_lay 24 = .ok (.iload_n 2, 1) := by decide +kernel
theorem dX7_lay_25 : decode cX7_lay 25 = .ok (.aload_n 0, 1) := by decide +kernel
theorem dX7_lay_26 : decode cX7_lay 26 = .ok (.getfield 11, 3) := by decide +kernel
theorem dX7_lay_29 : decode cX7_lay 29 = .ok (.iload_n 1, 1) := by decide +kernel
theorem dX7_lay_30 : decode cX7_lay 30 = .ok (.aaload, 1) := by decide +kernel
theorem dX7_lay_31 : decode cX7_lay 31 = .ok (.aastore, 1) := by decide +kernel
theorem dX7_lay_32 : decode cX7_lay 32 = .ok (.aload_n 0, 1) := by decide +kernel
theorem dX7_lay_33 : decode cX7_lay 33 = .ok (.aload_n 0, 1) := by decide +kernel
theorem dX7_lay_34 : decode cX7_lay 34 = .ok (.getfield 11, 3) := by decide +kernel
theorem dX7_lay_37 : decode cX7_lay 37 = .ok (.iload_n 2, 1) := by decide +kernel
theorem dX7_lay_38 : decode cX7_lay 38 = .ok (.aaload, 1) := by decide +kernel
theorem dX7_lay_39 : decode cX7_lay 39 = .ok (.invokestatic 57, 3) := by decide +kernel
theorem dX7_lay_42 : decode cX7_lay 42 = .ok (.invokevirtual 50, 3) := by decide +kernel
theorem dX7_lay_45 : decode cX7_lay 45 = .ok (.ireturn, 1) := by decide +kernel
theorem dX7_places_0 : decode cX7_places 0 = .ok (.aload_n 0, 1) := by decide +kernel
theorem dX7_places_1 : decode cX7_places 1 = .ok (.iload_n 1, 1) := by decide +kernel
theorem dX7_places_2 : decode cX7_places 2 = .ok (.invokevirtual 61, 3) := by decide +kernel
theorem dX7_places_5 : decode cX7_places 5 = .ok (.astore_n 2, 1) := by decide +kernel
theorem dX7_places_6 : decode cX7_places 6 = .ok (.aload_n 2, 1) := by decide +kernel
theorem dX7_places_7 : decode cX7_places 7 = .ok (.ifnonnull 13, 3) := by decide +kernel
theorem dX7_places_10 : decode cX7_places 10 = .ok (.aload_n 0, 1) := by decide +kernel
theorem dX7_places_11 : decode cX7_places 11 = .ok (.aload_n 0, 1) := by decide +kernel
theorem dX7_places_12 : decode cX7_places 12 = .ok (.iload_n 1, 1) := by decide +kernel
theorem dX7_places_13 : decode cX7_places 13 = .ok (.invokevirtual 65, 3) := by decide +kernel
theorem dX7_places_16 : decode cX7_places 16 = .ok (.invokevirtual 41, 3) := by decide +kernel
theorem dX7_places_19 : decode cX7_places 19 = .ok (.ireturn, 1) := by decide +kernel
theorem dX7_places_20 : decode cX7_places 20 = .ok (.aload_n 0, 1) := by decide +kernel
theorem dX7_places_21 : decode cX7_places 21 = .ok (.aload_n 2, 1) := by decide +kernel
theorem dX7_places_22 : decode cX7_places 22 = .ok (.invokevirtual 68, 3) := by decide +kernel
theorem dX7_places_25 : decode cX7_places 25 = .ok (.invokevirtual 50, 3) := by decide +kernel
theorem dX7_places_28 : decode cX7_places 28 = .ok (.ireturn, 1) := by decide +kernel
theorem dX7_kind_0 : decode cX7_kind 0 = .ok (.iload_n 1, 1) := by decide +kernel
theorem dX7_kind_1 : decode cX7_kind 1 = .ok (.invokestatic 37, 3) := by decide +kernel
theorem dX7_kind_4 : decode cX7_kind 4 = .ok (.ifCond .ne 9, 3) := by decide +kernel
theorem dX7_kind_7 : decode cX7_kind 7 = .ok (.aload_n 0, 1) := by decide +kernel
theorem dX7_kind_8 : decode cX7_kind 8 = .ok (.iconst 1, 1) := by decide +kernel
theorem dX7_kind_9 : decode cX7_kind 9 = .ok (.invokevirtual 41, 3) := by decide +kernel
theorem dX7_kind_12 : decode cX7_kind 12 = .ok (.ireturn, 1) := by decide +kernel
theorem dX7_kind_13 : decode cX7_kind 13 = .ok (.aload_n 0, 1) := by decide +kernel
theorem dX7_kind_14 : decode cX7_kind 14 = .ok (.aload_n 0, 1) := by decide +kernel
theorem dX7_kind_15 : decode cX7_kind 15 = .ok (.getfield 11, 3) := by decide +kernel
theorem dX7_kind_18 : decode cX7_kind 18 = .ok (.iload_n 1, 1) := by decide +kernel
theorem dX7_kind_19 : decode cX7_kind 19 = .ok (.aaload, 1) := by decide +kernel
theorem dX7_kind_20 : decode cX7_kind 20 = .ok (.invokestatic 74, 3) := by decide +kernel
theorem dX7_kind_23 : decode cX7_kind 23 = .ok (.invokevirtual 50, 3) := by decide +kernel
theorem dX7_kind_26 : decode cX7_kind 26 = .ok (.ireturn, 1) := by decide +kernel
theorem dX7_tag_0 : decode cX7_tag 0 = .ok (.aload_n 0, 1) := by decide +kernel
theorem dX7_tag_1 : decode cX7_tag 1 = .ok (.iload_n 1, 1) := by decide +kernel
theorem dX7_tag_2 : decode cX7_tag 2 = .ok (.invokevirtual 77, 3) := by decide +kernel
theorem dX7_tag_5 : decode cX7_tag 5 = .ok (.astore_n 2, 1) := by decide +kernel
theorem dX7_tag_6 : decode cX7_tag 6 = .ok (.aload_n 2, 1) := by decide +kernel
theorem dX7_tag_7 : decode cX7_tag 7 = .ok (.ifnonnull 13, 3) := by decide +kernel
theorem dX7_tag_10 : decode cX7_tag 10 = .ok (.aload_n 0, 1) := by decide +kernel
theorem dX7_tag_11 : decode cX7_tag 11 = .ok (.aload_n 0, 1) := by decide +kernel
theorem dX7_tag_12 : decode cX7_tag 12 = .ok (.iload_n 1, 1) := by decide +kernel
theorem dX7_tag_13 : decode cX7_tag 13 = .ok (.invokevirtual 81, 3) := by decide +kernel
theorem dX7_tag_16 : decode cX7_tag 16 = .ok (.invokevirtual 41, 3) := by decide +kernel
theorem dX7_tag_19 : decode cX7_tag 19 = .ok (.ireturn, 1) := by decide +kernel
theorem dX7_tag_20 : decode cX7_tag 20 = .ok (.aload_n 0, 1) := by decide +kernel
theorem dX7_tag_21 : decode cX7_tag 21 = .ok (.aload_n 2, 1) := by decide +kernel
theorem dX7_tag_22 : decode cX7_tag 22 = .ok (.getfield 84, 3) := by decide +kernel
theorem dX7_tag_25 : decode cX7_tag 25 = .ok (.invokevirtual 50, 3) := by decide +kernel
theorem dX7_tag_28 : decode cX7_tag 28 = .ok (.ireturn, 1) := by decide +kernel
theorem dX7_load_0 : decode cX7_load 0 = .ok (.aload_n 0, 1) := by decide +kernel
theorem dX7_load_1 : decode cX7_load 1 = .ok (.iload_n 1, 1) := by decide +kernel
theorem dX7_load_2 : decode cX7_load 2 = .ok (.invokevirtual 77, 3) := by decide +kernel
theorem dX7_load_5 : decode cX7_load 5 = .ok (.astore_n 2, 1) := by decide +kernel
theorem dX7_load_6 : decode cX7_load 6 = .ok (.aload_n 2, 1) := by decide +kernel
theorem dX7_load_7 : decode cX7_load 7 = .ok (.ifnonnull 13, 3) := by decide +kernel
theorem dX7_load_10 : decode cX7_load 10 = .ok (.aload_n 0, 1) := by decide +kernel
theorem dX7_load_11 : decode cX7_load 11 = .ok (.aload_n 0, 1) := by decide +kernel
theorem dX7_load_12 : decode cX7_load 12 = .ok (.iload_n 1, 1) := by decide +kernel
theorem dX7_load_13 : decode cX7_load 13 = .ok (.invokevirtual 81, 3) := by decide +kernel
theorem dX7_load_16 : decode cX7_load 16 = .ok (.invokevirtual 41, 3) := by decide +kernel
theorem dX7_load_19 : decode cX7_load 19 = .ok (.ireturn, 1) := by decide +kernel
theorem dX7_load_20 : decode cX7_load 20 = .ok (.aload_n 0, 1) := by decide +kernel
theorem dX7_load_21 : decode cX7_load 21 = .ok (.aload_n 2, 1) := by decide +kernel
theorem dX7_load_22 : decode cX7_load 22 = .ok (.getfield 87, 3) := by decide +kernel
theorem dX7_load_25 : decode cX7_load 25 = .ok (.bipush 14, 2) := by decide +kernel
theorem dX7_load_27 : decode cX7_load 27 = .ok (.if_icmp .ne 14, 3) := by decide +kernel
theorem dX7_load_30 : decode cX7_load 30 = .ok (.iconst 2, 1) := by decide +kernel
theorem dX7_load_31 : decode cX7_load 31 = .ok (.aload_n 2, 1) := by decide +kernel
theorem dX7_load_32 : decode cX7_load 32 = .ok (.getfield 84, 3) := by decide +kernel
theorem dX7_load_35 : decode cX7_load 35 = .ok (.imul, 1) := by decide +kernel
theorem dX7_load_36 : decode cX7_load 36 = .ok (.iconst 1, 1) := by decide +kernel
theorem dX7_load_37 : decode cX7_load 37 = .ok (.iadd, 1) := by decide +kernel
theorem dX7_load_38 : decode cX7_load 38 = .ok (.goto 7, 3) := by decide +kernel
theorem dX7_load_41 : decode cX7_load 41 = .ok (.aload_n 2, 1) := by decide +kernel
theorem dX7_load_42 : decode cX7_load 42 = .ok (.getfield 84, 3) := by decide +kernel
theorem dX7_load_45 : decode cX7_load 45 = .ok (.invokevirtual 50, 3) := by decide +kernel
theorem dX7_load_48 : decode cX7_load 48 = .ok (.ireturn, 1) := by decide +kernel
theorem dX7_put_0 : decode cX7_put 0 = .ok (.aload_n 0, 1) := by decide +kernel
theorem dX7_put_1 : decode cX7_put 1 = .ok (.iload_n 1, 1) := by decide +kernel
theorem dX7_put_2 : decode cX7_put 2 = .ok (.iload_n 2, 1) := by decide +kernel
theorem dX7_put_3 : decode cX7_put 3 = .ok (.iload_n 3, 1) := by decide +kernel
theorem dX7_put_4 : decode cX7_put 4 = .ok (.iload 4, 2) := by decide +kernel
theorem dX7_put_6 : decode cX7_put 6 = .ok (.iload 5, 2) := by decide +kernel
theorem dX7_put_8 : decode cX7_put 8 = .ok (.invokevirtual 90, 3) := by decide +kernel
theorem dX7_put_11 : decode cX7_put 11 = .ok (.ireturn, 1) := by decide +kernel
theorem dX7_putBoxed_0 : decode cX7_putBoxed 0 = .ok (.aload_n 0, 1) := by decide +kernel
theorem dX7_putBoxed_1 : decode cX7_putBoxed 1 = .ok (.iload_n 1, 1) := by decide +kernel
theorem dX7_putBoxed_2 : decode cX7_putBoxed 2 = .ok (.iload_n 2, 1) := by decide +kernel
theorem dX7_putBoxed_3 : decode cX7_putBoxed 3 = .ok (.iload_n 3, 1) := by decide +kernel
theorem dX7_putBoxed_4 : decode cX7_putBoxed 4 = .ok (.iload 4, 2) := by decide +kernel
theorem dX7_putBoxed_6 : decode cX7_putBoxed 6 = .ok (.iload 5, 2) := by decide +kernel
theorem dX7_putBoxed_8 : decode cX7_putBoxed 8 = .ok (.invokevirtual 90, 3) := by decide +kernel
theorem dX7_putBoxed_11 : decode cX7_putBoxed 11 = .ok (.ireturn, 1) := by decide +kernel
theorem dX7_putThing_0 : decode cX7_putThing 0 = .ok (.iload_n 3, 1) := by decide +kernel
theorem dX7_putThing_1 : decode cX7_putThing 1 = .ok (.invokestatic 37, 3) := by decide +kernel
theorem dX7_putThing_4 : decode cX7_putThing 4 = .ok (.ifCond .ne 9, 3) := by decide +kernel
theorem dX7_putThing_7 : decode cX7_putThing 7 = .ok (.aload_n 0, 1) := by decide +kernel
theorem dX7_putThing_8 : decode cX7_putThing 8 = .ok (.iconst 1, 1) := by decide +kernel
theorem dX7_putThing_9 : decode cX7_putThing 9 = .ok (.invokevirtual 41, 3) := by decide +kernel
theorem dX7_putThing_12 : decode cX7_putThing 12 = .ok (.ireturn, 1) := by decide +kernel
theorem dX7_putThing_13 : decode cX7_putThing 13 = .ok (.aload_n 0, 1) := by decide +kernel
theorem dX7_putThing_14 : decode cX7_putThing 14 = .ok (.iload_n 1, 1) := by decide +kernel
theorem dX7_putThing_15 : decode cX7_putThing 15 = .ok (.invokevirtual 61, 3) := by decide +kernel
theorem dX7_putThing_18 : decode cX7_putThing 18 = .ok (.astore 4, 2) := by decide +kernel
theorem dX7_putThing_20 : decode cX7_putThing 20 = .ok (.aload 4, 2) := by decide +kernel
theorem dX7_putThing_22 : decode cX7_putThing 22 = .ok (.ifnonnull 13, 3) := by decide +kernel
theorem dX7_putThing_25 : decode cX7_putThing 25 = .ok (.aload_n 0, 1) := by decide +kernel
theorem dX7_putThing_26 : decode cX7_putThing 26 = .ok (.aload_n 0, 1) := by decide +kernel
theorem dX7_putThing_27 : decode cX7_putThing 27 = .ok (.iload_n 1, 1) := by decide +kernel
theorem dX7_putThing_28 : decode cX7_putThing 28 = .ok (.invokevirtual 65, 3) := by decide +kernel
theorem dX7_putThing_31 : decode cX7_putThing 31 = .ok (.invokevirtual 41, 3) := by decide +kernel
theorem dX7_putThing_34 : decode cX7_putThing 34 = .ok (.ireturn, 1) := by decide +kernel
theorem dX7_putThing_35 : decode cX7_putThing 35 = .ok (.aload_n 0, 1) := by decide +kernel
theorem dX7_putThing_36 : decode cX7_putThing 36 = .ok (.getfield 26, 3) := by decide +kernel
theorem dX7_putThing_39 : decode cX7_putThing 39 = .ok (.aload_n 0, 1) := by decide +kernel
theorem dX7_putThing_40 : decode cX7_putThing 40 = .ok (.getfield 11, 3) := by decide +kernel
theorem dX7_putThing_43 : decode cX7_putThing 43 = .ok (.iload_n 3, 1) := by decide +kernel
theorem dX7_putThing_44 : decode cX7_putThing 44 = .ok (.aaload, 1) := by decide +kernel
theorem dX7_putThing_45 : decode cX7_putThing 45 = .ok (.invokevirtual 94, 3) := by decide +kernel
theorem dX7_putThing_48 : decode cX7_putThing 48 = .ok (.aload_n 0, 1) := by decide +kernel
theorem dX7_putThing_49 : decode cX7_putThing 49 = .ok (.aload 4, 2) := by decide +kernel
theorem dX7_putThing_51 : decode cX7_putThing 51 = .ok (.iload_n 2, 1) := by decide +kernel
theorem dX7_putThing_52 : decode cX7_putThing 52 = .ok (.aload_n 0, 1) := by decide +kernel
theorem dX7_putThing_53 : decode cX7_putThing 53 = .ok (.getfield 11, 3) := by decide +kernel
theorem dX7_putThing_56 : decode cX7_putThing 56 = .ok (.iload_n 3, 1) := by decide +kernel
theorem dX7_putThing_57 : decode cX7_putThing 57 = .ok (.aaload, 1) := by decide +kernel
theorem dX7_putThing_58 : decode cX7_putThing 58 = .ok (.invokestatic 57, 3) := by decide +kernel
theorem dX7_putThing_61 : decode cX7_putThing 61 = .ok (.invokevirtual 98, 3) := by decide +kernel
theorem dX7_putThing_64 : decode cX7_putThing 64 = .ok (.ireturn, 1) := by decide +kernel
theorem dX7_number_0 : decode cX7_number 0 = .ok (.iload_n 3, 1) := by decide +kernel
theorem dX7_number_1 : decode cX7_number 1 = .ok (.ifCond .lt 8, 3) := by decide +kernel
theorem dX7_number_4 : decode cX7_number 4 = .ok (.iload_n 3, 1) := by decide +kernel
theorem dX7_number_5 : decode cX7_number 5 = .ok (.iconst 5, 1) := by decide +kernel
theorem dX7_number_6 : decode cX7_number 6 = .ok (.if_icmp .le 10, 3) := by decide +kernel
theorem dX7_number_9 : decode cX7_number 9 = .ok (.aload_n 0, 1) := by decide +kernel
theorem dX7_number_10 : decode cX7_number 10 = .ok (.iconst 1, 1) := by decide +kernel
theorem dX7_number_11 : decode cX7_number 11 = .ok (.invokevirtual 41, 3) := by decide +kernel
theorem dX7_number_14 : decode cX7_number 14 = .ok (.i2l, 1) := by decide +kernel
theorem dX7_number_15 : decode cX7_number 15 = .ok (.lreturn, 1) := by decide +kernel
theorem dX7_number_16 : decode cX7_number 16 = .ok (.aload_n 0, 1) := by decide +kernel
theorem dX7_number_17 : decode cX7_number 17 = .ok (.iload_n 1, 1) := by decide +kernel
theorem dX7_number_18 : decode cX7_number 18 = .ok (.iload_n 2, 1) := by decide +kernel
theorem dX7_number_19 : decode cX7_number 19 = .ok (.iload_n 3, 1) := by decide +kernel
theorem dX7_number_20 : decode cX7_number 20 = .ok (.invokevirtual 102, 3) := by decide +kernel
theorem dX7_number_23 : decode cX7_number 23 = .ok (.ifCond .eq 13, 3) := by decide +kernel
theorem dX7_number_26 : decode cX7_number 26 = .ok (.aload_n 0, 1) := by decide +kernel
theorem dX7_number_27 : decode cX7_number 27 = .ok (.getfield 26, 3) := by decide +kernel
theorem dX7_number_30 : decode cX7_number 30 = .ok (.getfield 106, 3) := by decide +kernel
theorem dX7_number_33 : decode cX7_number 33 = .ok (.goto 4, 3) := by decide +kernel
theorem dX7_number_36 : decode cX7_number 36 = .ok (.lconst 0, 1) := by decide +kernel
theorem dX7_number_37 : decode cX7_number 37 = .ok (.lreturn, 1) := by decide +kernel
theorem dX7_point_0 : decode cX7_point 0 = .ok (.iload_n 3, 1) := by decide +kernel
theorem dX7_point_1 : decode cX7_point 1 = .ok (.bipush 6, 2) := by decide +kernel
theorem dX7_point_3 : decode cX7_point 3 = .ok (.if_icmp .eq 16, 3) := by decide +kernel
theorem dX7_point_6 : decode cX7_point 6 = .ok (.iload_n 3, 1) := by decide +kernel
theorem dX7_point_7 : decode cX7_point 7 = .ok (.bipush 7, 2) := by decide +kernel
theorem dX7_point_9 : decode cX7_point 9 = .ok (.if_icmp .eq 10, 3) := by decide +kernel
theorem dX7_point_12 : decode cX7_point 12 = .ok (.aload_n 0, 1) := by decide +kernel
theorem dX7_point_13 : decode cX7_point 13 = .ok (.iconst 1, 1) := by decide +kernel
theorem dX7_point_14 : decode cX7_point 14 = .ok (.invokevirtual 41, 3) := by decide +kernel
theorem dX7_point_17 : decode cX7_point 17 = .ok (.i2d, 1) := by decide +kernel
theorem dX7_point_18 : decode cX7_point 18 = .ok (.dreturn, 1) := by decide +kernel
theorem dX7_point_19 : decode cX7_point 19 = .ok (.aload_n 0, 1) := by decide +kernel
theorem dX7_point_20 : decode cX7_point 20 = .ok (.iload_n 1, 1) := by decide +kernel
theorem dX7_point_21 : decode cX7_point 21 = .ok (.iload_n 2, 1) := by decide +kernel
theorem dX7_point_22 : decode cX7_point 22 = .ok (.iload_n 3, 1) := by decide +kernel
theorem dX7_point_23 : decode cX7_point 23 = .ok (.invokevirtual 102, 3) := by decide +kernel
theorem dX7_point_26 : decode cX7_point 26 = .ok (.ifCond .eq 14, 3) := by decide +kernel
theorem dX7_point_29 : decode cX7_point 29 = .ok (.aload_n 0, 1) := by decide +kernel
theorem dX7_point_30 : decode cX7_point 30 = .ok (.getfield 26, 3) := by decide +kernel
theorem dX7_point_33 : decode cX7_point 33 = .ok (.iload_n 3, 1) := by decide +kernel
theorem dX7_point_34 : decode cX7_point 34 = .ok (.invokevirtual 110, 3) := by decide +kernel
theorem dX7_point_37 : decode cX7_point 37 = .ok (.goto 4, 3) := by decide +kernel
theorem dX7_point_40 : decode cX7_point 40 = .ok (.dconst 0, 1) := by decide +kernel
theorem dX7_point_41 : decode cX7_point 41 = .ok (.dreturn, 1) := by decide +kernel
theorem dX7_what_0 : decode cX7_what 0 = .ok (.aload_n 0, 1) := by decide +kernel
theorem dX7_what_1 : decode cX7_what 1 = .ok (.iload_n 1, 1) := by decide +kernel
theorem dX7_what_2 : decode cX7_what 2 = .ok (.invokevirtual 61, 3) := by decide +kernel
theorem dX7_what_5 : decode cX7_what 5 = .ok (.astore_n 3, 1) := by decide +kernel
theorem dX7_what_6 : decode cX7_what 6 = .ok (.aload_n 3, 1) := by decide +kernel
theorem dX7_what_7 : decode cX7_what 7 = .ok (.ifnonnull 13, 3) := by decide +kernel
theorem dX7_what_10 : decode cX7_what 10 = .ok (.aload_n 0, 1) := by decide +kernel
theorem dX7_what_11 : decode cX7_what 11 = .ok (.aload_n 0, 1) := by decide +kernel
theorem dX7_what_12 : decode cX7_what 12 = .ok (.iload_n 1, 1) := by decide +kernel
theorem dX7_what_13 : decode cX7_what 13 = .ok (.invokevirtual 65, 3) := by decide +kernel
theorem dX7_what_16 : decode cX7_what 16 = .ok (.invokevirtual 41, 3) := by decide +kernel
theorem dX7_what_19 : decode cX7_what 19 = .ok (.ireturn, 1) := by decide +kernel
theorem dX7_what_20 : decode cX7_what 20 = .ok (.aload_n 3, 1) := by decide +kernel
theorem dX7_what_21 : decode cX7_what 21 = .ok (.iload_n 2, 1) := by decide +kernel
theorem dX7_what_22 : decode cX7_what 22 = .ok (.invokevirtual 114, 3) := by decide +kernel
theorem dX7_what_25 : decode cX7_what 25 = .ok (.ifCond .ne 9, 3) := by decide +kernel
theorem dX7_what_28 : decode cX7_what 28 = .ok (.aload_n 0, 1) := by decide +kernel
theorem dX7_what_29 : decode cX7_what 29 = .ok (.iconst 4, 1) := by decide +kernel
theorem dX7_what_30 : decode cX7_what 30 = .ok (.invokevirtual 41, 3) := by decide +kernel
theorem dX7_what_33 : decode cX7_what 33 = .ok (.ireturn, 1) := by decide +kernel
theorem dX7_what_34 : decode cX7_what 34 = .ok (.aload_n 3, 1) := by decide +kernel
theorem dX7_what_35 : decode cX7_what 35 = .ok (.iload_n 2, 1) := by decide +kernel
theorem dX7_what_36 : decode cX7_what 36 = .ok (.aload_n 0, 1) := by decide +kernel
theorem dX7_what_37 : decode cX7_what 37 = .ok (.getfield 26, 3) := by decide +kernel
theorem dX7_what_40 : decode cX7_what 40 = .ok (.invokevirtual 117, 3) := by decide +kernel
theorem dX7_what_43 : decode cX7_what 43 = .ok (.aload_n 0, 1) := by decide +kernel
theorem dX7_what_44 : decode cX7_what 44 = .ok (.aload_n 0, 1) := by decide +kernel
theorem dX7_what_45 : decode cX7_what 45 = .ok (.getfield 26, 3) := by decide +kernel
theorem dX7_what_48 : decode cX7_what 48 = .ok (.invokevirtual 121, 3) := by decide +kernel
theorem dX7_what_51 : decode cX7_what 51 = .ok (.ifCond .eq 13, 3) := by decide +kernel
theorem dX7_what_54 : decode cX7_what 54 = .ok (.aload_n 0, 1) := by decide +kernel
theorem dX7_what_55 : decode cX7_what 55 = .ok (.getfield 26, 3) := by decide +kernel
theorem dX7_what_58 : decode cX7_what 58 = .ok (.getfield 125, 3) := by decide +kernel
theorem dX7_what_61 : decode cX7_what 61 = .ok (.goto 13, 3) := by decide +kernel
theorem dX7_what_64 : decode cX7_what 64 = .ok (.aload_n 0, 1) := by decide +kernel
theorem dX7_what_65 : decode cX7_what 65 = .ok (.getfield 26, 3) := by decide +kernel
theorem dX7_what_68 : decode cX7_what 68 = .ok (.getfield 128, 3) := by decide +kernel
theorem dX7_what_71 : decode cX7_what 71 = .ok (.invokestatic 74, 3) := by decide +kernel
theorem dX7_what_74 : decode cX7_what 74 = .ok (.invokevirtual 50, 3) := by decide +kernel
theorem dX7_what_77 : decode cX7_what 77 = .ok (.ireturn, 1) := by decide +kernel
theorem dX7_take_0 : decode cX7_take 0 = .ok (.iload_n 3, 1) := by decide +kernel
theorem dX7_take_1 : decode cX7_take 1 = .ok (.invokestatic 37, 3) := by decide +kernel
theorem dX7_take_4 : decode cX7_take 4 = .ok (.ifCond .ne 9, 3) := by decide +kernel
theorem dX7_take_7 : decode cX7_take 7 = .ok (.aload_n 0, 1) := by decide +kernel
theorem dX7_take_8 : decode cX7_take 8 = .ok (.iconst 1, 1) := by decide +kernel
theorem dX7_take_9 : decode cX7_take 9 = .ok (.invokevirtual 41, 3) := by decide +kernel
theorem dX7_take_12 : decode cX7_take 12 = .ok (.ireturn, 1) := by decide +kernel
theorem dX7_take_13 : decode cX7_take 13 = .ok (.aload_n 0, 1) := by decide +kernel
theorem dX7_take_14 : decode cX7_take 14 = .ok (.iload_n 1, 1) := by decide +kernel
theorem dX7_take_15 : decode cX7_take 15 = .ok (.invokevirtual 61, 3) := by decide +kernel
theorem dX7_take_18 : decode cX7_take 18 = .ok (.astore 4, 2) := by decide +kernel
theorem dX7_take_20 : decode cX7_take 20 = .ok (.aload 4, 2) := by decide +kernel
theorem dX7_take_22 : decode cX7_take 22 = .ok (.ifnonnull 13, 3) := by decide +kernel
theorem dX7_take_25 : decode cX7_take 25 = .ok (.aload_n 0, 1) := by decide +kernel
theorem dX7_take_26 : decode cX7_take 26 = .ok (.aload_n 0, 1) := by decide +kernel
theorem dX7_take_27 : decode cX7_take 27 = .ok (.iload_n 1, 1) := by decide +kernel
theorem dX7_take_28 : decode cX7_take 28 = .ok (.invokevirtual 65, 3) := by decide +kernel
theorem dX7_take_31 : decode cX7_take 31 = .ok (.invokevirtual 41, 3) := by decide +kernel
theorem dX7_take_34 : decode cX7_take 34 = .ok (.ireturn, 1) := by decide +kernel
theorem dX7_take_35 : decode cX7_take 35 = .ok (.aload 4, 2) := by decide +kernel
theorem dX7_take_37 : decode cX7_take 37 = .ok (.invokevirtual 132, 3) := by decide +kernel
theorem dX7_take_40 : decode cX7_take 40 = .ok (.ifCond .eq 10, 3) := by decide +kernel
theorem dX7_take_43 : decode cX7_take 43 = .ok (.aload_n 0, 1) := by decide +kernel
theorem dX7_take_44 : decode cX7_take 44 = .ok (.bipush 6, 2) := by decide +kernel
theorem dX7_take_46 : decode cX7_take 46 = .ok (.invokevirtual 41, 3) := by decide +kernel
theorem dX7_take_49 : decode cX7_take 49 = .ok (.ireturn, 1) := by decide +kernel
theorem dX7_take_50 : decode cX7_take 50 = .ok (.aload 4, 2) := by decide +kernel
theorem dX7_take_52 : decode cX7_take 52 = .ok (.iload_n 2, 1) := by decide +kernel
theorem dX7_take_53 : decode cX7_take 53 = .ok (.invokevirtual 114, 3) := by decide +kernel
theorem dX7_take_56 : decode cX7_take 56 = .ok (.ifCond .ne 9, 3) := by decide +kernel
theorem dX7_take_59 : decode cX7_take 59 = .ok (.aload_n 0, 1) := by decide +kernel
theorem dX7_take_60 : decode cX7_take 60 = .ok (.iconst 4, 1) := by decide +kernel
theorem dX7_take_61 : decode cX7_take 61 = .ok (.invokevirtual 41, 3) := by decide +kernel
theorem dX7_take_64 : decode cX7_take 64 = .ok (.ireturn, 1) := by decide +kernel
theorem dX7_take_65 : decode cX7_take 65 = .ok (.aload 4, 2) := by decide +kernel
theorem dX7_take_67 : decode cX7_take 67 = .ok (.iload_n 2, 1) := by decide +kernel
theorem dX7_take_68 : decode cX7_take 68 = .ok (.aload_n 0, 1) := by decide +kernel
theorem dX7_take_69 : decode cX7_take 69 = .ok (.getfield 26, 3) := by decide +kernel
theorem dX7_take_72 : decode cX7_take 72 = .ok (.invokevirtual 117, 3) := by decide +kernel
theorem dX7_take_75 : decode cX7_take 75 = .ok (.aload_n 0, 1) := by decide +kernel
theorem dX7_take_76 : decode cX7_take 76 = .ok (.getfield 11, 3) := by decide +kernel
theorem dX7_take_79 : decode cX7_take 79 = .ok (.iload_n 3, 1) := by decide +kernel
theorem dX7_take_80 : decode cX7_take 80 = .ok (.aload_n 0, 1) := by decide +kernel
theorem dX7_take_81 : decode cX7_take 81 = .ok (.getfield 26, 3) := by decide +kernel
theorem dX7_take_84 : decode cX7_take 84 = .ok (.getfield 128, 3) := by decide +kernel
theorem dX7_take_87 : decode cX7_take 87 = .ok (.aastore, 1) := by decide +kernel
theorem dX7_take_88 : decode cX7_take 88 = .ok (.aload_n 0, 1) := by decide +kernel
theorem dX7_take_89 : decode cX7_take 89 = .ok (.aload_n 0, 1) := by decide +kernel
theorem dX7_take_90 : decode cX7_take 90 = .ok (.getfield 26, 3) := by decide +kernel
theorem dX7_take_93 : decode cX7_take 93 = .ok (.getfield 128, 3) := by decide +kernel
theorem dX7_take_96 : decode cX7_take 96 = .ok (.invokestatic 57, 3) := by decide +kernel
theorem dX7_take_99 : decode cX7_take 99 = .ok (.invokevirtual 50, 3) := by decide +kernel
theorem dX7_take_102 : decode cX7_take 102 = .ok (.ireturn, 1) := by decide +kernel
theorem dX7_copy_0 : decode cX7_copy 0 = .ok (.aload_n 0, 1) := by decide +kernel
theorem dX7_copy_1 : decode cX7_copy 1 = .ok (.iload_n 1, 1) := by decide +kernel
theorem dX7_copy_2 : decode cX7_copy 2 = .ok (.invokevirtual 61, 3) := by decide +kernel
theorem dX7_copy_5 : decode cX7_copy 5 = .ok (.astore_n 3, 1) := by decide +kernel
theorem dX7_copy_6 : decode cX7_copy 6 = .ok (.aload_n 0, 1) := by decide +kernel
theorem dX7_copy_7 : decode cX7_copy 7 = .ok (.iload_n 2, 1) := by decide +kernel
theorem dX7_copy_8 : decode cX7_copy 8 = .ok (.invokevirtual 61, 3) := by decide +kernel
theorem dX7_copy_11 : decode cX7_copy 11 = .ok (.astore 4, 2) := by decide +kernel
theorem dX7_copy_13 : decode cX7_copy 13 = .ok (.aload_n 3, 1) := by decide +kernel
theorem dX7_copy_14 : decode cX7_copy 14 = .ok (.ifnull 8, 3) := by decide +kernel
theorem dX7_copy_17 : decode cX7_copy 17 = .ok (.aload 4, 2) := by decide +kernel
theorem dX7_copy_19 : decode cX7_copy 19 = .ok (.ifnonnull 21, 3) := by decide +kernel
theorem dX7_copy_22 : decode cX7_copy 22 = .ok (.aload_n 0, 1) := by decide +kernel
theorem dX7_copy_23 : decode cX7_copy 23 = .ok (.aload_n 0, 1) := by decide +kernel
theorem dX7_copy_24 : decode cX7_copy 24 = .ok (.iload_n 1, 1) := by decide +kernel
theorem dX7_copy_25 : decode cX7_copy 25 = .ok (.invokevirtual 65, 3) := by decide +kernel
theorem dX7_copy_28 : decode cX7_copy 28 = .ok (.aload_n 0, 1) := by decide +kernel
theorem dX7_copy_29 : decode cX7_copy 29 = .ok (.iload_n 2, 1) := by decide +kernel
theorem dX7_copy_30 : decode cX7_copy 30 = .ok (.invokevirtual 65, 3) := by decide +kernel
theorem dX7_copy_33 : decode cX7_copy 33 = .ok (.invokestatic 135, 3) := by decide +kernel
theorem dX7_copy_36 : decode cX7_copy 36 = .ok (.invokevirtual 41, 3) := by decide +kernel
theorem dX7_copy_39 : decode cX7_copy 39 = .ok (.ireturn, 1) := by decide +kernel
theorem dX7_copy_40 : decode cX7_copy 40 = .ok (.aload_n 3, 1) := by decide +kernel
theorem dX7_copy_41 : decode cX7_copy 41 = .ok (.invokevirtual 68, 3) := by decide +kernel
theorem dX7_copy_44 : decode cX7_copy 44 = .ok (.aload 4, 2) := by decide +kernel
theorem dX7_copy_46 : decode cX7_copy 46 = .ok (.invokevirtual 68, 3) := by decide +kernel
theorem dX7_copy_49 : decode cX7_copy 49 = .ok (.if_icmp .eq 9, 3) := by decide +kernel
theorem dX7_copy_52 : decode cX7_copy 52 = .ok (.aload_n 0, 1) := by decide +kernel
theorem dX7_copy_53 : decode cX7_copy 53 = .ok (.iconst 4, 1) := by decide +kernel
theorem dX7_copy_54 : decode cX7_copy 54 = .ok (.invokevirtual 41, 3) := by decide +kernel
theorem dX7_copy_57 : decode cX7_copy 57 = .ok (.ireturn, 1) := by decide +kernel
theorem dX7_copy_58 : decode cX7_copy 58 = .ok (.iconst 0, 1) := by decide +kernel
theorem dX7_copy_59 : decode cX7_copy 59 = .ok (.istore 5, 2) := by decide +kernel
theorem dX7_copy_61 : decode cX7_copy 61 = .ok (.iload 5, 2) := by decide +kernel
theorem dX7_copy_63 : decode cX7_copy 63 = .ok (.aload_n 3, 1) := by decide +kernel
theorem dX7_copy_64 : decode cX7_copy 64 = .ok (.invokevirtual 68, 3) := by decide +kernel
theorem dX7_copy_67 : decode cX7_copy 67 = .ok (.if_icmp .ge 43, 3) := by decide +kernel
theorem dX7_copy_70 : decode cX7_copy 70 = .ok (.aload_n 3, 1) := by decide +kernel
theorem dX7_copy_71 : decode cX7_copy 71 = .ok (.iload 5, 2) := by decide +kernel
theorem dX7_copy_73 : decode cX7_copy 73 = .ok (.aload_n 0, 1) := by decide +kernel
theorem dX7_copy_74 : decode cX7_copy 74 = .ok (.getfield 17, 3) := by decide +kernel
theorem dX7_copy_77 : decode cX7_copy 77 = .ok (.iload 5, 2) := by decide +kernel
theorem dX7_copy_79 : decode cX7_copy 79 = .ok (.aaload, 1) := by decide +kernel
theorem dX7_copy_80 : decode cX7_copy 80 = .ok (.invokevirtual 117, 3) := by decide +kernel
theorem dX7_copy_83 : decode cX7_copy 83 = .ok (.aload 4, 2) := by decide +kernel
theorem dX7_copy_85 : decode cX7_copy 85 = .ok (.aload_n 0, 1) := by decide +kernel
theorem dX7_copy_86 : decode cX7_copy 86 = .ok (.getfield 17, 3) := by decide +kernel
theorem dX7_copy_89 : decode cX7_copy 89 = .ok (.iload 5, 2) := by decide +kernel
theorem dX7_copy_91 : decode cX7_copy 91 = .ok (.aaload, 1) := by decide +kernel
theorem dX7_copy_92 : decode cX7_copy 92 = .ok (.invokevirtual 139, 3) := by decide +kernel
theorem dX7_copy_95 : decode cX7_copy 95 = .ok (.ifCond .ne 9, 3) := by decide +kernel
theorem dX7_copy_98 : decode cX7_copy 98 = .ok (.aload_n 0, 1) := by decide +kernel
theorem dX7_copy_99 : decode cX7_copy 99 = .ok (.iconst 5, 1) := by decide +kernel
theorem dX7_copy_100 : decode cX7_copy 100 = .ok (.invokevirtual 41, 3) := by decide +kernel
theorem dX7_copy_103 : decode cX7_copy 103 = .ok (.ireturn, 1) := by decide +kernel
theorem dX7_copy_104 : decode cX7_copy 104 = .ok (.iinc 5 1, 3) := by decide +kernel
theorem dX7_copy_107 : decode cX7_copy 107 = .ok (.goto (-46), 3) := by decide +kernel
theorem dX7_copy_110 : decode cX7_copy 110 = .ok (.aload_n 0, 1) := by decide +kernel
theorem dX7_copy_111 : decode cX7_copy 111 = .ok (.aload_n 0, 1) := by decide +kernel
theorem dX7_copy_112 : decode cX7_copy 112 = .ok (.aload 4, 2) := by decide +kernel
theorem dX7_copy_114 : decode cX7_copy 114 = .ok (.invokevirtual 143, 3) := by decide +kernel
theorem dX7_copy_117 : decode cX7_copy 117 = .ok (.invokevirtual 50, 3) := by decide +kernel
theorem dX7_copy_120 : decode cX7_copy 120 = .ok (.ireturn, 1) := by decide +kernel
theorem dX7_gather_0 : decode cX7_gather 0 = .ok (.aload_n 0, 1) := by decide +kernel
theorem dX7_gather_1 : decode cX7_gather 1 = .ok (.iload_n 1, 1) := by decide +kernel
theorem dX7_gather_2 : decode cX7_gather 2 = .ok (.iload_n 2, 1) := by decide +kernel
theorem dX7_gather_3 : decode cX7_gather 3 = .ok (.iload_n 3, 1) := by decide +kernel
theorem dX7_gather_4 : decode cX7_gather 4 = .ok (.iconst 1, 1) := by decide +kernel
theorem dX7_gather_5 : decode cX7_gather 5 = .ok (.invokevirtual 147, 3) := by decide +kernel
theorem dX7_gather_8 : decode cX7_gather 8 = .ok (.ireturn, 1) := by decide +kernel
theorem dX7_scatter_0 : decode cX7_scatter 0 = .ok (.aload_n 0, 1) := by decide +kernel
theorem dX7_scatter_1 : decode cX7_scatter 1 = .ok (.iload_n 1, 1) := by decide +kernel
theorem dX7_scatter_2 : decode cX7_scatter 2 = .ok (.iload_n 2, 1) := by decide +kernel
theorem dX7_scatter_3 : decode cX7_scatter 3 = .ok (.iload_n 3, 1) := by decide +kernel
theorem dX7_scatter_4 : decode cX7_scatter 4 = .ok (.iconst 0, 1) := by decide +kernel
theorem dX7_scatter_5 : decode cX7_scatter 5 = .ok (.invokevirtual 147, 3) := by decide +kernel
theorem dX7_scatter_8 : decode cX7_scatter 8 = .ok (.ireturn, 1) := by decide +kernel
theorem dX7_merge_0 : decode cX7_merge 0 = .ok (.aload_n 0, 1) := by decide +kernel
theorem dX7_merge_1 : decode cX7_merge 1 = .ok (.iload_n 1, 1) := by decide +kernel
theorem dX7_merge_2 : decode cX7_merge 2 = .ok (.invokevirtual 61, 3) := by decide +kernel
theorem dX7_merge_5 : decode cX7_merge 5 = .ok (.astore 4, 2) := by decide +kernel
theorem dX7_merge_7 : decode cX7_merge 7 = .ok (.aload_n 0, 1) := by decide +kernel
theorem dX7_merge_8 : decode cX7_merge 8 = .ok (.iload_n 2, 1) := by decide +kernel
theorem dX7_merge_9 : decode cX7_merge 9 = .ok (.invokevirtual 61, 3) := by decide +kernel
theorem dX7_merge_12 : decode cX7_merge 12 = .ok (.astore 5, 2) := by decide +kernel
theorem dX7_merge_14 : decode cX7_merge 14 = .ok (.aload_n 0, 1) := by decide +kernel
theorem dX7_merge_15 : decode cX7_merge 15 = .ok (.iload_n 3, 1) := by decide +kernel
theorem dX7_merge_16 : decode cX7_merge 16 = .ok (.invokevirtual 61, 3) := by decide +kernel
theorem dX7_merge_19 : decode cX7_merge 19 = .ok (.astore 6, 2) := by decide +kernel
theorem dX7_merge_21 : decode cX7_merge 21 = .ok (.aload 4, 2) := by decide +kernel
theorem dX7_merge_23 : decode cX7_merge 23 = .ok (.ifnull 13, 3) := by decide +kernel
theorem dX7_merge_26 : decode cX7_merge 26 = .ok (.aload 5, 2) := by decide +kernel
theorem dX7_merge_28 : decode cX7_merge 28 = .ok (.ifnull 8, 3) := by decide +kernel
theorem dX7_merge_31 : decode cX7_merge 31 = .ok (.aload 6, 2) := by decide +kernel
theorem dX7_merge_33 : decode cX7_merge 33 = .ok (.ifnonnull 15, 3) := by decide +kernel
theorem dX7_merge_36 : decode cX7_merge 36 = .ok (.aload_n 0, 1) := by decide +kernel
theorem dX7_merge_37 : decode cX7_merge 37 = .ok (.aload_n 0, 1) := by decide +kernel
theorem dX7_merge_38 : decode cX7_merge 38 = .ok (.iload_n 1, 1) := by decide +kernel
theorem dX7_merge_39 : decode cX7_merge 39 = .ok (.iload_n 2, 1) := by decide +kernel
theorem dX7_merge_40 : decode cX7_merge 40 = .ok (.iload_n 3, 1) := by decide +kernel
theorem dX7_merge_41 : decode cX7_merge 41 = .ok (.invokevirtual 151, 3) := by decide +kernel
theorem dX7_merge_44 : decode cX7_merge 44 = .ok (.invokevirtual 41, 3) := by decide +kernel
theorem dX7_merge_47 : decode cX7_merge 47 = .ok (.ireturn, 1) := by decide +kernel
theorem dX7_merge_48 : decode cX7_merge 48 = .ok (.aload 4, 2) := by decide +kernel
theorem dX7_merge_50 : decode cX7_merge 50 = .ok (.invokevirtual 132, 3) := by decide +kernel
theorem dX7_merge_53 : decode cX7_merge 53 = .ok (.ifCond .eq 19, 3) := by decide +kernel
theorem dX7_merge_56 : decode cX7_merge 56 = .ok (.aload 5, 2) := by decide +kernel
theorem dX7_merge_58 : decode cX7_merge 58 = .ok (.invokevirtual 132, 3) := by decide +kernel
theorem dX7_merge_61 : decode cX7_merge 61 = .ok (.ifCond .eq 11, 3) := by decide +kernel
theorem dX7_merge_64 : decode cX7_merge 64 = .ok (.aload 6, 2) := by decide +kernel
theorem dX7_merge_66 : decode cX7_merge 66 = .ok (.invokevirtual 132, 3) := by decide +kernel
theorem dX7_merge_69 : decode cX7_merge 69 = .ok (.ifCond .ne 10, 3) := by decide +kernel
theorem dX7_merge_72 : decode cX7_merge 72 = .ok (.aload_n 0, 1) := by decide +kernel
theorem dX7_merge_73 : decode cX7_merge 73 = .ok (.bipush 6, 2) := by decide +kernel
theorem dX7_merge_75 : decode cX7_merge 75 = .ok (.invokevirtual 41, 3) := by decide +kernel
theorem dX7_merge_78 : decode cX7_merge 78 = .ok (.ireturn, 1) := by decide +kernel
theorem dX7_merge_79 : decode cX7_merge 79 = .ok (.aload 4, 2) := by decide +kernel
theorem dX7_merge_81 : decode cX7_merge 81 = .ok (.getfield 155, 3) := by decide +kernel
theorem dX7_merge_84 : decode cX7_merge 84 = .ok (.ifCond .ne 7, 3) := by decide +kernel
theorem dX7_merge_87 : decode cX7_merge 87 = .ok (.iconst 1, 1) := by decide +kernel
theorem dX7_merge_88 : decode cX7_merge 88 = .ok (.goto 4, 3) := by decide +kernel
theorem dX7_merge_91 : decode cX7_merge 91 = .ok (.iconst 0, 1) := by decide +kernel
theorem dX7_merge_92 : decode cX7_merge 92 = .ok (.aload 5, 2) := by decide +kernel
theorem dX7_merge_94 : decode cX7_merge 94 = .ok (.getfield 155, 3) := by decide +kernel
theorem dX7_merge_97 : decode cX7_merge 97 = .ok (.ifCond .ne 7, 3) := by decide +kernel
theorem dX7_merge_100 : decode cX7_merge 100 = .ok (.iconst 1, 1) := by decide +kernel
theorem dX7_merge_101 : decode cX7_merge 101 = .ok (.goto 4, 3) := by decide +kernel
theorem dX7_merge_104 : decode cX7_merge 104 = .ok (.iconst 0, 1) := by decide +kernel
theorem dX7_merge_105 : decode cX7_merge 105 = .ok (.if_icmp .eq 10, 3) := by decide +kernel
theorem dX7_merge_108 : decode cX7_merge 108 = .ok (.aload_n 0, 1) := by decide +kernel
theorem dX7_merge_109 : decode cX7_merge 109 = .ok (.bipush 6, 2) := by decide +kernel
theorem dX7_merge_111 : decode cX7_merge 111 = .ok (.invokevirtual 41, 3) := by decide +kernel
theorem dX7_merge_114 : decode cX7_merge 114 = .ok (.ireturn, 1) := by decide +kernel
theorem dX7_merge_115 : decode cX7_merge 115 = .ok (.aload 6, 2) := by decide +kernel
theorem dX7_merge_117 : decode cX7_merge 117 = .ok (.invokevirtual 68, 3) := by decide +kernel
theorem dX7_merge_120 : decode cX7_merge 120 = .ok (.aload 4, 2) := by decide +kernel
theorem dX7_merge_122 : decode cX7_merge 122 = .ok (.invokevirtual 68, 3) := by decide +kernel
theorem dX7_merge_125 : decode cX7_merge 125 = .ok (.aload 5, 2) := by decide +kernel
theorem dX7_merge_127 : decode cX7_merge 127 = .ok (.invokevirtual 68, 3) := by decide +kernel
theorem dX7_merge_130 : decode cX7_merge 130 = .ok (.iadd, 1) := by decide +kernel
theorem dX7_merge_131 : decode cX7_merge 131 = .ok (.if_icmp .eq 9, 3) := by decide +kernel
theorem dX7_merge_134 : decode cX7_merge 134 = .ok (.aload_n 0, 1) := by decide +kernel
theorem dX7_merge_135 : decode cX7_merge 135 = .ok (.iconst 4, 1) := by decide +kernel
theorem dX7_merge_136 : decode cX7_merge 136 = .ok (.invokevirtual 41, 3) := by decide +kernel
theorem dX7_merge_139 : decode cX7_merge 139 = .ok (.ireturn, 1) := by decide +kernel
theorem dX7_merge_140 : decode cX7_merge 140 = .ok (.iconst 0, 1) := by decide +kernel
theorem dX7_merge_141 : decode cX7_merge 141 = .ok (.istore 7, 2) := by decide +kernel
theorem dX7_merge_143 : decode cX7_merge 143 = .ok (.iconst 0, 1) := by decide +kernel
theorem dX7_merge_144 : decode cX7_merge 144 = .ok (.istore 8, 2) := by decide +kernel
theorem dX7_merge_146 : decode cX7_merge 146 = .ok (.iload 8, 2) := by decide +kernel
theorem dX7_merge_148 : decode cX7_merge 148 = .ok (.aload 6, 2) := by decide +kernel
theorem dX7_merge_150 : decode cX7_merge 150 = .ok (.invokevirtual 68, 3) := by decide +kernel
theorem dX7_merge_153 : decode cX7_merge 153 = .ok (.if_icmp .ge 86, 3) := by decide +kernel
theorem dX7_merge_156 : decode cX7_merge 156 = .ok (.iload 8, 2) := by decide +kernel
theorem dX7_merge_158 : decode cX7_merge 158 = .ok (.iload 7, 2) := by decide +kernel
theorem dX7_merge_160 : decode cX7_merge 160 = .ok (.isub, 1) := by decide +kernel
theorem dX7_merge_161 : decode cX7_merge 161 = .ok (.istore 9, 2) := by decide +kernel
theorem dX7_merge_163 : decode cX7_merge 163 = .ok (.aload_n 0, 1) := by decide +kernel
theorem dX7_merge_164 : decode cX7_merge 164 = .ok (.aload 4, 2) := by decide +kernel
theorem dX7_merge_166 : decode cX7_merge 166 = .ok (.iload 7, 2) := by decide +kernel
theorem dX7_merge_168 : decode cX7_merge 168 = .ok (.aload 5, 2) := by decide +kernel
theorem dX7_merge_170 : decode cX7_merge 170 = .ok (.iload 9, 2) := by decide +kernel
theorem dX7_merge_172 : decode cX7_merge 172 = .ok (.invokevirtual 156, 3) := by decide +kernel
theorem dX7_merge_175 : decode cX7_merge 175 = .ok (.ifCond .eq 20, 3) := by decide +kernel
theorem dX7_merge_178 : decode cX7_merge 178 = .ok (.aload 5, 2) := by decide +kernel
theorem dX7_merge_180 : decode cX7_merge 180 = .ok (.iload 9, 2) := by decide +kernel
theorem dX7_merge_182 : decode cX7_merge 182 = .ok (.aload_n 0, 1) := by decide +kernel
theorem dX7_merge_183 : decode cX7_merge 183 = .ok (.getfield 17, 3) := by decide +kernel
theorem dX7_merge_186 : decode cX7_merge 186 = .ok (.iload 8, 2) := by decide +kernel
theorem dX7_merge_188 : decode cX7_merge 188 = .ok (.aaload, 1) := by decide +kernel
theorem dX7_merge_189 : decode cX7_merge 189 = .ok (.invokevirtual 117, 3) := by decide +kernel
theorem dX7_merge_192 : decode cX7_merge 192 = .ok (.goto 20, 3) := by decide +kernel
theorem dX7_merge_195 : decode cX7_merge 195 = .ok (.aload 4, 2) := by decide +kernel
theorem dX7_merge_197 : decode cX7_merge 197 = .ok (.iload 7, 2) := by decide +kernel
theorem dX7_merge_199 : decode cX7_merge 199 = .ok (.aload_n 0, 1) := by decide +kernel
theorem dX7_merge_200 : decode cX7_merge 200 = .ok (.getfield 17, 3) := by decide +kernel
theorem dX7_merge_203 : decode cX7_merge 203 = .ok (.iload 8, 2) := by decide +kernel
theorem dX7_merge_205 : decode cX7_merge 205 = .ok (.aaload, 1) := by decide +kernel
theorem dX7_merge_206 : decode cX7_merge 206 = .ok (.invokevirtual 117, 3) := by decide +kernel
theorem dX7_merge_209 : decode cX7_merge 209 = .ok (.iinc 7 1, 3) := by decide +kernel
theorem dX7_merge_212 : decode cX7_merge 212 = .ok (.aload 6, 2) := by decide +kernel
theorem dX7_merge_214 : decode cX7_merge 214 = .ok (.aload_n 0, 1) := by decide +kernel
theorem dX7_merge_215 : decode cX7_merge 215 = .ok (.getfield 17, 3) := by decide +kernel
theorem dX7_merge_218 : decode cX7_merge 218 = .ok (.iload 8, 2) := by decide +kernel
theorem dX7_merge_220 : decode cX7_merge 220 = .ok (.aaload, 1) := by decide +kernel
theorem dX7_merge_221 : decode cX7_merge 221 = .ok (.invokevirtual 139, 3) := by decide +kernel
theorem dX7_merge_224 : decode cX7_merge 224 = .ok (.ifCond .ne 9, 3) := by decide +kernel
theorem dX7_merge_227 : decode cX7_merge 227 = .ok (.aload_n 0, 1) := by decide +kernel
theorem dX7_merge_228 : decode cX7_merge 228 = .ok (.iconst 5, 1) := by decide +kernel
theorem dX7_merge_229 : decode cX7_merge 229 = .ok (.invokevirtual 41, 3) := by decide +kernel
theorem dX7_merge_232 : decode cX7_merge 232 = .ok (.ireturn, 1) := by decide +kernel
theorem dX7_merge_233 : decode cX7_merge 233 = .ok (.iinc 8 1, 3) := by decide +kernel
theorem dX7_merge_236 : decode cX7_merge 236 = .ok (.goto (-90), 3) := by decide +kernel
theorem dX7_merge_239 : decode cX7_merge 239 = .ok (.aload_n 0, 1) := by decide +kernel
theorem dX7_merge_240 : decode cX7_merge 240 = .ok (.aload_n 0, 1) := by decide +kernel
theorem dX7_merge_241 : decode cX7_merge 241 = .ok (.aload 6, 2) := by decide +kernel
theorem dX7_merge_243 : decode cX7_merge 243 = .ok (.invokevirtual 143, 3) := by decide +kernel
theorem dX7_merge_246 : decode cX7_merge 246 = .ok (.invokevirtual 50, 3) := by decide +kernel
theorem dX7_merge_249 : decode cX7_merge 249 = .ok (.ireturn, 1) := by decide +kernel
theorem dX7_sort_0 : decode cX7_sort 0 = .ok (.aload_n 0, 1) := by decide +kernel
theorem dX7_sort_1 : decode cX7_sort 1 = .ok (.iload_n 1, 1) := by decide +kernel
theorem dX7_sort_2 : decode cX7_sort 2 = .ok (.invokevirtual 61, 3) := by decide +kernel
theorem dX7_sort_5 : decode cX7_sort 5 = .ok (.astore_n 2, 1) := by decide +kernel
theorem dX7_sort_6 : decode cX7_sort 6 = .ok (.aload_n 2, 1) := by decide +kernel
theorem dX7_sort_7 : decode cX7_sort 7 = .ok (.ifnonnull 13, 3) := by decide +kernel
theorem dX7_sort_10 : decode cX7_sort 10 = .ok (.aload_n 0, 1) := by decide +kernel
theorem dX7_sort_11 : decode cX7_sort 11 = .ok (.aload_n 0, 1) := by decide +kernel
theorem dX7_sort_12 : decode cX7_sort 12 = .ok (.iload_n 1, 1) := by decide +kernel
theorem dX7_sort_13 : decode cX7_sort 13 = .ok (.invokevirtual 65, 3) := by decide +kernel
theorem dX7_sort_16 : decode cX7_sort 16 = .ok (.invokevirtual 41, 3) := by decide +kernel
theorem dX7_sort_19 : decode cX7_sort 19 = .ok (.ireturn, 1) := by decide +kernel
theorem dX7_sort_20 : decode cX7_sort 20 = .ok (.iconst 0, 1) := by decide +kernel
theorem dX7_sort_21 : decode cX7_sort 21 = .ok (.istore_n 3, 1) := by decide +kernel
theorem dX7_sort_22 : decode cX7_sort 22 = .ok (.iload_n 3, 1) := by decide +kernel
theorem dX7_sort_23 : decode cX7_sort 23 = .ok (.aload_n 2, 1) := by decide +kernel
theorem dX7_sort_24 : decode cX7_sort 24 = .ok (.invokevirtual 68, 3) := by decide +kernel
theorem dX7_sort_27 : decode cX7_sort 27 = .ok (.if_icmp .ge 25, 3) := by decide +kernel
theorem dX7_sort_30 : decode cX7_sort 30 = .ok (.aload_n 2, 1) := by decide +kernel
theorem dX7_sort_31 : decode cX7_sort 31 = .ok (.iload_n 3, 1) := by decide +kernel
theorem dX7_sort_32 : decode cX7_sort 32 = .ok (.aload_n 0, 1) := by decide +kernel
theorem dX7_sort_33 : decode cX7_sort 33 = .ok (.getfield 17, 3) := by decide +kernel
theorem dX7_sort_36 : decode cX7_sort 36 = .ok (.iload_n 3, 1) := by decide +kernel
theorem dX7_sort_37 : decode cX7_sort 37 = .ok (.aaload, 1) := by decide +kernel
theorem dX7_sort_38 : decode cX7_sort 38 = .ok (.invokevirtual 117, 3) := by decide +kernel
theorem dX7_sort_41 : decode cX7_sort 41 = .ok (.aload_n 0, 1) := by decide +kernel
theorem dX7_sort_42 : decode cX7_sort 42 = .ok (.iload_n 3, 1) := by decide +kernel
theorem dX7_sort_43 : decode cX7_sort 43 = .ok (.invokevirtual 160, 3) := by decide +kernel
theorem dX7_sort_46 : decode cX7_sort 46 = .ok (.iinc 3 1, 3) := by decide +kernel
theorem dX7_sort_49 : decode cX7_sort 49 = .ok (.goto (-27), 3) := by decide +kernel
theorem dX7_sort_52 : decode cX7_sort 52 = .ok (.aload_n 0, 1) := by decide +kernel
theorem dX7_sort_53 : decode cX7_sort 53 = .ok (.aload_n 2, 1) := by decide +kernel
theorem dX7_sort_54 : decode cX7_sort 54 = .ok (.invokevirtual 164, 3) := by decide +kernel
theorem dX7_sort_57 : decode cX7_sort 57 = .ok (.istore_n 3, 1) := by decide +kernel
theorem dX7_sort_58 : decode cX7_sort 58 = .ok (.aload_n 0, 1) := by decide +kernel
theorem dX7_sort_59 : decode cX7_sort 59 = .ok (.aload_n 2, 1) := by decide +kernel
theorem dX7_sort_60 : decode cX7_sort 60 = .ok (.invokevirtual 143, 3) := by decide +kernel
theorem dX7_sort_63 : decode cX7_sort 63 = .ok (.pop, 1) := by decide +kernel
theorem dX7_sort_64 : decode cX7_sort 64 = .ok (.aload_n 0, 1) := by decide +kernel
theorem dX7_sort_65 : decode cX7_sort 65 = .ok (.iload_n 3, 1) := by decide +kernel
theorem dX7_sort_66 : decode cX7_sort 66 = .ok (.invokevirtual 50, 3) := by decide +kernel
theorem dX7_sort_69 : decode cX7_sort 69 = .ok (.ireturn, 1) := by decide +kernel
theorem dX7_turn_0 : decode cX7_turn 0 = .ok (.aload_n 0, 1) := by decide +kernel
theorem dX7_turn_1 : decode cX7_turn 1 = .ok (.iload_n 1, 1) := by decide +kernel
theorem dX7_turn_2 : decode cX7_turn 2 = .ok (.invokevirtual 61, 3) := by decide +kernel
theorem dX7_turn_5 : decode cX7_turn 5 = .ok (.astore_n 3, 1) := by decide +kernel
theorem dX7_turn_6 : decode cX7_turn 6 = .ok (.aload_n 3, 1) := by decide +kernel
theorem dX7_turn_7 : decode cX7_turn 7 = .ok (.ifnonnull 13, 3) := by decide +kernel
theorem dX7_turn_10 : decode cX7_turn 10 = .ok (.aload_n 0, 1) := by decide +kernel
theorem dX7_turn_11 : decode cX7_turn 11 = .ok (.aload_n 0, 1) := by decide +kernel
theorem dX7_turn_12 : decode cX7_turn 12 = .ok (.iload_n 1, 1) := by decide +kernel
theorem dX7_turn_13 : decode cX7_turn 13 = .ok (.invokevirtual 65, 3) := by decide +kernel
theorem dX7_turn_16 : decode cX7_turn 16 = .ok (.invokevirtual 41, 3) := by decide +kernel
theorem dX7_turn_19 : decode cX7_turn 19 = .ok (.ireturn, 1) := by decide +kernel
theorem dX7_turn_20 : decode cX7_turn 20 = .ok (.aload_n 3, 1) := by decide +kernel
theorem dX7_turn_21 : decode cX7_turn 21 = .ok (.invokevirtual 68, 3) := by decide +kernel
theorem dX7_turn_24 : decode cX7_turn 24 = .ok (.istore 4, 2) := by decide +kernel
theorem dX7_turn_26 : decode cX7_turn 26 = .ok (.iload 4, 2) := by decide +kernel
theorem dX7_turn_28 : decode cX7_turn 28 = .ok (.ifCond .ne 9, 3) := by decide +kernel
theorem dX7_turn_31 : decode cX7_turn 31 = .ok (.aload_n 0, 1) := by decide +kernel
theorem dX7_turn_32 : decode cX7_turn 32 = .ok (.iconst 0, 1) := by decide +kernel
theorem dX7_turn_33 : decode cX7_turn 33 = .ok (.invokevirtual 50, 3) := by decide +kernel
theorem dX7_turn_36 : decode cX7_turn 36 = .ok (.ireturn, 1) := by decide +kernel
theorem dX7_turn_37 : decode cX7_turn 37 = .ok (.iload_n 2, 1) := by decide +kernel
theorem dX7_turn_38 : decode cX7_turn 38 = .ok (.iload 4, 2) := by decide +kernel
theorem dX7_turn_40 : decode cX7_turn 40 = .ok (.invokestatic 167, 3) := by decide +kernel
theorem dX7_turn_43 : decode cX7_turn 43 = .ok (.istore 5, 2) := by decide +kernel
theorem dX7_turn_45 : decode cX7_turn 45 = .ok (.iconst 0, 1) := by decide +kernel
theorem dX7_turn_46 : decode cX7_turn 46 = .ok (.istore 6, 2) := by decide +kernel
theorem dX7_turn_48 : decode cX7_turn 48 = .ok (.iload 6, 2) := by decide +kernel
theorem dX7_turn_50 : decode cX7_turn 50 = .ok (.iload 4, 2) := by decide +kernel
theorem dX7_turn_52 : decode cX7_turn 52 = .ok (.if_icmp .ge 44, 3) := by decide +kernel
theorem dX7_turn_55 : decode cX7_turn 55 = .ok (.iload 6, 2) := by decide +kernel
theorem dX7_turn_57 : decode cX7_turn 57 = .ok (.iload 5, 2) := by decide +kernel
theorem dX7_turn_59 : decode cX7_turn 59 = .ok (.iadd, 1) := by decide +kernel
theorem dX7_turn_60 : decode cX7_turn 60 = .ok (.istore 7, 2) := by decide +kernel
theorem dX7_turn_62 : decode cX7_turn 62 = .ok (.aload_n 3, 1) := by decide +kernel
theorem dX7_turn_63 : decode cX7_turn 63 = .ok (.iload 6, 2) := by decide +kernel
theorem dX7_turn_65 : decode cX7_turn 65 = .ok (.aload_n 0, 1) := by decide +kernel
theorem dX7_turn_66 : decode cX7_turn 66 = .ok (.getfield 17, 3) := by decide +kernel
theorem dX7_turn_69 : decode cX7_turn 69 = .ok (.iload 7, 2) := by decide +kernel
theorem dX7_turn_71 : decode cX7_turn 71 = .ok (.iload 4, 2) := by decide +kernel
theorem dX7_turn_73 : decode cX7_turn 73 = .ok (.if_icmp .ge 8, 3) := by decide +kernel
theorem dX7_turn_76 : decode cX7_turn 76 = .ok (.iload 7, 2) := by decide +kernel
theorem dX7_turn_78 : decode cX7_turn 78 = .ok (.goto 8, 3) := by decide +kernel
theorem dX7_turn_81 : decode cX7_turn 81 = .ok (.iload 7, 2) := by decide +kernel
theorem dX7_turn_83 : decode cX7_turn 83 = .ok (.iload 4, 2) := by decide +kernel
theorem dX7_turn_85 : decode cX7_turn 85 = .ok (.isub, 1) := by decide +kernel
theorem dX7_turn_86 : decode cX7_turn 86 = .ok (.aaload, 1) := by decide +kernel
theorem dX7_turn_87 : decode cX7_turn 87 = .ok (.invokevirtual 117, 3) := by decide +kernel
theorem dX7_turn_90 : decode cX7_turn 90 = .ok (.iinc 6 1, 3) := by decide +kernel
theorem dX7_turn_93 : decode cX7_turn 93 = .ok (.goto (-45), 3) := by decide +kernel
theorem dX7_turn_96 : decode cX7_turn 96 = .ok (.aload_n 0, 1) := by decide +kernel
theorem dX7_turn_97 : decode cX7_turn 97 = .ok (.aload_n 0, 1) := by decide +kernel
theorem dX7_turn_98 : decode cX7_turn 98 = .ok (.aload_n 3, 1) := by decide +kernel
theorem dX7_turn_99 : decode cX7_turn 99 = .ok (.invokevirtual 143, 3) := by decide +kernel
theorem dX7_turn_102 : decode cX7_turn 102 = .ok (.invokevirtual 50, 3) := by decide +kernel
theorem dX7_turn_105 : decode cX7_turn 105 = .ok (.ireturn, 1) := by decide +kernel
theorem dX7_sum_0 : decode cX7_sum 0 = .ok (.aload_n 0, 1) := by decide +kernel
theorem dX7_sum_1 : decode cX7_sum 1 = .ok (.iload_n 1, 1) := by decide +kernel
theorem dX7_sum_2 : decode cX7_sum 2 = .ok (.invokevirtual 61, 3) := by decide +kernel
theorem dX7_sum_5 : decode cX7_sum 5 = .ok (.astore_n 2, 1) := by decide +kernel
theorem dX7_sum_6 : decode cX7_sum 6 = .ok (.aload_n 2, 1) := by decide +kernel
theorem dX7_sum_7 : decode cX7_sum 7 = .ok (.ifnonnull 14, 3) := by decide +kernel
theorem dX7_sum_10 : decode cX7_sum 10 = .ok (.aload_n 0, 1) := by decide +kernel
theorem dX7_sum_11 : decode cX7_sum 11 = .ok (.aload_n 0, 1) := by decide +kernel
theorem dX7_sum_12 : decode cX7_sum 12 = .ok (.iload_n 1, 1) := by decide +kernel
theorem dX7_sum_13 : decode cX7_sum 13 = .ok (.invokevirtual 65, 3) := by decide +kernel
theorem dX7_sum_16 : decode cX7_sum 16 = .ok (.invokevirtual 41, 3) := by decide +kernel
theorem dX7_sum_19 : decode cX7_sum 19 = .ok (.i2l, 1) := by decide +kernel
theorem dX7_sum_20 : decode cX7_sum 20 = .ok (.lreturn, 1) := by decide +kernel
theorem dX7_sum_21 : decode cX7_sum 21 = .ok (.aload_n 2, 1) := by decide +kernel
theorem dX7_sum_22 : decode cX7_sum 22 = .ok (.getfield 155, 3) := by decide +kernel
theorem dX7_sum_25 : decode cX7_sum 25 = .ok (.iconst 1, 1) := by decide +kernel
theorem dX7_sum_26 : decode cX7_sum 26 = .ok (.if_icmp .lt 11, 3) := by decide +kernel
theorem dX7_sum_29 : decode cX7_sum 29 = .ok (.aload_n 2, 1) := by decide +kernel
theorem dX7_sum_30 : decode cX7_sum 30 = .ok (.getfield 155, 3) := by decide +kernel
theorem dX7_sum_33 : decode cX7_sum 33 = .ok (.iconst 5, 1) := by decide +kernel
theorem dX7_sum_34 : decode cX7_sum 34 = .ok (.if_icmp .le 11, 3) := by decide +kernel
theorem dX7_sum_37 : decode cX7_sum 37 = .ok (.aload_n 0, 1) := by decide +kernel
theorem dX7_sum_38 : decode cX7_sum 38 = .ok (.bipush 6, 2) := by decide +kernel
theorem dX7_sum_40 : decode cX7_sum 40 = .ok (.invokevirtual 41, 3) := by decide +kernel
theorem dX7_sum_43 : decode cX7_sum 43 = .ok (.i2l, 1) := by decide +kernel
theorem dX7_sum_44 : decode cX7_sum 44 = .ok (.lreturn, 1) := by decide +kernel
theorem dX7_sum_45 : decode cX7_sum 45 = .ok (.lconst 0, 1) := by decide +kernel
theorem dX7_sum_46 : decode cX7_sum 46 = .ok (.lstore_n 3, 1) := by decide +kernel
theorem dX7_sum_47 : decode cX7_sum 47 = .ok (.iconst 0, 1) := by decide +kernel
theorem dX7_sum_48 : decode cX7_sum 48 = .ok (.istore 5, 2) := by decide +kernel
theorem dX7_sum_50 : decode cX7_sum 50 = .ok (.iload 5, 2) := by decide +kernel
theorem dX7_sum_52 : decode cX7_sum 52 = .ok (.aload_n 2, 1) := by decide +kernel
theorem dX7_sum_53 : decode cX7_sum 53 = .ok (.invokevirtual 68, 3) := by decide +kernel
theorem dX7_sum_56 : decode cX7_sum 56 = .ok (.if_icmp .ge 29, 3) := by decide +kernel
theorem dX7_sum_59 : decode cX7_sum 59 = .ok (.aload_n 2, 1) := by decide +kernel
theorem dX7_sum_60 : decode cX7_sum 60 = .ok (.iload 5, 2) := by decide +kernel
theorem dX7_sum_62 : decode cX7_sum 62 = .ok (.aload_n 0, 1) := by decide +kernel
theorem dX7_sum_63 : decode cX7_sum 63 = .ok (.getfield 26, 3) := by decide +kernel
theorem dX7_sum_66 : decode cX7_sum 66 = .ok (.invokevirtual 117, 3) := by decide +kernel
theorem dX7_sum_69 : decode cX7_sum 69 = .ok (.lload_n 3, 1) := by decide +kernel
theorem dX7_sum_70 : decode cX7_sum 70 = .ok (.aload_n 0, 1) := by decide +kernel
theorem dX7_sum_71 : decode cX7_sum 71 = .ok (.getfield 26, 3) := by decide +kernel
theorem dX7_sum_74 : decode cX7_sum 74 = .ok (.getfield 106, 3) := by decide +kernel
theorem dX7_sum_77 : decode cX7_sum 77 = .ok (.ladd, 1) := by decide +kernel
theorem dX7_sum_78 : decode cX7_sum 78 = .ok (.lstore_n 3, 1) := by decide +kernel
theorem dX7_sum_79 : decode cX7_sum 79 = .ok (.iinc 5 1, 3) := by decide +kernel
theorem dX7_sum_82 : decode cX7_sum 82 = .ok (.goto (-32), 3) := by decide +kernel
theorem dX7_sum_85 : decode cX7_sum 85 = .ok (.aload_n 0, 1) := by decide +kernel
theorem dX7_sum_86 : decode cX7_sum 86 = .ok (.iconst 0, 1) := by decide +kernel
theorem dX7_sum_87 : decode cX7_sum 87 = .ok (.putfield 33, 3) := by decide +kernel
theorem dX7_sum_90 : decode cX7_sum 90 = .ok (.lload_n 3, 1) := by decide +kernel
theorem dX7_sum_91 : decode cX7_sum 91 = .ok (.lreturn, 1) := by decide +kernel
theorem dX7_total_0 : decode cX7_total 0 = .ok (.aload_n 0, 1) := by decide +kernel
theorem dX7_total_1 : decode cX7_total 1 = .ok (.iload_n 1, 1) := by decide +kernel
theorem dX7_total_2 : decode cX7_total 2 = .ok (.invokevirtual 61, 3) := by decide +kernel
theorem dX7_total_5 : decode cX7_total 5 = .ok (.astore_n 2, 1) := by decide +kernel
theorem dX7_total_6 : decode cX7_total 6 = .ok (.aload_n 2, 1) := by decide +kernel
theorem dX7_total_7 : decode cX7_total 7 = .ok (.ifnonnull 14, 3) := by decide +kernel
theorem dX7_total_10 : decode cX7_total 10 = .ok (.aload_n 0, 1) := by decide +kernel
theorem dX7_total_11 : decode cX7_total 11 = .ok (.aload_n 0, 1) := by decide +kernel
theorem dX7_total_12 : decode cX7_total 12 = .ok (.iload_n 1, 1) := by decide +kernel
theorem dX7_total_13 : decode cX7_total 13 = .ok (.invokevirtual 65, 3) := by decide +kernel
theorem dX7_total_16 : decode cX7_total 16 = .ok (.invokevirtual 41, 3) := by decide +kernel
theorem dX7_total_19 : decode cX7_total 19 = .ok (.i2d, 1) := by decide +kernel
theorem dX7_total_20 : decode cX7_total 20 = .ok (.dreturn, 1) := by decide +kernel
theorem dX7_total_21 : decode cX7_total 21 = .ok (.aload_n 2, 1) := by decide +kernel
theorem dX7_total_22 : decode cX7_total 22 = .ok (.invokevirtual 132, 3) := by decide +kernel
theorem dX7_total_25 : decode cX7_total 25 = .ok (.ifCond .eq 10, 3) := by decide +kernel
theorem dX7_total_28 : decode cX7_total 28 = .ok (.aload_n 2, 1) := by decide +kernel
theorem dX7_total_29 : decode cX7_total 29 = .ok (.getfield 155, 3) := by decide +kernel
theorem dX7_total_32 : decode cX7_total 32 = .ok (.ifCond .ne 11, 3) := by decide +kernel
theorem dX7_total_35 : decode cX7_total 35 = .ok (.aload_n 0, 1) := by decide +kernel
theorem dX7_total_36 : decode cX7_total 36 = .ok (.bipush 6, 2) := by decide +kernel
theorem dX7_total_38 : decode cX7_total 38 = .ok (.invokevirtual 41, 3) := by decide +kernel
theorem dX7_total_41 : decode cX7_total 41 = .ok (.i2d, 1) := by decide +kernel
theorem dX7_total_42 : decode cX7_total 42 = .ok (.dreturn, 1) := by decide +kernel
theorem dX7_total_43 : decode cX7_total 43 = .ok (.dconst 0, 1) := by decide +kernel
theorem dX7_total_44 : decode cX7_total 44 = .ok (.dstore_n 3, 1) := by decide +kernel
theorem dX7_total_45 : decode cX7_total 45 = .ok (.iconst 0, 1) := by decide +kernel
theorem dX7_total_46 : decode cX7_total 46 = .ok (.istore 5, 2) := by decide +kernel
theorem dX7_total_48 : decode cX7_total 48 = .ok (.iload 5, 2) := by decide +kernel
theorem dX7_total_50 : decode cX7_total 50 = .ok (.aload_n 2, 1) := by decide +kernel
theorem dX7_total_51 : decode cX7_total 51 = .ok (.invokevirtual 68, 3) := by decide +kernel
theorem dX7_total_54 : decode cX7_total 54 = .ok (.if_icmp .ge 31, 3) := by decide +kernel
theorem dX7_total_57 : decode cX7_total 57 = .ok (.aload_n 2, 1) := by decide +kernel
theorem dX7_total_58 : decode cX7_total 58 = .ok (.iload 5, 2) := by decide +kernel
theorem dX7_total_60 : decode cX7_total 60 = .ok (.aload_n 0, 1) := by decide +kernel
theorem dX7_total_61 : decode cX7_total 61 = .ok (.getfield 26, 3) := by decide +kernel
theorem dX7_total_64 : decode cX7_total 64 = .ok (.invokevirtual 117, 3) := by decide +kernel
theorem dX7_total_67 : decode cX7_total 67 = .ok (.dload_n 3, 1) := by decide +kernel
theorem dX7_total_68 : decode cX7_total 68 = .ok (.aload_n 0, 1) := by decide +kernel
theorem dX7_total_69 : decode cX7_total 69 = .ok (.getfield 26, 3) := by decide +kernel
theorem dX7_total_72 : decode cX7_total 72 = .ok (.bipush 7, 2) := by decide +kernel
theorem dX7_total_74 : decode cX7_total 74 = .ok (.invokevirtual 110, 3) := by decide +kernel
theorem dX7_total_77 : decode cX7_total 77 = .ok (.dadd, 1) := by decide +kernel
theorem dX7_total_78 : decode cX7_total 78 = .ok (.dstore_n 3, 1) := by decide +kernel
theorem dX7_total_79 : decode cX7_total 79 = .ok (.iinc 5 1, 3) := by decide +kernel
theorem dX7_total_82 : decode cX7_total 82 = .ok (.goto (-34), 3) := by decide +kernel
theorem dX7_total_85 : decode cX7_total 85 = .ok (.aload_n 0, 1) := by decide +kernel
theorem dX7_total_86 : decode cX7_total 86 = .ok (.iconst 0, 1) := by decide +kernel
theorem dX7_total_87 : decode cX7_total 87 = .ok (.putfield 33, 3) := by decide +kernel
theorem dX7_total_90 : decode cX7_total 90 = .ok (.dload_n 3, 1) := by decide +kernel
theorem dX7_total_91 : decode cX7_total 91 = .ok (.dreturn, 1) := by decide +kernel
theorem dX7_find_0 : decode cX7_find 0 = .ok (.iload_n 3, 1) := by decide +kernel
theorem dX7_find_1 : decode cX7_find 1 = .ok (.invokestatic 172, 3) := by decide +kernel
theorem dX7_find_4 : decode cX7_find 4 = .ok (.ifCond .ne 9, 3) := by decide +kernel
theorem dX7_find_7 : decode cX7_find 7 = .ok (.aload_n 0, 1) := by decide +kernel
theorem dX7_find_8 : decode cX7_find 8 = .ok (.iconst 1, 1) := by decide +kernel
theorem dX7_find_9 : decode cX7_find 9 = .ok (.invokevirtual 41, 3) := by decide +kernel
theorem dX7_find_12 : decode cX7_find 12 = .ok (.ireturn, 1) := by decide +kernel
theorem dX7_find_13 : decode cX7_find 13 = .ok (.aload_n 0, 1) := by decide +kernel
theorem dX7_find_14 : decode cX7_find 14 = .ok (.iload_n 1, 1) := by decide +kernel
theorem dX7_find_15 : decode cX7_find 15 = .ok (.invokevirtual 61, 3) := by decide +kernel
theorem dX7_find_18 : decode cX7_find 18 = .ok (.astore 6, 2) := by decide +kernel
theorem dX7_find_20 : decode cX7_find 20 = .ok (.aload 6, 2) := by decide +kernel
theorem dX7_find_22 : decode cX7_find 22 = .ok (.ifnonnull 13, 3) := by decide +kernel
theorem dX7_find_25 : decode cX7_find 25 = .ok (.aload_n 0, 1) := by decide +kernel
theorem dX7_find_26 : decode cX7_find 26 = .ok (.aload_n 0, 1) := by decide +kernel
theorem dX7_find_27 : decode cX7_find 27 = .ok (.iload_n 1, 1) := by decide +kernel
theorem dX7_find_28 : decode cX7_find 28 = .ok (.invokevirtual 65, 3) := by decide +kernel
theorem dX7_find_31 : decode cX7_find 31 = .ok (.invokevirtual 41, 3) := by decide +kernel
theorem dX7_find_34 : decode cX7_find 34 = .ok (.ireturn, 1) := by decide +kernel
theorem dX7_find_35 : decode cX7_find 35 = .ok (.aload 6, 2) := by decide +kernel
theorem dX7_find_37 : decode cX7_find 37 = .ok (.invokevirtual 132, 3) := by decide +kernel
theorem dX7_find_40 : decode cX7_find 40 = .ok (.ifCond .ne 10, 3) := by decide +kernel
theorem dX7_find_43 : decode cX7_find 43 = .ok (.aload_n 0, 1) := by decide +kernel
theorem dX7_find_44 : decode cX7_find 44 = .ok (.bipush 6, 2) := by decide +kernel
theorem dX7_find_46 : decode cX7_find 46 = .ok (.invokevirtual 41, 3) := by decide +kernel
theorem dX7_find_49 : decode cX7_find 49 = .ok (.ireturn, 1) := by decide +kernel
theorem dX7_find_50 : decode cX7_find 50 = .ok (.aload_n 0, 1) := by decide +kernel
theorem dX7_find_51 : decode cX7_find 51 = .ok (.getfield 26, 3) := by decide +kernel
theorem dX7_find_54 : decode cX7_find 54 = .ok (.iload_n 3, 1) := by decide +kernel
theorem dX7_find_55 : decode cX7_find 55 = .ok (.iload 4, 2) := by decide +kernel
theorem dX7_find_57 : decode cX7_find 57 = .ok (.iload 5, 2) := by decide +kernel
theorem dX7_find_59 : decode cX7_find 59 = .ok (.invokevirtual 175, 3) := by decide +kernel
theorem dX7_find_62 : decode cX7_find 62 = .ok (.iload_n 2, 1) := by decide +kernel
theorem dX7_find_63 : decode cX7_find 63 = .ok (.iconst 0, 1) := by decide +kernel
theorem dX7_find_64 : decode cX7_find 64 = .ok (.invokestatic 179, 3) := by decide +kernel
theorem dX7_find_67 : decode cX7_find 67 = .ok (.istore 7, 2) := by decide +kernel
theorem dX7_find_69 : decode cX7_find 69 = .ok (.iload 7, 2) := by decide +kernel
theorem dX7_find_71 : decode cX7_find 71 = .ok (.aload 6, 2) := by decide +kernel
theorem dX7_find_73 : decode cX7_find 73 = .ok (.invokevirtual 68, 3) := by decide +kernel
theorem dX7_find_76 : decode cX7_find 76 = .ok (.if_icmp .ge 41, 3) := by decide +kernel
theorem dX7_find_79 : decode cX7_find 79 = .ok (.aload 6, 2) := by decide +kernel
theorem dX7_find_81 : decode cX7_find 81 = .ok (.iload 7, 2) := by decide +kernel
theorem dX7_find_83 : decode cX7_find 83 = .ok (.aload_n 0, 1) := by decide +kernel
theorem dX7_find_84 : decode cX7_find 84 = .ok (.getfield 30, 3) := by decide +kernel
theorem dX7_find_87 : decode cX7_find 87 = .ok (.invokevirtual 117, 3) := by decide +kernel
theorem dX7_find_90 : decode cX7_find 90 = .ok (.aload_n 0, 1) := by decide +kernel
theorem dX7_find_91 : decode cX7_find 91 = .ok (.getfield 30, 3) := by decide +kernel
theorem dX7_find_94 : decode cX7_find 94 = .ok (.aload_n 0, 1) := by decide +kernel
theorem dX7_find_95 : decode cX7_find 95 = .ok (.getfield 26, 3) := by decide +kernel
theorem dX7_find_98 : decode cX7_find 98 = .ok (.invokevirtual 182, 3) := by decide +kernel
theorem dX7_find_101 : decode cX7_find 101 = .ok (.ifCond .eq 10, 3) := by decide +kernel
theorem dX7_find_104 : decode cX7_find 104 = .ok (.aload_n 0, 1) := by decide +kernel
theorem dX7_find_105 : decode cX7_find 105 = .ok (.iload 7, 2) := by decide +kernel
theorem dX7_find_107 : decode cX7_find 107 = .ok (.invokevirtual 50, 3) := by decide +kernel
theorem dX7_find_110 : decode cX7_find 110 = .ok (.ireturn, 1) := by decide +kernel
theorem dX7_find_111 : decode cX7_find 111 = .ok (.iinc 7 1, 3) := by decide +kernel
theorem dX7_find_114 : decode cX7_find 114 = .ok (.goto (-45), 3) := by decide +kernel
theorem dX7_find_117 : decode cX7_find 117 = .ok (.aload_n 0, 1) := by decide +kernel
theorem dX7_find_118 : decode cX7_find 118 = .ok (.iconst (-1), 1) := by decide +kernel
theorem dX7_find_119 : decode cX7_find 119 = .ok (.invokevirtual 50, 3) := by decide +kernel
theorem dX7_find_122 : decode cX7_find 122 = .ok (.ireturn, 1) := by decide +kernel
theorem dX7_alike_0 : decode cX7_alike 0 = .ok (.aload_n 0, 1) := by decide +kernel
theorem dX7_alike_1 : decode cX7_alike 1 = .ok (.iload_n 1, 1) := by decide +kernel
theorem dX7_alike_2 : decode cX7_alike 2 = .ok (.invokevirtual 61, 3) := by decide +kernel
theorem dX7_alike_5 : decode cX7_alike 5 = .ok (.astore_n 3, 1) := by decide +kernel
theorem dX7_alike_6 : decode cX7_alike 6 = .ok (.aload_n 0, 1) := by decide +kernel
theorem dX7_alike_7 : decode cX7_alike 7 = .ok (.iload_n 2, 1) := by decide +kernel
theorem dX7_alike_8 : decode cX7_alike 8 = .ok (.invokevirtual 61, 3) := by decide +kernel
theorem dX7_alike_11 : decode cX7_alike 11 = .ok (.astore 4, 2) := by decide +kernel
theorem dX7_alike_13 : decode cX7_alike 13 = .ok (.aload_n 3, 1) := by decide +kernel
theorem dX7_alike_14 : decode cX7_alike 14 = .ok (.ifnull 8, 3) := by decide +kernel
theorem dX7_alike_17 : decode cX7_alike 17 = .ok (.aload 4, 2) := by decide +kernel
theorem dX7_alike_19 : decode cX7_alike 19 = .ok (.ifnonnull 21, 3) := by decide +kernel
theorem dX7_alike_22 : decode cX7_alike 22 = .ok (.aload_n 0, 1) := by decide +kernel
theorem dX7_alike_23 : decode cX7_alike 23 = .ok (.aload_n 0, 1) := by decide +kernel
theorem dX7_alike_24 : decode cX7_alike 24 = .ok (.iload_n 1, 1) := by decide +kernel
theorem dX7_alike_25 : decode cX7_alike 25 = .ok (.invokevirtual 65, 3) := by decide +kernel
theorem dX7_alike_28 : decode cX7_alike 28 = .ok (.aload_n 0, 1) := by decide +kernel
theorem dX7_alike_29 : decode cX7_alike 29 = .ok (.iload_n 2, 1) := by decide +kernel
theorem dX7_alike_30 : decode cX7_alike 30 = .ok (.invokevirtual 65, 3) := by decide +kernel
theorem dX7_alike_33 : decode cX7_alike 33 = .ok (.invokestatic 135, 3) := by decide +kernel
theorem dX7_alike_36 : decode cX7_alike 36 = .ok (.invokevirtual 41, 3) := by decide +kernel
theorem dX7_alike_39 : decode cX7_alike 39 = .ok (.ireturn, 1) := by decide +kernel
theorem dX7_alike_40 : decode cX7_alike 40 = .ok (.aload_n 3, 1) := by decide +kernel
theorem dX7_alike_41 : decode cX7_alike 41 = .ok (.invokevirtual 68, 3) := by decide +kernel
theorem dX7_alike_44 : decode cX7_alike 44 = .ok (.aload 4, 2) := by decide +kernel
theorem dX7_alike_46 : decode cX7_alike 46 = .ok (.invokevirtual 68, 3) := by decide +kernel
theorem dX7_alike_49 : decode cX7_alike 49 = .ok (.if_icmp .eq 9, 3) := by decide +kernel
theorem dX7_alike_52 : decode cX7_alike 52 = .ok (.aload_n 0, 1) := by decide +kernel
theorem dX7_alike_53 : decode cX7_alike 53 = .ok (.iconst 0, 1) := by decide +kernel
theorem dX7_alike_54 : decode cX7_alike 54 = .ok (.invokevirtual 50, 3) := by decide +kernel
theorem dX7_alike_57 : decode cX7_alike 57 = .ok (.ireturn, 1) := by decide +kernel
theorem dX7_alike_58 : decode cX7_alike 58 = .ok (.iconst 0, 1) := by decide +kernel
theorem dX7_alike_59 : decode cX7_alike 59 = .ok (.istore 5, 2) := by decide +kernel
theorem dX7_alike_61 : decode cX7_alike 61 = .ok (.iload 5, 2) := by decide +kernel
theorem dX7_alike_63 : decode cX7_alike 63 = .ok (.aload_n 3, 1) := by decide +kernel
theorem dX7_alike_64 : decode cX7_alike 64 = .ok (.invokevirtual 68, 3) := by decide +kernel
theorem dX7_alike_67 : decode cX7_alike 67 = .ok (.if_icmp .ge 50, 3) := by decide +kernel
theorem dX7_alike_70 : decode cX7_alike 70 = .ok (.aload_n 3, 1) := by decide +kernel
theorem dX7_alike_71 : decode cX7_alike 71 = .ok (.iload 5, 2) := by decide +kernel
theorem dX7_alike_73 : decode cX7_alike 73 = .ok (.aload_n 0, 1) := by decide +kernel
theorem dX7_alike_74 : decode cX7_alike 74 = .ok (.getfield 26, 3) := by decide +kernel
theorem dX7_alike_77 : decode cX7_alike 77 = .ok (.invokevirtual 117, 3) := by decide +kernel
theorem dX7_alike_80 : decode cX7_alike 80 = .ok (.aload 4, 2) := by decide +kernel
theorem dX7_alike_82 : decode cX7_alike 82 = .ok (.iload 5, 2) := by decide +kernel
theorem dX7_alike_84 : decode cX7_alike 84 = .ok (.aload_n 0, 1) := by decide +kernel
theorem dX7_alike_85 : decode cX7_alike 85 = .ok (.getfield 30, 3) := by decide +kernel
theorem dX7_alike_88 : decode cX7_alike 88 = .ok (.invokevirtual 117, 3) := by decide +kernel
theorem dX7_alike_91 : decode cX7_alike 91 = .ok (.aload_n 0, 1) := by decide +kernel
theorem dX7_alike_92 : decode cX7_alike 92 = .ok (.getfield 26, 3) := by decide +kernel
theorem dX7_alike_95 : decode cX7_alike 95 = .ok (.aload_n 0, 1) := by decide +kernel
theorem dX7_alike_96 : decode cX7_alike 96 = .ok (.getfield 30, 3) := by decide +kernel
theorem dX7_alike_99 : decode cX7_alike 99 = .ok (.invokevirtual 182, 3) := by decide +kernel
theorem dX7_alike_102 : decode cX7_alike 102 = .ok (.ifCond .ne 9, 3) := by decide +kernel
theorem dX7_alike_105 : decode cX7_alike 105 = .ok (.aload_n 0, 1) := by decide +kernel
theorem dX7_alike_106 : decode cX7_alike 106 = .ok (.iconst 0, 1) := by decide +kernel
theorem dX7_alike_107 : decode cX7_alike 107 = .ok (.invokevirtual 50, 3) := by decide +kernel
theorem dX7_alike_110 : decode cX7_alike 110 = .ok (.ireturn, 1) := by decide +kernel
theorem dX7_alike_111 : decode cX7_alike 111 = .ok (.iinc 5 1, 3) := by decide +kernel
theorem dX7_alike_114 : decode cX7_alike 114 = .ok (.goto (-53), 3) := by decide +kernel
theorem dX7_alike_117 : decode cX7_alike 117 = .ok (.aload_n 0, 1) := by decide +kernel
theorem dX7_alike_118 : decode cX7_alike 118 = .ok (.iconst 1, 1) := by decide +kernel
theorem dX7_alike_119 : decode cX7_alike 119 = .ok (.invokevirtual 50, 3) := by decide +kernel
theorem dX7_alike_122 : decode cX7_alike 122 = .ok (.ireturn, 1) := by decide +kernel
theorem dX7_why_0 : decode cX7_why 0 = .ok (.aload_n 0, 1) := by decide +kernel
theorem dX7_why_1 : decode cX7_why 1 = .ok (.getfield 33, 3) := by decide +kernel
theorem dX7_why_4 : decode cX7_why 4 = .ok (.ireturn, 1) := by decide +kernel
theorem dX7_done_0 : decode cX7_done 0 = .ok (.aload_n 0, 1) := by decide +kernel
theorem dX7_done_1 : decode cX7_done 1 = .ok (.iconst 0, 1) := by decide +kernel
theorem dX7_done_2 : decode cX7_done 2 = .ok (.putfield 33, 3) := by decide +kernel
theorem dX7_done_5 : decode cX7_done 5 = .ok (.iload_n 1, 1) := by decide +kernel
theorem dX7_done_6 : decode cX7_done 6 = .ok (.ireturn, 1) := by decide +kernel
theorem dX7_refuse_0 : decode cX7_refuse 0 = .ok (.aload_n 0, 1) := by decide +kernel
theorem dX7_refuse_1 : decode cX7_refuse 1 = .ok (.iload_n 1, 1) := by decide +kernel
theorem dX7_refuse_2 : decode cX7_refuse 2 = .ok (.putfield 33, 3) := by decide +kernel
theorem dX7_refuse_5 : decode cX7_refuse 5 = .ok (.iconst 0, 1) := by decide +kernel
theorem dX7_refuse_6 : decode cX7_refuse 6 = .ok (.ireturn, 1) := by decide +kernel
theorem dX7_isColumn_0 : decode cX7_isColumn 0 = .ok (.iload_n 0, 1) := by decide +kernel
theorem dX7_isColumn_1 : decode cX7_isColumn 1 = .ok (.ifCond .lt 13, 3) := by decide +kernel
theorem dX7_isColumn_4 : decode cX7_isColumn 4 = .ok (.iload_n 0, 1) := by decide +kernel
theorem dX7_isColumn_5 : decode cX7_isColumn 5 = .ok (.bipush 12, 2) := by decide +kernel
theorem dX7_isColumn_7 : decode cX7_isColumn 7 = .ok (.if_icmp .ge 7, 3) := by decide +kernel
theorem dX7_isColumn_10 : decode cX7_isColumn 10 = .ok (.iconst 1, 1) := by decide +kernel
theorem dX7_isColumn_11 : decode cX7_isColumn 11 = .ok (.goto 4, 3) := by decide +kernel
theorem dX7_isColumn_14 : decode cX7_isColumn 14 = .ok (.iconst 0, 1) := by decide +kernel
theorem dX7_isColumn_15 : decode cX7_isColumn 15 = .ok (.ireturn, 1) := by decide +kernel
theorem dX7_isSort_0 : decode cX7_isSort 0 = .ok (.iload_n 0, 1) := by decide +kernel
theorem dX7_isSort_1 : decode cX7_isSort 1 = .ok (.ifCond .lt 13, 3) := by decide +kernel
theorem dX7_isSort_4 : decode cX7_isSort 4 = .ok (.iload_n 0, 1) := by decide +kernel
theorem dX7_isSort_5 : decode cX7_isSort 5 = .ok (.bipush 7, 2) := by decide +kernel
theorem dX7_isSort_7 : decode cX7_isSort 7 = .ok (.if_icmp .gt 7, 3) := by decide +kernel
theorem dX7_isSort_10 : decode cX7_isSort 10 = .ok (.iconst 1, 1) := by decide +kernel
theorem dX7_isSort_11 : decode cX7_isSort 11 = .ok (.goto 4, 3) := by decide +kernel
theorem dX7_isSort_14 : decode cX7_isSort 14 = .ok (.iconst 0, 1) := by decide +kernel
theorem dX7_isSort_15 : decode cX7_isSort 15 = .ok (.ireturn, 1) := by decide +kernel
theorem dX7_kindOf_0 : decode cX7_kindOf 0 = .ok (.aload_n 0, 1) := by decide +kernel
theorem dX7_kindOf_1 : decode cX7_kindOf 1 = .ok (.ifnonnull 7, 3) := by decide +kernel
theorem dX7_kindOf_4 : decode cX7_kindOf 4 = .ok (.iconst (-1), 1) := by decide +kernel
theorem dX7_kindOf_5 : decode cX7_kindOf 5 = .ok (.goto 7, 3) := by decide +kernel
theorem dX7_kindOf_8 : decode cX7_kindOf 8 = .ok (.aload_n 0, 1) := by decide +kernel
theorem dX7_kindOf_9 : decode cX7_kindOf 9 = .ok (.getfield 185, 3) := by decide +kernel
theorem dX7_kindOf_12 : decode cX7_kindOf 12 = .ok (.ireturn, 1) := by decide +kernel
theorem dX7_oneIfThing_0 : decode cX7_oneIfThing 0 = .ok (.aload_n 0, 1) := by decide +kernel
theorem dX7_oneIfThing_1 : decode cX7_oneIfThing 1 = .ok (.ifnonnull 7, 3) := by decide +kernel
theorem dX7_oneIfThing_4 : decode cX7_oneIfThing 4 = .ok (.iconst 0, 1) := by decide +kernel
theorem dX7_oneIfThing_5 : decode cX7_oneIfThing 5 = .ok (.goto 4, 3) := by decide +kernel
theorem dX7_oneIfThing_8 : decode cX7_oneIfThing 8 = .ok (.iconst 1, 1) := by decide +kernel
theorem dX7_oneIfThing_9 : decode cX7_oneIfThing 9 = .ok (.ireturn, 1) := by decide +kernel
theorem dX7_newRow_0 : decode cX7_newRow 0 = .ok (.iload_n 0, 1) := by decide +kernel
theorem dX7_newRow_1 : decode cX7_newRow 1 = .ok (.iconst 5, 1) := by decide +kernel
theorem dX7_newRow_2 : decode cX7_newRow 2 = .ok (.if_icmp .gt 13, 3) := by decide +kernel
theorem dX7_newRow_5 : decode cX7_newRow 5 = .ok (.new 186, 3) := by decide +kernel
theorem dX7_newRow_8 : decode cX7_newRow 8 = .ok (.dup, 1) := by decide +kernel
theorem dX7_newRow_9 : decode cX7_newRow 9 = .ok (.iload_n 0, 1) := by decide +kernel
theorem dX7_newRow_10 : decode cX7_newRow 10 = .ok (.iload_n 1, 1) := by decide +kernel
theorem dX7_newRow_11 : decode cX7_newRow 11 = .ok (.invokespecial 188, 3) := by decide +kernel
theorem dX7_newRow_14 : decode cX7_newRow 14 = .ok (.areturn, 1) := by decide +kernel
theorem dX7_newRow_15 : decode cX7_newRow 15 = .ok (.iload_n 0, 1) := by decide +kernel
theorem dX7_newRow_16 : decode cX7_newRow 16 = .ok (.bipush 7, 2) := by decide +kernel
theorem dX7_newRow_18 : decode cX7_newRow 18 = .ok (.if_icmp .gt 13, 3) := by decide +kernel
theorem dX7_newRow_21 : decode cX7_newRow 21 = .ok (.new 189, 3) := by decide +kernel
theorem dX7_newRow_24 : decode cX7_newRow 24 = .ok (.dup, 1) := by decide +kernel
theorem dX7_newRow_25 : decode cX7_newRow 25 = .ok (.iload_n 0, 1) := by decide +kernel
theorem dX7_newRow_26 : decode cX7_newRow 26 = .ok (.iload_n 1, 1) := by decide +kernel
theorem dX7_newRow_27 : decode cX7_newRow 27 = .ok (.invokespecial 191, 3) := by decide +kernel
theorem dX7_newRow_30 : decode cX7_newRow 30 = .ok (.areturn, 1) := by decide +kernel
theorem dX7_newRow_31 : decode cX7_newRow 31 = .ok (.new 192, 3) := by decide +kernel
theorem dX7_newRow_34 : decode cX7_newRow 34 = .ok (.dup, 1) := by decide +kernel
theorem dX7_newRow_35 : decode cX7_newRow 35 = .ok (.iload_n 0, 1) := by decide +kernel
theorem dX7_newRow_36 : decode cX7_newRow 36 = .ok (.iload_n 1, 1) := by decide +kernel
theorem dX7_newRow_37 : decode cX7_newRow 37 = .ok (.invokespecial 194, 3) := by decide +kernel
theorem dX7_newRow_40 : decode cX7_newRow 40 = .ok (.areturn, 1) := by decide +kernel
theorem dX7_rowIn_0 : decode cX7_rowIn 0 = .ok (.iload_n 1, 1) := by decide +kernel
theorem dX7_rowIn_1 : decode cX7_rowIn 1 = .ok (.invokestatic 37, 3) := by decide +kernel
theorem dX7_rowIn_4 : decode cX7_rowIn 4 = .ok (.ifCond .eq 24, 3) := by decide +kernel
theorem dX7_rowIn_7 : decode cX7_rowIn 7 = .ok (.aload_n 0, 1) := by decide +kernel
theorem dX7_rowIn_8 : decode cX7_rowIn 8 = .ok (.getfield 11, 3) := by decide +kernel
theorem dX7_rowIn_11 : decode cX7_rowIn 11 = .ok (.iload_n 1, 1) := by decide +kernel
theorem dX7_rowIn_12 : decode cX7_rowIn 12 = .ok (.aaload, 1) := by decide +kernel
theorem dX7_rowIn_13 : decode cX7_rowIn 13 = .ok (.astore_n 3, 1) := by decide +kernel
theorem dX7_rowIn_14 : decode cX7_rowIn 14 = .ok (.aload_n 3, 1) := by decide +kernel
theorem dX7_rowIn_15 : decode cX7_rowIn 15 = .ok (.instanceof 69, 3) := by decide +kernel
theorem dX7_rowIn_18 : decode cX7_rowIn 18 = .ok (.ifCond .eq 10, 3) := by decide +kernel
theorem dX7_rowIn_21 : decode cX7_rowIn 21 = .ok (.aload_n 3, 1) := by decide +kernel
theorem dX7_rowIn_22 : decode cX7_rowIn 22 = .ok (.checkcast 69, 3) := by decide +kernel
theorem dX7_rowIn_25 : decode cX7_rowIn 25 = .ok (.astore_n 2, 1) := by decide +kernel
theorem dX7_rowIn_26 : decode cX7_rowIn 26 = .ok (.aload_n 2, 1) := by decide +kernel
theorem dX7_rowIn_27 : decode cX7_rowIn 27 = .ok (.areturn, 1) := by decide +kernel
theorem dX7_rowIn_28 : decode cX7_rowIn 28 = .ok (.aconst_null, 1) := by decide +kernel
theorem dX7_rowIn_29 : decode cX7_rowIn 29 = .ok (.areturn, 1) := by decide +kernel
theorem dX7_rowAmiss_0 : decode cX7_rowAmiss 0 = .ok (.iload_n 1, 1) := by decide +kernel
theorem dX7_rowAmiss_1 : decode cX7_rowAmiss 1 = .ok (.invokestatic 37, 3) := by decide +kernel
theorem dX7_rowAmiss_4 : decode cX7_rowAmiss 4 = .ok (.ifCond .ne 5, 3) := by decide +kernel
theorem dX7_rowAmiss_7 : decode cX7_rowAmiss 7 = .ok (.iconst 1, 1) := by decide +kernel
theorem dX7_rowAmiss_8 : decode cX7_rowAmiss 8 = .ok (.ireturn, 1) := by decide +kernel
theorem dX7_rowAmiss_9 : decode cX7_rowAmiss 9 = .ok (.aload_n 0, 1) := by decide +kernel
theorem dX7_rowAmiss_10 : decode cX7_rowAmiss 10 = .ok (.getfield 11, 3) := by decide +kernel
theorem dX7_rowAmiss_13 : decode cX7_rowAmiss 13 = .ok (.iload_n 1, 1) := by decide +kernel
theorem dX7_rowAmiss_14 : decode cX7_rowAmiss 14 = .ok (.aaload, 1) := by decide +kernel
theorem dX7_rowAmiss_15 : decode cX7_rowAmiss 15 = .ok (.ifnonnull 5, 3) := by decide +kernel
theorem dX7_rowAmiss_18 : decode cX7_rowAmiss 18 = .ok (.iconst 2, 1) := by decide +kernel
theorem dX7_rowAmiss_19 : decode cX7_rowAmiss 19 = .ok (.ireturn, 1) := by decide +kernel
theorem dX7_rowAmiss_20 : decode cX7_rowAmiss 20 = .ok (.aload_n 0, 1) := by decide +kernel
theorem dX7_rowAmiss_21 : decode cX7_rowAmiss 21 = .ok (.getfield 11, 3) := by decide +kernel
theorem dX7_rowAmiss_24 : decode cX7_rowAmiss 24 = .ok (.iload_n 1, 1) := by decide +kernel
theorem dX7_rowAmiss_25 : decode cX7_rowAmiss 25 = .ok (.aaload, 1) := by decide +kernel
theorem dX7_rowAmiss_26 : decode cX7_rowAmiss 26 = .ok (.instanceof 69, 3) := by decide +kernel
theorem dX7_rowAmiss_29 : decode cX7_rowAmiss 29 = .ok (.ifCond .eq 7, 3) := by decide +kernel
theorem dX7_rowAmiss_32 : decode cX7_rowAmiss 32 = .ok (.iconst 0, 1) := by decide +kernel
theorem dX7_rowAmiss_33 : decode cX7_rowAmiss 33 = .ok (.goto 4, 3) := by decide +kernel
theorem dX7_rowAmiss_36 : decode cX7_rowAmiss 36 = .ok (.iconst 3, 1) := by decide +kernel
theorem dX7_rowAmiss_37 : decode cX7_rowAmiss 37 = .ok (.ireturn, 1) := by decide +kernel
theorem dX7_rowsAmiss_0 : decode cX7_rowsAmiss 0 = .ok (.aload_n 0, 1) := by decide +kernel
theorem dX7_rowsAmiss_1 : decode cX7_rowsAmiss 1 = .ok (.iload_n 1, 1) := by decide +kernel
theorem dX7_rowsAmiss_2 : decode cX7_rowsAmiss 2 = .ok (.invokevirtual 65, 3) := by decide +kernel
theorem dX7_rowsAmiss_5 : decode cX7_rowsAmiss 5 = .ok (.aload_n 0, 1) := by decide +kernel
theorem dX7_rowsAmiss_6 : decode cX7_rowsAmiss 6 = .ok (.iload_n 2, 1) := by decide +kernel
theorem dX7_rowsAmiss_7 : decode cX7_rowsAmiss 7 = .ok (.invokevirtual 65, 3) := by decide +kernel
theorem dX7_rowsAmiss_10 : decode cX7_rowsAmiss 10 = .ok (.aload_n 0, 1) := by decide +kernel
theorem dX7_rowsAmiss_11 : decode cX7_rowsAmiss 11 = .ok (.iload_n 3, 1) := by decide +kernel
theorem dX7_rowsAmiss_12 : decode cX7_rowsAmiss 12 = .ok (.invokevirtual 65, 3) := by decide +kernel
theorem dX7_rowsAmiss_15 : decode cX7_rowsAmiss 15 = .ok (.invokestatic 135, 3) := by decide +kernel
theorem dX7_rowsAmiss_18 : decode cX7_rowsAmiss 18 = .ok (.invokestatic 135, 3) := by decide +kernel
theorem dX7_rowsAmiss_21 : decode cX7_rowsAmiss 21 = .ok (.ireturn, 1) := by decide +kernel
theorem dX7_earlier_0 : decode cX7_earlier 0 = .ok (.iload_n 0, 1) := by decide +kernel
theorem dX7_earlier_1 : decode cX7_earlier 1 = .ok (.ifCond .ne 5, 3) := by decide +kernel
theorem dX7_earlier_4 : decode cX7_earlier 4 = .ok (.iload_n 1, 1) := by decide +kernel
theorem dX7_earlier_5 : decode cX7_earlier 5 = .ok (.ireturn, 1) := by decide +kernel
theorem dX7_earlier_6 : decode cX7_earlier 6 = .ok (.iload_n 1, 1) := by decide +kernel
theorem dX7_earlier_7 : decode cX7_earlier 7 = .ok (.ifCond .ne 7, 3) := by decide +kernel
theorem dX7_earlier_10 : decode cX7_earlier 10 = .ok (.iload_n 0, 1) := by decide +kernel
theorem dX7_earlier_11 : decode cX7_earlier 11 = .ok (.goto 8, 3) := by decide +kernel
theorem dX7_earlier_14 : decode cX7_earlier 14 = .ok (.iload_n 0, 1) := by decide +kernel
theorem dX7_earlier_15 : decode cX7_earlier 15 = .ok (.iload_n 1, 1) := by decide +kernel
theorem dX7_earlier_16 : decode cX7_earlier 16 = .ok (.invokestatic 195, 3) := by decide +kernel
theorem dX7_earlier_19 : decode cX7_earlier 19 = .ok (.ireturn, 1) := by decide +kernel
theorem dX7_cardIn_0 : decode cX7_cardIn 0 = .ok (.iload_n 1, 1) := by decide +kernel
theorem dX7_cardIn_1 : decode cX7_cardIn 1 = .ok (.invokestatic 37, 3) := by decide +kernel
theorem dX7_cardIn_4 : decode cX7_cardIn 4 = .ok (.ifCond .eq 24, 3) := by decide +kernel
theorem dX7_cardIn_7 : decode cX7_cardIn 7 = .ok (.aload_n 0, 1) := by decide +kernel
theorem dX7_cardIn_8 : decode cX7_cardIn 8 = .ok (.getfield 11, 3) := by decide +kernel
theorem dX7_cardIn_11 : decode cX7_cardIn 11 = .ok (.iload_n 1, 1) := by decide +kernel
theorem dX7_cardIn_12 : decode cX7_cardIn 12 = .ok (.aaload, 1) := by decide +kernel
theorem dX7_cardIn_13 : decode cX7_cardIn 13 = .ok (.astore_n 3, 1) := by decide +kernel
theorem dX7_cardIn_14 : decode cX7_cardIn 14 = .ok (.aload_n 3, 1) := by decide +kernel
theorem dX7_cardIn_15 : decode cX7_cardIn 15 = .ok (.instanceof 45, 3) := by decide +kernel
theorem dX7_cardIn_18 : decode cX7_cardIn 18 = .ok (.ifCond .eq 10, 3) := by decide +kernel
theorem dX7_cardIn_21 : decode cX7_cardIn 21 = .ok (.aload_n 3, 1) := by decide +kernel
theorem dX7_cardIn_22 : decode cX7_cardIn 22 = .ok (.checkcast 45, 3) := by decide +kernel
theorem dX7_cardIn_25 : decode cX7_cardIn 25 = .ok (.astore_n 2, 1) := by decide +kernel
theorem dX7_cardIn_26 : decode cX7_cardIn 26 = .ok (.aload_n 2, 1) := by decide +kernel
theorem dX7_cardIn_27 : decode cX7_cardIn 27 = .ok (.areturn, 1) := by decide +kernel
theorem dX7_cardIn_28 : decode cX7_cardIn 28 = .ok (.aconst_null, 1) := by decide +kernel
theorem dX7_cardIn_29 : decode cX7_cardIn 29 = .ok (.areturn, 1) := by decide +kernel
theorem dX7_cardAmiss_0 : decode cX7_cardAmiss 0 = .ok (.iload_n 1, 1) := by decide +kernel
theorem dX7_cardAmiss_1 : decode cX7_cardAmiss 1 = .ok (.invokestatic 37, 3) := by decide +kernel
theorem dX7_cardAmiss_4 : decode cX7_cardAmiss 4 = .ok (.ifCond .ne 5, 3) := by decide +kernel
theorem dX7_cardAmiss_7 : decode cX7_cardAmiss 7 = .ok (.iconst 1, 1) := by decide +kernel
theorem dX7_cardAmiss_8 : decode cX7_cardAmiss 8 = .ok (.ireturn, 1) := by decide +kernel
theorem dX7_cardAmiss_9 : decode cX7_cardAmiss 9 = .ok (.aload_n 0, 1) := by decide +kernel
theorem dX7_cardAmiss_10 : decode cX7_cardAmiss 10 = .ok (.getfield 11, 3) := by decide +kernel
theorem dX7_cardAmiss_13 : decode cX7_cardAmiss 13 = .ok (.iload_n 1, 1) := by decide +kernel
theorem dX7_cardAmiss_14 : decode cX7_cardAmiss 14 = .ok (.aaload, 1) := by decide +kernel
theorem dX7_cardAmiss_15 : decode cX7_cardAmiss 15 = .ok (.instanceof 45, 3) := by decide +kernel
theorem dX7_cardAmiss_18 : decode cX7_cardAmiss 18 = .ok (.ifCond .eq 7, 3) := by decide +kernel
theorem dX7_cardAmiss_21 : decode cX7_cardAmiss 21 = .ok (.iconst 0, 1) := by decide +kernel
theorem dX7_cardAmiss_22 : decode cX7_cardAmiss 22 = .ok (.goto 4, 3) := by decide +kernel
theorem dX7_cardAmiss_25 : decode cX7_cardAmiss 25 = .ok (.iconst 5, 1) := by decide +kernel
theorem dX7_cardAmiss_26 : decode cX7_cardAmiss 26 = .ok (.ireturn, 1) := by decide +kernel
theorem dX7_putTold_0 : decode cX7_putTold 0 = .ok (.iload_n 3, 1) := by decide +kernel
theorem dX7_putTold_1 : decode cX7_putTold 1 = .ok (.invokestatic 172, 3) := by decide +kernel
theorem dX7_putTold_4 : decode cX7_putTold 4 = .ok (.ifCond .ne 9, 3) := by decide +kernel
theorem dX7_putTold_7 : decode cX7_putTold 7 = .ok (.aload_n 0, 1) := by decide +kernel
theorem dX7_putTold_8 : decode cX7_putTold 8 = .ok (.iconst 1, 1) := by decide +kernel
theorem dX7_putTold_9 : decode cX7_putTold 9 = .ok (.invokevirtual 41, 3) := by decide +kernel
theorem dX7_putTold_12 : decode cX7_putTold 12 = .ok (.ireturn, 1) := by decide +kernel
theorem dX7_putTold_13 : decode cX7_putTold 13 = .ok (.aload_n 0, 1) := by decide +kernel
theorem dX7_putTold_14 : decode cX7_putTold 14 = .ok (.iload_n 1, 1) := by decide +kernel
theorem dX7_putTold_15 : decode cX7_putTold 15 = .ok (.invokevirtual 61, 3) := by decide +kernel
theorem dX7_putTold_18 : decode cX7_putTold 18 = .ok (.astore 6, 2) := by decide +kernel
theorem dX7_putTold_20 : decode cX7_putTold 20 = .ok (.aload 6, 2) := by decide +kernel
theorem dX7_putTold_22 : decode cX7_putTold 22 = .ok (.ifnonnull 13, 3) := by decide +kernel
theorem dX7_putTold_25 : decode cX7_putTold 25 = .ok (.aload_n 0, 1) := by decide +kernel
theorem dX7_putTold_26 : decode cX7_putTold 26 = .ok (.aload_n 0, 1) := by decide +kernel
theorem dX7_putTold_27 : decode cX7_putTold 27 = .ok (.iload_n 1, 1) := by decide +kernel
theorem dX7_putTold_28 : decode cX7_putTold 28 = .ok (.invokevirtual 65, 3) := by decide +kernel
theorem dX7_putTold_31 : decode cX7_putTold 31 = .ok (.invokevirtual 41, 3) := by decide +kernel
theorem dX7_putTold_34 : decode cX7_putTold 34 = .ok (.ireturn, 1) := by decide +kernel
theorem dX7_putTold_35 : decode cX7_putTold 35 = .ok (.aload_n 0, 1) := by decide +kernel
theorem dX7_putTold_36 : decode cX7_putTold 36 = .ok (.getfield 26, 3) := by decide +kernel
theorem dX7_putTold_39 : decode cX7_putTold 39 = .ok (.iload_n 3, 1) := by decide +kernel
theorem dX7_putTold_40 : decode cX7_putTold 40 = .ok (.iload 4, 2) := by decide +kernel
theorem dX7_putTold_42 : decode cX7_putTold 42 = .ok (.iload 5, 2) := by decide +kernel
theorem dX7_putTold_44 : decode cX7_putTold 44 = .ok (.invokevirtual 175, 3) := by decide +kernel
theorem dX7_putTold_47 : decode cX7_putTold 47 = .ok (.aload_n 0, 1) := by decide +kernel
theorem dX7_putTold_48 : decode cX7_putTold 48 = .ok (.aload 6, 2) := by decide +kernel
theorem dX7_putTold_50 : decode cX7_putTold 50 = .ok (.iload_n 2, 1) := by decide +kernel
theorem dX7_putTold_51 : decode cX7_putTold 51 = .ok (.iconst 1, 1) := by decide +kernel
theorem dX7_putTold_52 : decode cX7_putTold 52 = .ok (.invokevirtual 98, 3) := by decide +kernel
theorem dX7_putTold_55 : decode cX7_putTold 55 = .ok (.ireturn, 1) := by decide +kernel
theorem dX7_placeOne_0 : decode cX7_placeOne 0 = .ok (.aload_n 1, 1) := by decide +kernel
theorem dX7_placeOne_1 : decode cX7_placeOne 1 = .ok (.iload_n 2, 1) := by decide +kernel
theorem dX7_placeOne_2 : decode cX7_placeOne 2 = .ok (.invokevirtual 114, 3) := by decide +kernel
theorem dX7_placeOne_5 : decode cX7_placeOne 5 = .ok (.ifCond .ne 9, 3) := by decide +kernel
theorem dX7_placeOne_8 : decode cX7_placeOne 8 = .ok (.aload_n 0, 1) := by decide +kernel
theorem dX7_placeOne_9 : decode cX7_placeOne 9 = .ok (.iconst 4, 1) := by decide +kernel
theorem dX7_placeOne_10 : decode cX7_placeOne 10 = .ok (.invokevirtual 41, 3) := by decide +kernel
theorem dX7_placeOne_13 : decode cX7_placeOne 13 = .ok (.ireturn, 1) := by decide +kernel
theorem dX7_placeOne_14 : decode cX7_placeOne 14 = .ok (.aload_n 1, 1) := by decide +kernel
theorem dX7_placeOne_15 : decode cX7_placeOne 15 = .ok (.aload_n 0, 1) := by decide +kernel
theorem dX7_placeOne_16 : decode cX7_placeOne 16 = .ok (.getfield 26, 3) := by decide +kernel
theorem dX7_placeOne_19 : decode cX7_placeOne 19 = .ok (.invokevirtual 139, 3) := by decide +kernel
theorem dX7_placeOne_22 : decode cX7_placeOne 22 = .ok (.ifCond .ne 9, 3) := by decide +kernel
theorem dX7_placeOne_25 : decode cX7_placeOne 25 = .ok (.aload_n 0, 1) := by decide +kernel
theorem dX7_placeOne_26 : decode cX7_placeOne 26 = .ok (.iconst 5, 1) := by decide +kernel
theorem dX7_placeOne_27 : decode cX7_placeOne 27 = .ok (.invokevirtual 41, 3) := by decide +kernel
theorem dX7_placeOne_30 : decode cX7_placeOne 30 = .ok (.ireturn, 1) := by decide +kernel
theorem dX7_placeOne_31 : decode cX7_placeOne 31 = .ok (.aload_n 1, 1) := by decide +kernel
theorem dX7_placeOne_32 : decode cX7_placeOne 32 = .ok (.iload_n 2, 1) := by decide +kernel
theorem dX7_placeOne_33 : decode cX7_placeOne 33 = .ok (.aload_n 0, 1) := by decide +kernel
theorem dX7_placeOne_34 : decode cX7_placeOne 34 = .ok (.getfield 26, 3) := by decide +kernel
theorem dX7_placeOne_37 : decode cX7_placeOne 37 = .ok (.invokevirtual 198, 3) := by decide +kernel
theorem dX7_placeOne_40 : decode cX7_placeOne 40 = .ok (.aload_n 0, 1) := by decide +kernel
theorem dX7_placeOne_41 : decode cX7_placeOne 41 = .ok (.iload_n 3, 1) := by decide +kernel
theorem dX7_placeOne_42 : decode cX7_placeOne 42 = .ok (.invokevirtual 50, 3) := by decide +kernel
theorem dX7_placeOne_45 : decode cX7_placeOne 45 = .ok (.ireturn, 1) := by decide +kernel
theorem dX7_readOneAs_0 : decode cX7_readOneAs 0 = .ok (.aload_n 0, 1) := by decide +kernel
theorem dX7_readOneAs_1 : decode cX7_readOneAs 1 = .ok (.iload_n 1, 1) := by decide +kernel
theorem dX7_readOneAs_2 : decode cX7_readOneAs 2 = .ok (.invokevirtual 61, 3) := by decide +kernel
theorem dX7_readOneAs_5 : decode cX7_readOneAs 5 = .ok (.astore 4, 2) := by decide +kernel
theorem dX7_readOneAs_7 : decode cX7_readOneAs 7 = .ok (.aload 4, 2) := by decide +kernel
theorem dX7_readOneAs_9 : decode cX7_readOneAs 9 = .ok (.ifnonnull 14, 3) := by decide +kernel
theorem dX7_readOneAs_12 : decode cX7_readOneAs 12 = .ok (.aload_n 0, 1) := by decide +kernel
theorem dX7_readOneAs_13 : decode cX7_readOneAs 13 = .ok (.aload_n 0, 1) := by decide +kernel
theorem dX7_readOneAs_14 : decode cX7_readOneAs 14 = .ok (.iload_n 1, 1) := by decide +kernel
theorem dX7_readOneAs_15 : decode cX7_readOneAs 15 = .ok (.invokevirtual 65, 3) := by decide +kernel
theorem dX7_readOneAs_18 : decode cX7_readOneAs 18 = .ok (.putfield 33, 3) := by decide +kernel
theorem dX7_readOneAs_21 : decode cX7_readOneAs 21 = .ok (.iconst 0, 1) := by decide +kernel
theorem dX7_readOneAs_22 : decode cX7_readOneAs 22 = .ok (.ireturn, 1) := by decide +kernel
theorem dX7_readOneAs_23 : decode cX7_readOneAs 23 = .ok (.aload 4, 2) := by decide +kernel
theorem dX7_readOneAs_25 : decode cX7_readOneAs 25 = .ok (.iload_n 2, 1) := by decide +kernel
theorem dX7_readOneAs_26 : decode cX7_readOneAs 26 = .ok (.invokevirtual 114, 3) := by decide +kernel
theorem dX7_readOneAs_29 : decode cX7_readOneAs 29 = .ok (.ifCond .ne 10, 3) := by decide +kernel
theorem dX7_readOneAs_32 : decode cX7_readOneAs 32 = .ok (.aload_n 0, 1) := by decide +kernel
theorem dX7_readOneAs_33 : decode cX7_readOneAs 33 = .ok (.iconst 4, 1) := by decide +kernel
theorem dX7_readOneAs_34 : decode cX7_readOneAs 34 = .ok (.putfield 33, 3) := by decide +kernel
theorem dX7_readOneAs_37 : decode cX7_readOneAs 37 = .ok (.iconst 0, 1) := by decide +kernel
theorem dX7_readOneAs_38 : decode cX7_readOneAs 38 = .ok (.ireturn, 1) := by decide +kernel
theorem dX7_readOneAs_39 : decode cX7_readOneAs 39 = .ok (.aload 4, 2) := by decide +kernel
theorem dX7_readOneAs_41 : decode cX7_readOneAs 41 = .ok (.iload_n 3, 1) := by decide +kernel
theorem dX7_readOneAs_42 : decode cX7_readOneAs 42 = .ok (.invokevirtual 201, 3) := by decide +kernel
theorem dX7_readOneAs_45 : decode cX7_readOneAs 45 = .ok (.ifCond .ne 10, 3) := by decide +kernel
theorem dX7_readOneAs_48 : decode cX7_readOneAs 48 = .ok (.aload_n 0, 1) := by decide +kernel
theorem dX7_readOneAs_49 : decode cX7_readOneAs 49 = .ok (.iconst 5, 1) := by decide +kernel
theorem dX7_readOneAs_50 : decode cX7_readOneAs 50 = .ok (.putfield 33, 3) := by decide +kernel
theorem dX7_readOneAs_53 : decode cX7_readOneAs 53 = .ok (.iconst 0, 1) := by decide +kernel
theorem dX7_readOneAs_54 : decode cX7_readOneAs 54 = .ok (.ireturn, 1) := by decide +kernel
theorem dX7_readOneAs_55 : decode cX7_readOneAs 55 = .ok (.aload 4, 2) := by decide +kernel
theorem dX7_readOneAs_57 : decode cX7_readOneAs 57 = .ok (.iload_n 2, 1) := by decide +kernel
theorem dX7_readOneAs_58 : decode cX7_readOneAs 58 = .ok (.aload_n 0, 1) := by decide +kernel
theorem dX7_readOneAs_59 : decode cX7_readOneAs 59 = .ok (.getfield 26, 3) := by decide +kernel
theorem dX7_readOneAs_62 : decode cX7_readOneAs 62 = .ok (.invokevirtual 117, 3) := by decide +kernel
theorem dX7_readOneAs_65 : decode cX7_readOneAs 65 = .ok (.aload_n 0, 1) := by decide +kernel
theorem dX7_readOneAs_66 : decode cX7_readOneAs 66 = .ok (.iconst 0, 1) := by decide +kernel
theorem dX7_readOneAs_67 : decode cX7_readOneAs 67 = .ok (.putfield 33, 3) := by decide +kernel
theorem dX7_readOneAs_70 : decode cX7_readOneAs 70 = .ok (.iconst 1, 1) := by decide +kernel
theorem dX7_readOneAs_71 : decode cX7_readOneAs 71 = .ok (.ireturn, 1) := by decide +kernel
theorem dX7_moveByIndex_0 : decode cX7_moveByIndex 0 = .ok (.aload_n 0, 1) := by decide +kernel
theorem dX7_moveByIndex_1 : decode cX7_moveByIndex 1 = .ok (.iload_n 1, 1) := by decide +kernel
theorem dX7_moveByIndex_2 : decode cX7_moveByIndex 2 = .ok (.invokevirtual 61, 3) := by decide +kernel
theorem dX7_moveByIndex_5 : decode cX7_moveByIndex 5 = .ok (.astore 5, 2) := by decide +kernel
theorem dX7_moveByIndex_7 : decode cX7_moveByIndex 7 = .ok (.aload_n 0, 1) := by decide +kernel
theorem dX7_moveByIndex_8 : decode cX7_moveByIndex 8 = .ok (.iload_n 2, 1) := by decide +kernel
theorem dX7_moveByIndex_9 : decode cX7_moveByIndex 9 = .ok (.invokevirtual 61, 3) := by decide +kernel
theorem dX7_moveByIndex_12 : decode cX7_moveByIndex 12 = .ok (.astore 6, 2) := by decide +kernel
theorem dX7_moveByIndex_14 : decode cX7_moveByIndex 14 = .ok (.aload_n 0, 1) := by decide +kernel
theorem dX7_moveByIndex_15 : decode cX7_moveByIndex 15 = .ok (.iload_n 3, 1) := by decide +kernel
theorem dX7_moveByIndex_16 : decode cX7_moveByIndex 16 = .ok (.invokevirtual 61, 3) := by decide +kernel
theorem dX7_moveByIndex_19 : decode cX7_moveByIndex 19 = .ok (.astore 7, 2) := by decide +kernel
theorem dX7_moveByIndex_21 : decode cX7_moveByIndex 21 = .ok (.aload 5, 2) := by decide +kernel
theorem dX7_moveByIndex_23 : decode cX7_moveByIndex 23 = .ok (.ifnull 13, 3) := by decide +kernel
theorem dX7_moveByIndex_26 : decode cX7_moveByIndex 26 = .ok (.aload 6, 2) := by decide +kernel
theorem dX7_moveByIndex_28 : decode cX7_moveByIndex 28 = .ok (.ifnull 8, 3) := by decide +kernel
theorem dX7_moveByIndex_31 : decode cX7_moveByIndex 31 = .ok (.aload 7, 2) := by decide +kernel
theorem dX7_moveByIndex_33 : decode cX7_moveByIndex 33 = .ok (.ifnonnull 15, 3) := by decide +kernel
theorem dX7_moveByIndex_36 : decode cX7_moveByIndex 36 = .ok (.aload_n 0, 1) := by decide +kernel
theorem dX7_moveByIndex_37 : decode cX7_moveByIndex 37 = .ok (.aload_n 0, 1) := by decide +kernel
theorem dX7_moveByIndex_38 : decode cX7_moveByIndex 38 = .ok (.iload_n 1, 1) := by decide +kernel
theorem dX7_moveByIndex_39 : decode cX7_moveByIndex 39 = .ok (.iload_n 2, 1) := by decide +kernel
theorem dX7_moveByIndex_40 : decode cX7_moveByIndex 40 = .ok (.iload_n 3, 1) := by decide +kernel
theorem dX7_moveByIndex_41 : decode cX7_moveByIndex 41 = .ok (.invokevirtual 151, 3) := by decide +kernel
theorem dX7_moveByIndex_44 : decode cX7_moveByIndex 44 = .ok (.invokevirtual 41, 3) := by decide +kernel
theorem dX7_moveByIndex_47 : decode cX7_moveByIndex 47 = .ok (.ireturn, 1) := by decide +kernel
theorem dX7_moveByIndex_48 : decode cX7_moveByIndex 48 = .ok (.aload 6, 2) := by decide +kernel
theorem dX7_moveByIndex_50 : decode cX7_moveByIndex 50 = .ok (.iconst 4, 1) := by decide +kernel
theorem dX7_moveByIndex_51 : decode cX7_moveByIndex 51 = .ok (.invokevirtual 201, 3) := by decide +kernel
theorem dX7_moveByIndex_54 : decode cX7_moveByIndex 54 = .ok (.ifCond .ne 10, 3) := by decide +kernel
theorem dX7_moveByIndex_57 : decode cX7_moveByIndex 57 = .ok (.aload_n 0, 1) := by decide +kernel
theorem dX7_moveByIndex_58 : decode cX7_moveByIndex 58 = .ok (.bipush 6, 2) := by decide +kernel
theorem dX7_moveByIndex_60 : decode cX7_moveByIndex 60 = .ok (.invokevirtual 41, 3) := by decide +kernel
theorem dX7_moveByIndex_63 : decode cX7_moveByIndex 63 = .ok (.ireturn, 1) := by decide +kernel
theorem dX7_moveByIndex_64 : decode cX7_moveByIndex 64 = .ok (.aload 6, 2) := by decide +kernel
theorem dX7_moveByIndex_66 : decode cX7_moveByIndex 66 = .ok (.invokevirtual 68, 3) := by decide +kernel
theorem dX7_moveByIndex_69 : decode cX7_moveByIndex 69 = .ok (.istore 8, 2) := by decide +kernel
theorem dX7_moveByIndex_71 : decode cX7_moveByIndex 71 = .ok (.iload 8, 2) := by decide +kernel
theorem dX7_moveByIndex_73 : decode cX7_moveByIndex 73 = .ok (.iload 4, 2) := by decide +kernel
theorem dX7_moveByIndex_75 : decode cX7_moveByIndex 75 = .ok (.ifCond .eq 11, 3) := by decide +kernel
theorem dX7_moveByIndex_78 : decode cX7_moveByIndex 78 = .ok (.aload 7, 2) := by decide +kernel
theorem dX7_moveByIndex_80 : decode cX7_moveByIndex 80 = .ok (.invokevirtual 68, 3) := by decide +kernel
theorem dX7_moveByIndex_83 : decode cX7_moveByIndex 83 = .ok (.goto 8, 3) := by decide +kernel
theorem dX7_moveByIndex_86 : decode cX7_moveByIndex 86 = .ok (.aload 5, 2) := by decide +kernel
theorem dX7_moveByIndex_88 : decode cX7_moveByIndex 88 = .ok (.invokevirtual 68, 3) := by decide +kernel
theorem dX7_moveByIndex_91 : decode cX7_moveByIndex 91 = .ok (.if_icmp .eq 9, 3) := by decide +kernel
theorem dX7_moveByIndex_94 : decode cX7_moveByIndex 94 = .ok (.aload_n 0, 1) := by decide +kernel
theorem dX7_moveByIndex_95 : decode cX7_moveByIndex 95 = .ok (.iconst 4, 1) := by decide +kernel
theorem dX7_moveByIndex_96 : decode cX7_moveByIndex 96 = .ok (.invokevirtual 41, 3) := by decide +kernel
theorem dX7_moveByIndex_99 : decode cX7_moveByIndex 99 = .ok (.ireturn, 1) := by decide +kernel
theorem dX7_moveByIndex_100 : decode cX7_moveByIndex 100 = .ok (.iconst 0, 1) := by decide +kernel
theorem dX7_moveByIndex_101 : decode cX7_moveByIndex 101 = .ok (.istore 9, 2) := by decide +kernel
theorem dX7_moveByIndex_103 : decode cX7_moveByIndex 103 = .ok (.iload 9, 2) := by decide +kernel
theorem dX7_moveByIndex_105 : decode cX7_moveByIndex 105 = .ok (.iload 8, 2) := by decide +kernel
theorem dX7_moveByIndex_107 : decode cX7_moveByIndex 107 = .ok (.if_icmp .ge 74, 3) := by decide +kernel
theorem dX7_moveByIndex_110 : decode cX7_moveByIndex 110 = .ok (.aload_n 0, 1) := by decide +kernel
theorem dX7_moveByIndex_111 : decode cX7_moveByIndex 111 = .ok (.aload 6, 2) := by decide +kernel
theorem dX7_moveByIndex_113 : decode cX7_moveByIndex 113 = .ok (.iload 9, 2) := by decide +kernel
theorem dX7_moveByIndex_115 : decode cX7_moveByIndex 115 = .ok (.invokevirtual 204, 3) := by decide +kernel
theorem dX7_moveByIndex_118 : decode cX7_moveByIndex 118 = .ok (.istore 10, 2) := by decide +kernel
theorem dX7_moveByIndex_120 : decode cX7_moveByIndex 120 = .ok (.aload_n 0, 1) := by decide +kernel
theorem dX7_moveByIndex_121 : decode cX7_moveByIndex 121 = .ok (.getfield 22, 3) := by decide +kernel
theorem dX7_moveByIndex_124 : decode cX7_moveByIndex 124 = .ok (.iload 9, 2) := by decide +kernel
theorem dX7_moveByIndex_126 : decode cX7_moveByIndex 126 = .ok (.iload 4, 2) := by decide +kernel
theorem dX7_moveByIndex_128 : decode cX7_moveByIndex 128 = .ok (.ifCond .eq 8, 3) := by decide +kernel
theorem dX7_moveByIndex_131 : decode cX7_moveByIndex 131 = .ok (.iload 9, 2) := by decide +kernel
theorem dX7_moveByIndex_133 : decode cX7_moveByIndex 133 = .ok (.goto 5, 3) := by decide +kernel
theorem dX7_moveByIndex_136 : decode cX7_moveByIndex 136 = .ok (.iload 10, 2) := by decide +kernel
theorem dX7_moveByIndex_138 : decode cX7_moveByIndex 138 = .ok (.iastore, 1) := by decide +kernel
theorem dX7_moveByIndex_139 : decode cX7_moveByIndex 139 = .ok (.aload_n 0, 1) := by decide +kernel
theorem dX7_moveByIndex_140 : decode cX7_moveByIndex 140 = .ok (.aload 5, 2) := by decide +kernel
theorem dX7_moveByIndex_142 : decode cX7_moveByIndex 142 = .ok (.iload 4, 2) := by decide +kernel
theorem dX7_moveByIndex_144 : decode cX7_moveByIndex 144 = .ok (.ifCond .eq 8, 3) := by decide +kernel
theorem dX7_moveByIndex_147 : decode cX7_moveByIndex 147 = .ok (.iload 10, 2) := by decide +kernel
theorem dX7_moveByIndex_149 : decode cX7_moveByIndex 149 = .ok (.goto 5, 3) := by decide +kernel
theorem dX7_moveByIndex_152 : decode cX7_moveByIndex 152 = .ok (.iload 9, 2) := by decide +kernel
theorem dX7_moveByIndex_154 : decode cX7_moveByIndex 154 = .ok (.aload 7, 2) := by decide +kernel
theorem dX7_moveByIndex_156 : decode cX7_moveByIndex 156 = .ok (.iload 9, 2) := by decide +kernel
theorem dX7_moveByIndex_158 : decode cX7_moveByIndex 158 = .ok (.invokevirtual 208, 3) := by decide +kernel
theorem dX7_moveByIndex_161 : decode cX7_moveByIndex 161 = .ok (.istore 11, 2) := by decide +kernel
theorem dX7_moveByIndex_163 : decode cX7_moveByIndex 163 = .ok (.iload 11, 2) := by decide +kernel
theorem dX7_moveByIndex_165 : decode cX7_moveByIndex 165 = .ok (.ifCond .eq 10, 3) := by decide +kernel
theorem dX7_moveByIndex_168 : decode cX7_moveByIndex 168 = .ok (.aload_n 0, 1) := by decide +kernel
theorem dX7_moveByIndex_169 : decode cX7_moveByIndex 169 = .ok (.iload 11, 2) := by decide +kernel
theorem dX7_moveByIndex_171 : decode cX7_moveByIndex 171 = .ok (.invokevirtual 41, 3) := by decide +kernel
theorem dX7_moveByIndex_174 : decode cX7_moveByIndex 174 = .ok (.ireturn, 1) := by decide +kernel
theorem dX7_moveByIndex_175 : decode cX7_moveByIndex 175 = .ok (.iinc 9 1, 3) := by decide +kernel
theorem dX7_moveByIndex_178 : decode cX7_moveByIndex 178 = .ok (.goto (-75), 3) := by decide +kernel
theorem dX7_moveByIndex_181 : decode cX7_moveByIndex 181 = .ok (.iconst 0, 1) := by decide +kernel
theorem dX7_moveByIndex_182 : decode cX7_moveByIndex 182 = .ok (.istore 9, 2) := by decide +kernel
theorem dX7_moveByIndex_184 : decode cX7_moveByIndex 184 = .ok (.iload 9, 2) := by decide +kernel
theorem dX7_moveByIndex_186 : decode cX7_moveByIndex 186 = .ok (.iload 8, 2) := by decide +kernel
theorem dX7_moveByIndex_188 : decode cX7_moveByIndex 188 = .ok (.if_icmp .ge 28, 3) := by decide +kernel
theorem dX7_moveByIndex_191 : decode cX7_moveByIndex 191 = .ok (.aload 7, 2) := by decide +kernel
theorem dX7_moveByIndex_193 : decode cX7_moveByIndex 193 = .ok (.aload_n 0, 1) := by decide +kernel
theorem dX7_moveByIndex_194 : decode cX7_moveByIndex 194 = .ok (.getfield 22, 3) := by decide +kernel
theorem dX7_moveByIndex_197 : decode cX7_moveByIndex 197 = .ok (.iload 9, 2) := by decide +kernel
theorem dX7_moveByIndex_199 : decode cX7_moveByIndex 199 = .ok (.iaload, 1) := by decide +kernel
theorem dX7_moveByIndex_200 : decode cX7_moveByIndex 200 = .ok (.aload_n 0, 1) := by decide +kernel
theorem dX7_moveByIndex_201 : decode cX7_moveByIndex 201 = .ok (.getfield 17, 3) := by decide +kernel
theorem dX7_moveByIndex_204 : decode cX7_moveByIndex 204 = .ok (.iload 9, 2) := by decide +kernel
theorem dX7_moveByIndex_206 : decode cX7_moveByIndex 206 = .ok (.aaload, 1) := by decide +kernel
theorem dX7_moveByIndex_207 : decode cX7_moveByIndex 207 = .ok (.invokevirtual 198, 3) := by decide +kernel
theorem dX7_moveByIndex_210 : decode cX7_moveByIndex 210 = .ok (.iinc 9 1, 3) := by decide +kernel
theorem dX7_moveByIndex_213 : decode cX7_moveByIndex 213 = .ok (.goto (-29), 3) := by decide +kernel
theorem dX7_moveByIndex_216 : decode cX7_moveByIndex 216 = .ok (.aload_n 0, 1) := by decide +kernel
theorem dX7_moveByIndex_217 : decode cX7_moveByIndex 217 = .ok (.iload 8, 2) := by decide +kernel
theorem dX7_moveByIndex_219 : decode cX7_moveByIndex 219 = .ok (.invokevirtual 50, 3) := by decide +kernel
theorem dX7_moveByIndex_222 : decode cX7_moveByIndex 222 = .ok (.ireturn, 1) := by decide +kernel
theorem dX7_stageMove_0 : decode cX7_stageMove 0 = .ok (.aload_n 1, 1) := by decide +kernel
theorem dX7_stageMove_1 : decode cX7_stageMove 1 = .ok (.iload_n 2, 1) := by decide +kernel
theorem dX7_stageMove_2 : decode cX7_stageMove 2 = .ok (.invokevirtual 114, 3) := by decide +kernel
theorem dX7_stageMove_5 : decode cX7_stageMove 5 = .ok (.ifCond .eq 17, 3) := by decide +kernel
theorem dX7_stageMove_8 : decode cX7_stageMove 8 = .ok (.aload_n 3, 1) := by decide +kernel
theorem dX7_stageMove_9 : decode cX7_stageMove 9 = .ok (.aload_n 0, 1) := by decide +kernel
theorem dX7_stageMove_10 : decode cX7_stageMove 10 = .ok (.getfield 22, 3) := by decide +kernel
theorem dX7_stageMove_13 : decode cX7_stageMove 13 = .ok (.iload 4, 2) := by decide +kernel
theorem dX7_stageMove_15 : decode cX7_stageMove 15 = .ok (.iaload, 1) := by decide +kernel
theorem dX7_stageMove_16 : decode cX7_stageMove 16 = .ok (.invokevirtual 114, 3) := by decide +kernel
theorem dX7_stageMove_19 : decode cX7_stageMove 19 = .ok (.ifCond .ne 5, 3) := by decide +kernel
theorem dX7_stageMove_22 : decode cX7_stageMove 22 = .ok (.iconst 4, 1) := by decide +kernel
theorem dX7_stageMove_23 : decode cX7_stageMove 23 = .ok (.ireturn, 1) := by decide +kernel
theorem dX7_stageMove_24 : decode cX7_stageMove 24 = .ok (.aload_n 1, 1) := by decide +kernel
theorem dX7_stageMove_25 : decode cX7_stageMove 25 = .ok (.iload_n 2, 1) := by decide +kernel
theorem dX7_stageMove_26 : decode cX7_stageMove 26 = .ok (.aload_n 0, 1) := by decide +kernel
theorem dX7_stageMove_27 : decode cX7_stageMove 27 = .ok (.getfield 17, 3) := by decide +kernel
theorem dX7_stageMove_30 : decode cX7_stageMove 30 = .ok (.iload 4, 2) := by decide +kernel
theorem dX7_stageMove_32 : decode cX7_stageMove 32 = .ok (.aaload, 1) := by decide +kernel
theorem dX7_stageMove_33 : decode cX7_stageMove 33 = .ok (.invokevirtual 117, 3) := by decide +kernel
theorem dX7_stageMove_36 : decode cX7_stageMove 36 = .ok (.aload_n 3, 1) := by decide +kernel
theorem dX7_stageMove_37 : decode cX7_stageMove 37 = .ok (.aload_n 0, 1) := by decide +kernel
theorem dX7_stageMove_38 : decode cX7_stageMove 38 = .ok (.getfield 17, 3) := by decide +kernel
theorem dX7_stageMove_41 : decode cX7_stageMove 41 = .ok (.iload 4, 2) := by decide +kernel
theorem dX7_stageMove_43 : decode cX7_stageMove 43 = .ok (.aaload, 1) := by decide +kernel
theorem dX7_stageMove_44 : decode cX7_stageMove 44 = .ok (.invokevirtual 139, 3) := by decide +kernel
theorem dX7_stageMove_47 : decode cX7_stageMove 47 = .ok (.ifCond .eq 7, 3) := by decide +kernel
theorem dX7_stageMove_50 : decode cX7_stageMove 50 = .ok (.iconst 0, 1) := by decide +kernel
theorem dX7_stageMove_51 : decode cX7_stageMove 51 = .ok (.goto 4, 3) := by decide +kernel
theorem dX7_stageMove_54 : decode cX7_stageMove 54 = .ok (.iconst 5, 1) := by decide +kernel
theorem dX7_stageMove_55 : decode cX7_stageMove 55 = .ok (.ireturn, 1) := by decide +kernel
theorem dX7_indexAt_0 : decode cX7_indexAt 0 = .ok (.aload_n 1, 1) := by decide +kernel
theorem dX7_indexAt_1 : decode cX7_indexAt 1 = .ok (.iload_n 2, 1) := by decide +kernel
theorem dX7_indexAt_2 : decode cX7_indexAt 2 = .ok (.aload_n 0, 1) := by decide +kernel
theorem dX7_indexAt_3 : decode cX7_indexAt 3 = .ok (.getfield 26, 3) := by decide +kernel
theorem dX7_indexAt_6 : decode cX7_indexAt 6 = .ok (.invokevirtual 117, 3) := by decide +kernel
theorem dX7_indexAt_9 : decode cX7_indexAt 9 = .ok (.aload_n 0, 1) := by decide +kernel
theorem dX7_indexAt_10 : decode cX7_indexAt 10 = .ok (.getfield 26, 3) := by decide +kernel
theorem dX7_indexAt_13 : decode cX7_indexAt 13 = .ok (.getfield 106, 3) := by decide +kernel
theorem dX7_indexAt_16 : decode cX7_indexAt 16 = .ok (.l2i, 1) := by decide +kernel
theorem dX7_indexAt_17 : decode cX7_indexAt 17 = .ok (.ireturn, 1) := by decide +kernel
theorem dX7_writeStage_0 : decode cX7_writeStage 0 = .ok (.aload_n 1, 1) := by decide +kernel
theorem dX7_writeStage_1 : decode cX7_writeStage 1 = .ok (.invokevirtual 68, 3) := by decide +kernel
theorem dX7_writeStage_4 : decode cX7_writeStage 4 = .ok (.istore_n 2, 1) := by decide +kernel
theorem dX7_writeStage_5 : decode cX7_writeStage 5 = .ok (.iconst 0, 1) := by decide +kernel
theorem dX7_writeStage_6 : decode cX7_writeStage 6 = .ok (.istore_n 3, 1) := by decide +kernel
theorem dX7_writeStage_7 : decode cX7_writeStage 7 = .ok (.iload_n 3, 1) := by decide +kernel
theorem dX7_writeStage_8 : decode cX7_writeStage 8 = .ok (.iload_n 2, 1) := by decide +kernel
theorem dX7_writeStage_9 : decode cX7_writeStage 9 = .ok (.if_icmp .ge 20, 3) := by decide +kernel
theorem dX7_writeStage_12 : decode cX7_writeStage 12 = .ok (.aload_n 1, 1) := by decide +kernel
theorem dX7_writeStage_13 : decode cX7_writeStage 13 = .ok (.iload_n 3, 1) := by decide +kernel
theorem dX7_writeStage_14 : decode cX7_writeStage 14 = .ok (.aload_n 0, 1) := by decide +kernel
theorem dX7_writeStage_15 : decode cX7_writeStage 15 = .ok (.getfield 17, 3) := by decide +kernel
theorem dX7_writeStage_18 : decode cX7_writeStage 18 = .ok (.iload_n 3, 1) := by decide +kernel
theorem dX7_writeStage_19 : decode cX7_writeStage 19 = .ok (.aaload, 1) := by decide +kernel
theorem dX7_writeStage_20 : decode cX7_writeStage 20 = .ok (.invokevirtual 198, 3) := by decide +kernel
theorem dX7_writeStage_23 : decode cX7_writeStage 23 = .ok (.iinc 3 1, 3) := by decide +kernel
theorem dX7_writeStage_26 : decode cX7_writeStage 26 = .ok (.goto (-19), 3) := by decide +kernel
theorem dX7_writeStage_29 : decode cX7_writeStage 29 = .ok (.iload_n 2, 1) := by decide +kernel
theorem dX7_writeStage_30 : decode cX7_writeStage 30 = .ok (.ireturn, 1) := by decide +kernel
theorem dX7_comesFromRight_0 : decode cX7_comesFromRight 0 = .ok (.aload_n 1, 1) := by decide +kernel
theorem dX7_comesFromRight_1 : decode cX7_comesFromRight 1 = .ok (.iload_n 2, 1) := by decide +kernel
theorem dX7_comesFromRight_2 : decode cX7_comesFromRight 2 = .ok (.invokevirtual 114, 3) := by decide +kernel
theorem dX7_comesFromRight_5 : decode cX7_comesFromRight 5 = .ok (.ifCond .ne 5, 3) := by decide +kernel
theorem dX7_comesFromRight_8 : decode cX7_comesFromRight 8 = .ok (.iconst 1, 1) := by decide +kernel
theorem dX7_comesFromRight_9 : decode cX7_comesFromRight 9 = .ok (.ireturn, 1) := by decide +kernel
theorem dX7_comesFromRight_10 : decode cX7_comesFromRight 10 = .ok (.aload_n 3, 1) := by decide +kernel
theorem dX7_comesFromRight_11 : decode cX7_comesFromRight 11 = .ok (.iload 4, 2) := by decide +kernel
theorem dX7_comesFromRight_13 : decode cX7_comesFromRight 13 = .ok (.invokevirtual 114, 3) := by decide +kernel
theorem dX7_comesFromRight_16 : decode cX7_comesFromRight 16 = .ok (.ifCond .ne 5, 3) := by decide +kernel
theorem dX7_comesFromRight_19 : decode cX7_comesFromRight 19 = .ok (.iconst 0, 1) := by decide +kernel
theorem dX7_comesFromRight_20 : decode cX7_comesFromRight 20 = .ok (.ireturn, 1) := by decide +kernel
theorem dX7_comesFromRight_21 : decode cX7_comesFromRight 21 = .ok (.aload_n 1, 1) := by decide +kernel
theorem dX7_comesFromRight_22 : decode cX7_comesFromRight 22 = .ok (.iload_n 2, 1) := by decide +kernel
theorem dX7_comesFromRight_23 : decode cX7_comesFromRight 23 = .ok (.aload_n 0, 1) := by decide +kernel
theorem dX7_comesFromRight_24 : decode cX7_comesFromRight 24 = .ok (.getfield 26, 3) := by decide +kernel
theorem dX7_comesFromRight_27 : decode cX7_comesFromRight 27 = .ok (.invokevirtual 117, 3) := by decide +kernel
theorem dX7_comesFromRight_30 : decode cX7_comesFromRight 30 = .ok (.aload_n 3, 1) := by decide +kernel
theorem dX7_comesFromRight_31 : decode cX7_comesFromRight 31 = .ok (.iload 4, 2) := by decide +kernel
theorem dX7_comesFromRight_33 : decode cX7_comesFromRight 33 = .ok (.aload_n 0, 1) := by decide +kernel
theorem dX7_comesFromRight_34 : decode cX7_comesFromRight 34 = .ok (.getfield 30, 3) := by decide +kernel
theorem dX7_comesFromRight_37 : decode cX7_comesFromRight 37 = .ok (.invokevirtual 117, 3) := by decide +kernel
theorem dX7_comesFromRight_40 : decode cX7_comesFromRight 40 = .ok (.aload_n 0, 1) := by decide +kernel
theorem dX7_comesFromRight_41 : decode cX7_comesFromRight 41 = .ok (.getfield 30, 3) := by decide +kernel
theorem dX7_comesFromRight_44 : decode cX7_comesFromRight 44 = .ok (.aload_n 0, 1) := by decide +kernel
theorem dX7_comesFromRight_45 : decode cX7_comesFromRight 45 = .ok (.getfield 26, 3) := by decide +kernel
theorem dX7_comesFromRight_48 : decode cX7_comesFromRight 48 = .ok (.invokevirtual 212, 3) := by decide +kernel
theorem dX7_comesFromRight_51 : decode cX7_comesFromRight 51 = .ok (.ireturn, 1) := by decide +kernel
theorem dX7_sinkIntoOrder_0 : decode cX7_sinkIntoOrder 0 = .ok (.aload_n 0, 1) := by decide +kernel
theorem dX7_sinkIntoOrder_1 : decode cX7_sinkIntoOrder 1 = .ok (.getfield 17, 3) := by decide +kernel
theorem dX7_sinkIntoOrder_4 : decode cX7_sinkIntoOrder 4 = .ok (.iload_n 1, 1) := by decide +kernel
theorem dX7_sinkIntoOrder_5 : decode cX7_sinkIntoOrder 5 = .ok (.aaload, 1) := by decide +kernel
theorem dX7_sinkIntoOrder_6 : decode cX7_sinkIntoOrder 6 = .ok (.astore_n 2, 1) := by decide +kernel
theorem dX7_sinkIntoOrder_7 : decode cX7_sinkIntoOrder 7 = .ok (.iload_n 1, 1) := by decide +kernel
theorem dX7_sinkIntoOrder_8 : decode cX7_sinkIntoOrder 8 = .ok (.istore_n 3, 1) := by decide +kernel
theorem dX7_sinkIntoOrder_9 : decode cX7_sinkIntoOrder 9 = .ok (.iload_n 3, 1) := by decide +kernel
theorem dX7_sinkIntoOrder_10 : decode cX7_sinkIntoOrder 10 = .ok (.ifCond .le 38, 3) := by decide +kernel
theorem dX7_sinkIntoOrder_13 : decode cX7_sinkIntoOrder 13 = .ok (.aload_n 2, 1) := by decide +kernel
theorem dX7_sinkIntoOrder_14 : decode cX7_sinkIntoOrder 14 = .ok (.aload_n 0, 1) := by decide +kernel
theorem dX7_sinkIntoOrder_15 : decode cX7_sinkIntoOrder 15 = .ok (.getfield 17, 3) := by decide +kernel
theorem dX7_sinkIntoOrder_18 : decode cX7_sinkIntoOrder 18 = .ok (.iload_n 3, 1) := by decide +kernel
theorem dX7_sinkIntoOrder_19 : decode cX7_sinkIntoOrder 19 = .ok (.iconst 1, 1) := by decide +kernel
theorem dX7_sinkIntoOrder_20 : decode cX7_sinkIntoOrder 20 = .ok (.isub, 1) := by decide +kernel
theorem dX7_sinkIntoOrder_21 : decode cX7_sinkIntoOrder 21 = .ok (.aaload, 1) := by decide +kernel
theorem dX7_sinkIntoOrder_22 : decode cX7_sinkIntoOrder 22 = .ok (.invokevirtual 215, 3) := by decide +kernel
theorem dX7_sinkIntoOrder_25 : decode cX7_sinkIntoOrder 25 = .ok (.ifCond .eq 23, 3) := by decide +kernel
theorem dX7_sinkIntoOrder_28 : decode cX7_sinkIntoOrder 28 = .ok (.aload_n 0, 1) := by decide +kernel
theorem dX7_sinkIntoOrder_29 : decode cX7_sinkIntoOrder 29 = .ok (.getfield 17, 3) := by decide +kernel
theorem dX7_sinkIntoOrder_32 : decode cX7_sinkIntoOrder 32 = .ok (.iload_n 3, 1) := by decide +kernel
theorem dX7_sinkIntoOrder_33 : decode cX7_sinkIntoOrder 33 = .ok (.aload_n 0, 1) := by decide +kernel
theorem dX7_sinkIntoOrder_34 : decode cX7_sinkIntoOrder 34 = .ok (.getfield 17, 3) := by decide +kernel
theorem dX7_sinkIntoOrder_37 : decode cX7_sinkIntoOrder 37 = .ok (.iload_n 3, 1) := by decide +kernel
theorem dX7_sinkIntoOrder_38 : decode cX7_sinkIntoOrder 38 = .ok (.iconst 1, 1) := by decide +kernel
theorem dX7_sinkIntoOrder_39 : decode cX7_sinkIntoOrder 39 = .ok (.isub, 1) := by decide +kernel
theorem dX7_sinkIntoOrder_40 : decode cX7_sinkIntoOrder 40 = .ok (.aaload, 1) := by decide +kernel
theorem dX7_sinkIntoOrder_41 : decode cX7_sinkIntoOrder 41 = .ok (.aastore, 1) := by decide +kernel
theorem dX7_sinkIntoOrder_42 : decode cX7_sinkIntoOrder 42 = .ok (.iinc 3 (-1), 3) := by decide +kernel
theorem dX7_sinkIntoOrder_45 : decode cX7_sinkIntoOrder 45 = .ok (.goto (-36), 3) := by decide +kernel
theorem dX7_sinkIntoOrder_48 : decode cX7_sinkIntoOrder 48 = .ok (.aload_n 0, 1) := by decide +kernel
theorem dX7_sinkIntoOrder_49 : decode cX7_sinkIntoOrder 49 = .ok (.getfield 17, 3) := by decide +kernel
theorem dX7_sinkIntoOrder_52 : decode cX7_sinkIntoOrder 52 = .ok (.iload_n 3, 1) := by decide +kernel
theorem dX7_sinkIntoOrder_53 : decode cX7_sinkIntoOrder 53 = .ok (.aload_n 2, 1) := by decide +kernel
theorem dX7_sinkIntoOrder_54 : decode cX7_sinkIntoOrder 54 = .ok (.aastore, 1) := by decide +kernel
theorem dX7_sinkIntoOrder_55 : decode cX7_sinkIntoOrder 55 = .ok (.return_, 1) := by decide +kernel
theorem dX7_placesUnlikeStage_0 : decode cX7_placesUnlikeStage 0 = .ok (.iconst 0, 1) := by decide +kernel
theorem dX7_placesUnlikeStage_1 : decode cX7_placesUnlikeStage 1 = .ok (.istore_n 2, 1) := by decide +kernel
theorem dX7_placesUnlikeStage_2 : decode cX7_placesUnlikeStage 2 = .ok (.iconst 0, 1) := by decide +kernel
theorem dX7_placesUnlikeStage_3 : decode cX7_placesUnlikeStage 3 = .ok (.istore_n 3, 1) := by decide +kernel
theorem dX7_placesUnlikeStage_4 : decode cX7_placesUnlikeStage 4 = .ok (.iload_n 3, 1) := by decide +kernel
theorem dX7_placesUnlikeStage_5 : decode cX7_placesUnlikeStage 5 = .ok (.aload_n 1, 1) := by decide +kernel
theorem dX7_placesUnlikeStage_6 : decode cX7_placesUnlikeStage 6 = .ok (.invokevirtual 68, 3) := by decide +kernel
theorem dX7_placesUnlikeStage_9 : decode cX7_placesUnlikeStage 9 = .ok (.if_icmp .ge 37, 3) := by decide +kernel
theorem dX7_placesUnlikeStage_12 : decode cX7_placesUnlikeStage 12 = .ok (.aload_n 1, 1) := by decide +kernel
theorem dX7_placesUnlikeStage_13 : decode cX7_placesUnlikeStage 13 = .ok (.iload_n 3, 1) := by decide +kernel
theorem dX7_placesUnlikeStage_14 : decode cX7_placesUnlikeStage 14 = .ok (.aload_n 0, 1) := by decide +kernel
theorem dX7_placesUnlikeStage_15 : decode cX7_placesUnlikeStage 15 = .ok (.getfield 26, 3) := by decide +kernel
theorem dX7_placesUnlikeStage_18 : decode cX7_placesUnlikeStage 18 = .ok (.invokevirtual 117, 3) := by decide +kernel
theorem dX7_placesUnlikeStage_21 : decode cX7_placesUnlikeStage 21 = .ok (.aload_n 0, 1) := by decide +kernel
theorem dX7_placesUnlikeStage_22 : decode cX7_placesUnlikeStage 22 = .ok (.getfield 26, 3) := by decide +kernel
theorem dX7_placesUnlikeStage_25 : decode cX7_placesUnlikeStage 25 = .ok (.aload_n 0, 1) := by decide +kernel
theorem dX7_placesUnlikeStage_26 : decode cX7_placesUnlikeStage 26 = .ok (.getfield 17, 3) := by decide +kernel
theorem dX7_placesUnlikeStage_29 : decode cX7_placesUnlikeStage 29 = .ok (.iload_n 3, 1) := by decide +kernel
theorem dX7_placesUnlikeStage_30 : decode cX7_placesUnlikeStage 30 = .ok (.aaload, 1) := by decide +kernel
theorem dX7_placesUnlikeStage_31 : decode cX7_placesUnlikeStage 31 = .ok (.invokevirtual 182, 3) := by decide +kernel
theorem dX7_placesUnlikeStage_34 : decode cX7_placesUnlikeStage 34 = .ok (.ifCond .ne 6, 3) := by decide +kernel
theorem dX7_placesUnlikeStage_37 : decode cX7_placesUnlikeStage 37 = .ok (.iinc 2 1, 3) := by decide +kernel
theorem dX7_placesUnlikeStage_40 : decode cX7_placesUnlikeStage 40 = .ok (.iinc 3 1, 3) := by decide +kernel
theorem dX7_placesUnlikeStage_43 : decode cX7_placesUnlikeStage 43 = .ok (.goto (-39), 3) := by decide +kernel
theorem dX7_placesUnlikeStage_46 : decode cX7_placesUnlikeStage 46 = .ok (.iload_n 2, 1) := by decide +kernel
theorem dX7_placesUnlikeStage_47 : decode cX7_placesUnlikeStage 47 = .ok (.ireturn, 1) := by decide +kernel
theorem dX7_goesInto_0 : decode cX7_goesInto 0 = .ok (.iload_n 0, 1) := by decide +kernel
theorem dX7_goesInto_1 : decode cX7_goesInto 1 = .ok (.iload_n 1, 1) := by decide +kernel
theorem dX7_goesInto_2 : decode cX7_goesInto 2 = .ok (.if_icmp .ne 5, 3) := by decide +kernel
theorem dX7_goesInto_5 : decode cX7_goesInto 5 = .ok (.iconst 1, 1) := by decide +kernel
theorem dX7_goesInto_6 : decode cX7_goesInto 6 = .ok (.ireturn, 1) := by decide +kernel
theorem dX7_goesInto_7 : decode cX7_goesInto 7 = .ok (.iload_n 0, 1) := by decide +kernel
theorem dX7_goesInto_8 : decode cX7_goesInto 8 = .ok (.ifCond .eq 18, 3) := by decide +kernel
theorem dX7_goesInto_11 : decode cX7_goesInto 11 = .ok (.iload_n 1, 1) := by decide +kernel
theorem dX7_goesInto_12 : decode cX7_goesInto 12 = .ok (.iconst 2, 1) := by decide +kernel
theorem dX7_goesInto_13 : decode cX7_goesInto 13 = .ok (.if_icmp .eq 13, 3) := by decide +kernel
theorem dX7_goesInto_16 : decode cX7_goesInto 16 = .ok (.iload_n 0, 1) := by decide +kernel
theorem dX7_goesInto_17 : decode cX7_goesInto 17 = .ok (.iconst 2, 1) := by decide +kernel
theorem dX7_goesInto_18 : decode cX7_goesInto 18 = .ok (.if_icmp .ne 10, 3) := by decide +kernel
theorem dX7_goesInto_21 : decode cX7_goesInto 21 = .ok (.iload_n 1, 1) := by decide +kernel
theorem dX7_goesInto_22 : decode cX7_goesInto 22 = .ok (.iconst 3, 1) := by decide +kernel
theorem dX7_goesInto_23 : decode cX7_goesInto 23 = .ok (.if_icmp .ne 5, 3) := by decide +kernel
theorem dX7_goesInto_26 : decode cX7_goesInto 26 = .ok (.iconst 0, 1) := by decide +kernel
theorem dX7_goesInto_27 : decode cX7_goesInto 27 = .ok (.ireturn, 1) := by decide +kernel
theorem dX7_goesInto_28 : decode cX7_goesInto 28 = .ok (.iload_n 0, 1) := by decide +kernel
theorem dX7_goesInto_29 : decode cX7_goesInto 29 = .ok (.iload_n 1, 1) := by decide +kernel
theorem dX7_goesInto_30 : decode cX7_goesInto 30 = .ok (.if_icmp .ge 7, 3) := by decide +kernel
theorem dX7_goesInto_33 : decode cX7_goesInto 33 = .ok (.iconst 1, 1) := by decide +kernel
theorem dX7_goesInto_34 : decode cX7_goesInto 34 = .ok (.goto 4, 3) := by decide +kernel
theorem dX7_goesInto_37 : decode cX7_goesInto 37 = .ok (.iconst 0, 1) := by decide +kernel
theorem dX7_goesInto_38 : decode cX7_goesInto 38 = .ok (.ireturn, 1) := by decide +kernel
theorem dX7_fits_0 : decode cX7_fits 0 = .ok (.iload_n 1, 1) := by decide +kernel
theorem dX7_fits_1 : decode cX7_fits 1 = .ok (.tableswitch 84 8 11 #[31, 43, 55, 66], 31) := by decide +kernel
theorem dX7_fits_32 : decode cX7_fits 32 = .ok (.iload_n 0, 1) := by decide +kernel
theorem dX7_fits_33 : decode cX7_fits 33 = .ok (.bipush 12, 2) := by decide +kernel
theorem dX7_fits_35 : decode cX7_fits 35 = .ok (.if_icmp .lt 7, 3) := by decide +kernel
theorem dX7_fits_38 : decode cX7_fits 38 = .ok (.iconst 1, 1) := by decide +kernel
theorem dX7_fits_39 : decode cX7_fits 39 = .ok (.goto 4, 3) := by decide +kernel
theorem dX7_fits_42 : decode cX7_fits 42 = .ok (.iconst 0, 1) := by decide +kernel
theorem dX7_fits_43 : decode cX7_fits 43 = .ok (.ireturn, 1) := by decide +kernel
theorem dX7_fits_44 : decode cX7_fits 44 = .ok (.iload_n 0, 1) := by decide +kernel
theorem dX7_fits_45 : decode cX7_fits 45 = .ok (.bipush 14, 2) := by decide +kernel
theorem dX7_fits_47 : decode cX7_fits 47 = .ok (.if_icmp .ne 7, 3) := by decide +kernel
theorem dX7_fits_50 : decode cX7_fits 50 = .ok (.iconst 1, 1) := by decide +kernel
theorem dX7_fits_51 : decode cX7_fits 51 = .ok (.goto 4, 3) := by decide +kernel
theorem dX7_fits_54 : decode cX7_fits 54 = .ok (.iconst 0, 1) := by decide +kernel
theorem dX7_fits_55 : decode cX7_fits 55 = .ok (.ireturn, 1) := by decide +kernel
theorem dX7_fits_56 : decode cX7_fits 56 = .ok (.iload_n 0, 1) := by decide +kernel
theorem dX7_fits_57 : decode cX7_fits 57 = .ok (.iconst 4, 1) := by decide +kernel
theorem dX7_fits_58 : decode cX7_fits 58 = .ok (.if_icmp .ne 7, 3) := by decide +kernel
theorem dX7_fits_61 : decode cX7_fits 61 = .ok (.iconst 1, 1) := by decide +kernel
theorem dX7_fits_62 : decode cX7_fits 62 = .ok (.goto 4, 3) := by decide +kernel
theorem dX7_fits_65 : decode cX7_fits 65 = .ok (.iconst 0, 1) := by decide +kernel
theorem dX7_fits_66 : decode cX7_fits 66 = .ok (.ireturn, 1) := by decide +kernel
theorem dX7_fits_67 : decode cX7_fits 67 = .ok (.iload_n 0, 1) := by decide +kernel
theorem dX7_fits_68 : decode cX7_fits 68 = .ok (.bipush 8, 2) := by decide +kernel
theorem dX7_fits_70 : decode cX7_fits 70 = .ok (.if_icmp .eq 9, 3) := by decide +kernel
theorem dX7_fits_73 : decode cX7_fits 73 = .ok (.iload_n 0, 1) := by decide +kernel
theorem dX7_fits_74 : decode cX7_fits 74 = .ok (.bipush 9, 2) := by decide +kernel
theorem dX7_fits_76 : decode cX7_fits 76 = .ok (.if_icmp .ne 7, 3) := by decide +kernel
theorem dX7_fits_79 : decode cX7_fits 79 = .ok (.iconst 1, 1) := by decide +kernel
theorem dX7_fits_80 : decode cX7_fits 80 = .ok (.goto 4, 3) := by decide +kernel
theorem dX7_fits_83 : decode cX7_fits 83 = .ok (.iconst 0, 1) := by decide +kernel
theorem dX7_fits_84 : decode cX7_fits 84 = .ok (.ireturn, 1) := by decide +kernel
theorem dX7_fits_85 : decode cX7_fits 85 = .ok (.iconst 0, 1) := by decide +kernel
theorem dX7_fits_86 : decode cX7_fits 86 = .ok (.ireturn, 1) := by decide +kernel
theorem dJ9_floorMod_7cf53_0 : decode cJ9_floorMod_7cf53 0 = .ok (.iload_n 0, 1) := by decide +kernel
theorem dJ9_floorMod_7cf53_1 : decode cJ9_floorMod_7cf53 1 = .ok (.iload_n 1, 1) := by decide +kernel
theorem dJ9_floorMod_7cf53_2 : decode cJ9_floorMod_7cf53 2 = .ok (.irem, 1) := by decide +kernel
theorem dJ9_floorMod_7cf53_3 : decode cJ9_floorMod_7cf53 3 = .ok (.istore_n 2, 1) := by decide +kernel
theorem dJ9_floorMod_7cf53_4 : decode cJ9_floorMod_7cf53 4 = .ok (.iload_n 0, 1) := by decide +kernel
theorem dJ9_floorMod_7cf53_5 : decode cJ9_floorMod_7cf53 5 = .ok (.iload_n 1, 1) := by decide +kernel
theorem dJ9_floorMod_7cf53_6 : decode cJ9_floorMod_7cf53 6 = .ok (.ixor, 1) := by decide +kernel
theorem dJ9_floorMod_7cf53_7 : decode cJ9_floorMod_7cf53 7 = .ok (.ifCond .ge 11, 3) := by decide +kernel
theorem dJ9_floorMod_7cf53_10 : decode cJ9_floorMod_7cf53 10 = .ok (.iload_n 2, 1) := by decide +kernel
theorem dJ9_floorMod_7cf53_11 : decode cJ9_floorMod_7cf53 11 = .ok (.ifCond .eq 7, 3) := by decide +kernel
theorem dJ9_floorMod_7cf53_14 : decode cJ9_floorMod_7cf53 14 = .ok (.iload_n 2, 1) := by decide +kernel
theorem dJ9_floorMod_7cf53_15 : decode cJ9_floorMod_7cf53 15 = .ok (.iload_n 1, 1) := by decide +kernel
theorem dJ9_floorMod_7cf53_16 : decode cJ9_floorMod_7cf53 16 = .ok (.iadd, 1) := by decide +kernel
theorem dJ9_floorMod_7cf53_17 : decode cJ9_floorMod_7cf53 17 = .ok (.ireturn, 1) := by decide +kernel
theorem dJ9_floorMod_7cf53_18 : decode cJ9_floorMod_7cf53 18 = .ok (.iload_n 2, 1) := by decide +kernel
theorem dJ9_floorMod_7cf53_19 : decode cJ9_floorMod_7cf53 19 = .ok (.ireturn, 1) := by decide +kernel
theorem dJ9_max_7cf53_0 : decode cJ9_max_7cf53 0 = .ok (.iload_n 0, 1) := by decide +kernel
theorem dJ9_max_7cf53_1 : decode cJ9_max_7cf53 1 = .ok (.iload_n 1, 1) := by decide +kernel
theorem dJ9_max_7cf53_2 : decode cJ9_max_7cf53 2 = .ok (.if_icmp .lt 7, 3) := by decide +kernel
theorem dJ9_max_7cf53_5 : decode cJ9_max_7cf53 5 = .ok (.iload_n 0, 1) := by decide +kernel
theorem dJ9_max_7cf53_6 : decode cJ9_max_7cf53 6 = .ok (.goto 4, 3) := by decide +kernel
theorem dJ9_max_7cf53_9 : decode cJ9_max_7cf53 9 = .ok (.iload_n 1, 1) := by decide +kernel
theorem dJ9_max_7cf53_10 : decode cJ9_max_7cf53 10 = .ok (.ireturn, 1) := by decide +kernel
theorem dJ9_min_7cf53_0 : decode cJ9_min_7cf53 0 = .ok (.iload_n 0, 1) := by decide +kernel
theorem dJ9_min_7cf53_1 : decode cJ9_min_7cf53 1 = .ok (.iload_n 1, 1) := by decide +kernel
theorem dJ9_min_7cf53_2 : decode cJ9_min_7cf53 2 = .ok (.if_icmp .gt 7, 3) := by decide +kernel
theorem dJ9_min_7cf53_5 : decode cJ9_min_7cf53 5 = .ok (.iload_n 0, 1) := by decide +kernel
theorem dJ9_min_7cf53_6 : decode cJ9_min_7cf53 6 = .ok (.goto 4, 3) := by decide +kernel
theorem dJ9_min_7cf53_9 : decode cJ9_min_7cf53 9 = .ok (.iload_n 1, 1) := by decide +kernel
theorem dJ9_min_7cf53_10 : decode cJ9_min_7cf53 10 = .ok (.ireturn, 1) := by decide +kernel
end
section
theorem dX8_init_0 : decode cX8_init 0 = .ok (.aload_n 0, 1) := by decide +kernel
theorem dX8_init_1 : decode cX8_init 1 = .ok (.invokespecial 1, 3) := by decide +kernel
theorem dX8_init_4 : decode cX8_init 4 = .ok (.aload_n 0, 1) := by decide +kernel
theorem dX8_init_5 : decode cX8_init 5 = .ok (.bipush 8, 2) := by decide +kernel
theorem dX8_init_7 : decode cX8_init 7 = .ok (.newarray .int, 2) := by decide +kernel
theorem dX8_init_9 : decode cX8_init 9 = .ok (.dup, 1) := by decide +kernel
theorem dX8_init_10 : decode cX8_init 10 = .ok (.iconst 0, 1) := by decide +kernel
theorem dX8_init_11 : decode cX8_init 11 = .ok (.iconst 1, 1) := by decide +kernel
theorem dX8_init_12 : decode cX8_init 12 = .ok (.iastore, 1) := by decide +kernel
theorem dX8_init_13 : decode cX8_init 13 = .ok (.dup, 1) := by decide +kernel
theorem dX8_init_14 : decode cX8_init 14 = .ok (.iconst 1, 1) := by decide +kernel
theorem dX8_init_15 : decode cX8_init 15 = .ok (.sipush 250, 3) := by decide +kernel
theorem dX8_init_18 : decode cX8_init 18 = .ok (.iastore, 1) := by decide +kernel
theorem dX8_init_19 : decode cX8_init 19 = .ok (.dup, 1) := by decide +kernel
theorem dX8_init_20 : decode cX8_init 20 = .ok (.iconst 2, 1) := by decide +kernel
theorem dX8_init_21 : decode cX8_init 21 = .ok (.sipush 244, 3) := by decide +kernel
theorem dX8_init_24 : decode cX8_init 24 = .ok (.iastore, 1) := by decide +kernel
theorem dX8_init_25 : decode cX8_init 25 = .ok (.dup, 1) := by decide +kernel
theorem dX8_init_26 : decode cX8_init 26 = .ok (.iconst 3, 1) := by decide +kernel
theorem dX8_init_27 : decode cX8_init 27 = .ok (.sipush 248, 3) := by decide +kernel
theorem dX8_init_30 : decode cX8_init 30 = .ok (.iastore, 1) := by decide +kernel
theorem dX8_init_31 : decode cX8_init 31 = .ok (.dup, 1) := by decide +kernel
theorem dX8_init_32 : decode cX8_init 32 = .ok (.iconst 4, 1) := by decide +kernel
theorem dX8_init_33 : decode cX8_init 33 = .ok (.sipush 240, 3) := by decide +kernel
theorem dX8_init_36 : decode cX8_init 36 = .ok (.iastore, 1) := by decide +kernel
theorem dX8_init_37 : decode cX8_init 37 = .ok (.dup, 1) := by decide +kernel
theorem dX8_init_38 : decode cX8_init 38 = .ok (.iconst 5, 1) := by decide +kernel
theorem dX8_init_39 : decode cX8_init 39 = .ok (.sipush 224, 3) := by decide +kernel
theorem dX8_init_42 : decode cX8_init 42 = .ok (.iastore, 1) := by decide +kernel
theorem dX8_init_43 : decode cX8_init 43 = .ok (.dup, 1) := by decide +kernel
theorem dX8_init_44 : decode cX8_init 44 = .ok (.bipush 6, 2) := by decide +kernel
theorem dX8_init_46 : decode cX8_init 46 = .ok (.sipush 192, 3) := by decide +kernel
theorem dX8_init_49 : decode cX8_init 49 = .ok (.iastore, 1) := by decide +kernel
theorem dX8_init_50 : decode cX8_init 50 = .ok (.dup, 1) := by decide +kernel
theorem dX8_init_51 : decode cX8_init 51 = .ok (.bipush 7, 2) := by decide +kernel
theorem dX8_init_53 : decode cX8_init 53 = .ok (.sipush 128, 3) := by decide +kernel
theorem dX8_init_56 : decode cX8_init 56 = .ok (.iastore, 1) := by decide +kernel
theorem dX8_init_57 : decode cX8_init 57 = .ok (.putfield 7, 3) := by decide +kernel
theorem dX8_init_60 : decode cX8_init 60 = .ok (.aload_n 0, 1) := by decide +kernel
theorem dX8_init_61 : decode cX8_init 61 = .ok (.sipush 513, 3) := by decide +kernel
theorem dX8_init_64 : decode cX8_init 64 = .ok (.newarray .int, 2) := by decide +kernel
theorem dX8_init_66 : decode cX8_init 66 = .ok (.putfield 13, 3) := by decide +kernel
theorem dX8_init_69 : decode cX8_init 69 = .ok (.aload_n 0, 1) := by decide +kernel
theorem dX8_init_70 : decode cX8_init 70 = .ok (.sipush 513, 3) := by decide +kernel
theorem dX8_init_73 : decode cX8_init 73 = .ok (.newarray .int, 2) := by decide +kernel
theorem dX8_init_75 : decode cX8_init 75 = .ok (.putfield 16, 3) := by decide +kernel
theorem dX8_init_78 : decode cX8_init 78 = .ok (.aload_n 0, 1) := by decide +kernel
theorem dX8_init_79 : decode cX8_init 79 = .ok (.sipush 513, 3) := by decide +kernel
theorem dX8_init_82 : decode cX8_init 82 = .ok (.newarray .int, 2) := by decide +kernel
theorem dX8_init_84 : decode cX8_init 84 = .ok (.putfield 19, 3) := by decide +kernel
theorem dX8_init_87 : decode cX8_init 87 = .ok (.aload_n 0, 1) := by decide +kernel
theorem dX8_init_88 : decode cX8_init 88 = .ok (.sipush 12312, 3) := by decide +kernel
theorem dX8_init_91 : decode cX8_init 91 = .ok (.newarray .long, 2) := by decide +kernel
theorem dX8_init_93 : decode cX8_init 93 = .ok (.putfield 22, 3) := by decide +kernel
theorem dX8_init_96 : decode cX8_init 96 = .ok (.aload_n 0, 1) := by decide +kernel
theorem dX8_init_97 : decode cX8_init 97 = .ok (.sipush 12312, 3) := by decide +kernel
theorem dX8_init_100 : decode cX8_init 100 = .ok (.newarray .double, 2) := by decide +kernel
theorem dX8_init_102 : decode cX8_init 102 = .ok (.putfield 26, 3) := by decide +kernel
theorem dX8_init_105 : decode cX8_init 105 = .ok (.aload_n 0, 1) := by decide +kernel
theorem dX8_init_106 : decode cX8_init 106 = .ok (.bipush 12, 2) := by decide +kernel
theorem dX8_init_108 : decode cX8_init 108 = .ok (.newarray .int, 2) := by decide +kernel
theorem dX8_init_110 : decode cX8_init 110 = .ok (.putfield 30, 3) := by decide +kernel
theorem dX8_init_113 : decode cX8_init 113 = .ok (.aload_n 0, 1) := by decide +kernel
theorem dX8_init_114 : decode cX8_init 114 = .ok (.bipush 24, 2) := by decide +kernel
theorem dX8_init_116 : decode cX8_init 116 = .ok (.newarray .int, 2) := by decide +kernel
theorem dX8_init_118 : decode cX8_init 118 = .ok (.putfield 33, 3) := by decide +kernel
theorem dX8_init_121 : decode cX8_init 121 = .ok (.aload_n 0, 1) := by decide +kernel
theorem dX8_init_122 : decode cX8_init 122 = .ok (.bipush 24, 2) := by decide +kernel
theorem dX8_init_124 : decode cX8_init 124 = .ok (.newarray .long, 2) := by decide +kernel
theorem dX8_init_126 : decode cX8_init 126 = .ok (.putfield 36, 3) := by decide +kernel
theorem dX8_init_129 : decode cX8_init 129 = .ok (.aload_n 0, 1) := by decide +kernel
theorem dX8_init_130 : decode cX8_init 130 = .ok (.bipush 24, 2) := by decide +kernel
theorem dX8_init_132 : decode cX8_init 132 = .ok (.newarray .double, 2) := by decide +kernel
theorem dX8_init_134 : decode cX8_init 134 = .ok (.putfield 39, 3) := by decide +kernel
theorem dX8_init_137 : decode cX8_init 137 = .ok (.aload_n 0, 1) := by decide +kernel
theorem dX8_init_138 : decode cX8_init 138 = .ok (.bipush 24, 2) := by decide +kernel
theorem dX8_init_140 : decode cX8_init 140 = .ok (.newarray .int, 2) := by decide +kernel
theorem dX8_init_142 : decode cX8_init 142 = .ok (.putfield 42, 3) := by decide +kernel
theorem dX8_init_145 : decode cX8_init 145 = .ok (.aload_n 0, 1) := by decide +kernel
theorem dX8_init_146 : decode cX8_init 146 = .ok (.bipush 24, 2) := by decide +kernel
theorem dX8_init_148 : decode cX8_init 148 = .ok (.newarray .int, 2) := by decide +kernel
theorem dX8_init_150 : decode cX8_init 150 = .ok (.putfield 45, 3) := by decide +kernel
theorem dX8_init_153 : decode cX8_init 153 = .ok (.return_, 1) := by decide +kernel
theorem dX8_refuse_0 : decode cX8_refuse 0 = .ok (.aload_n 0, 1) := by decide +kernel
theorem dX8_refuse_1 : decode cX8_refuse 1 = .ok (.iload_n 1, 1) := by decide +kernel
theorem dX8_refuse_2 : decode cX8_refuse 2 = .ok (.putfield 48, 3) := by decide +kernel
theorem dX8_refuse_5 : decode cX8_refuse 5 = .ok (.iconst 0, 1) := by decide +kernel
theorem dX8_refuse_6 : decode cX8_refuse 6 = .ok (.ireturn, 1) := by decide +kernel
theorem dX8_isIn_0 : decode cX8_isIn 0 = .ok (.iload_n 0, 1) := by decide +kernel
theorem dX8_isIn_1 : decode cX8_isIn 1 = .ok (.iload_n 1, 1) := by decide +kernel
theorem dX8_isIn_2 : decode cX8_isIn 2 = .ok (.if_icmp .lt 12, 3) := by decide +kernel
theorem dX8_isIn_5 : decode cX8_isIn 5 = .ok (.iload_n 0, 1) := by decide +kernel
theorem dX8_isIn_6 : decode cX8_isIn 6 = .ok (.iload_n 2, 1) := by decide +kernel
theorem dX8_isIn_7 : decode cX8_isIn 7 = .ok (.if_icmp .gt 7, 3) := by decide +kernel
theorem dX8_isIn_10 : decode cX8_isIn 10 = .ok (.iconst 1, 1) := by decide +kernel
theorem dX8_isIn_11 : decode cX8_isIn 11 = .ok (.goto 4, 3) := by decide +kernel
theorem dX8_isIn_14 : decode cX8_isIn 14 = .ok (.iconst 0, 1) := by decide +kernel
theorem dX8_isIn_15 : decode cX8_isIn 15 = .ok (.ireturn, 1) := by decide +kernel
theorem dX8_isColumn_0 : decode cX8_isColumn 0 = .ok (.iload_n 0, 1) := by decide +kernel
theorem dX8_isColumn_1 : decode cX8_isColumn 1 = .ok (.iconst 0, 1) := by decide +kernel
theorem dX8_isColumn_2 : decode cX8_isColumn 2 = .ok (.bipush 11, 2) := by decide +kernel
theorem dX8_isColumn_4 : decode cX8_isColumn 4 = .ok (.invokestatic 52, 3) := by decide +kernel
theorem dX8_isColumn_7 : decode cX8_isColumn 7 = .ok (.ireturn, 1) := by decide +kernel
theorem dX8_in_0 : decode cX8_in 0 = .ok (.aload_n 0, 1) := by decide +kernel
theorem dX8_in_1 : decode cX8_in 1 = .ok (.getfield 30, 3) := by decide +kernel
theorem dX8_in_4 : decode cX8_in 4 = .ok (.iload_n 1, 1) := by decide +kernel
theorem dX8_in_5 : decode cX8_in 5 = .ok (.iaload, 1) := by decide +kernel
theorem dX8_in_6 : decode cX8_in 6 = .ok (.iconst 1, 1) := by decide +kernel
theorem dX8_in_7 : decode cX8_in 7 = .ok (.isub, 1) := by decide +kernel
theorem dX8_in_8 : decode cX8_in 8 = .ok (.ireturn, 1) := by decide +kernel
theorem dX8_isRow_0 : decode cX8_isRow 0 = .ok (.aload_n 0, 1) := by decide +kernel
theorem dX8_isRow_1 : decode cX8_isRow 1 = .ok (.getfield 13, 3) := by decide +kernel
theorem dX8_isRow_4 : decode cX8_isRow 4 = .ok (.iload_n 1, 1) := by decide +kernel
theorem dX8_isRow_5 : decode cX8_isRow 5 = .ok (.iaload, 1) := by decide +kernel
theorem dX8_isRow_6 : decode cX8_isRow 6 = .ok (.bipush 12, 2) := by decide +kernel
theorem dX8_isRow_8 : decode cX8_isRow 8 = .ok (.if_icmp .ge 7, 3) := by decide +kernel
theorem dX8_isRow_11 : decode cX8_isRow 11 = .ok (.iconst 1, 1) := by decide +kernel
theorem dX8_isRow_12 : decode cX8_isRow 12 = .ok (.goto 4, 3) := by decide +kernel
theorem dX8_isRow_15 : decode cX8_isRow 15 = .ok (.iconst 0, 1) := by decide +kernel
theorem dX8_isRow_16 : decode cX8_isRow 16 = .ok (.ireturn, 1) := by decide +kernel
theorem dX8_isPlain_0 : decode cX8_isPlain 0 = .ok (.aload_n 0, 1) := by decide +kernel
theorem dX8_isPlain_1 : decode cX8_isPlain 1 = .ok (.getfield 13, 3) := by decide +kernel
theorem dX8_isPlain_4 : decode cX8_isPlain 4 = .ok (.iload_n 1, 1) := by decide +kernel
theorem dX8_isPlain_5 : decode cX8_isPlain 5 = .ok (.iaload, 1) := by decide +kernel
theorem dX8_isPlain_6 : decode cX8_isPlain 6 = .ok (.bipush 8, 2) := by decide +kernel
theorem dX8_isPlain_8 : decode cX8_isPlain 8 = .ok (.if_icmp .ge 7, 3) := by decide +kernel
theorem dX8_isPlain_11 : decode cX8_isPlain 11 = .ok (.iconst 1, 1) := by decide +kernel
theorem dX8_isPlain_12 : decode cX8_isPlain 12 = .ok (.goto 4, 3) := by decide +kernel
theorem dX8_isPlain_15 : decode cX8_isPlain 15 = .ok (.iconst 0, 1) := by decide +kernel
theorem dX8_isPlain_16 : decode cX8_isPlain 16 = .ok (.ireturn, 1) := by decide +kernel
theorem dX8_hasPlace_0 : decode cX8_hasPlace 0 = .ok (.iload_n 2, 1) := by decide +kernel
theorem dX8_hasPlace_1 : decode cX8_hasPlace 1 = .ok (.ifCond .lt 17, 3) := by decide +kernel
theorem dX8_hasPlace_4 : decode cX8_hasPlace 4 = .ok (.iload_n 2, 1) := by decide +kernel
theorem dX8_hasPlace_5 : decode cX8_hasPlace 5 = .ok (.aload_n 0, 1) := by decide +kernel
theorem dX8_hasPlace_6 : decode cX8_hasPlace 6 = .ok (.getfield 16, 3) := by decide +kernel
theorem dX8_hasPlace_9 : decode cX8_hasPlace 9 = .ok (.iload_n 1, 1) := by decide +kernel
theorem dX8_hasPlace_10 : decode cX8_hasPlace 10 = .ok (.iaload, 1) := by decide +kernel
theorem dX8_hasPlace_11 : decode cX8_hasPlace 11 = .ok (.if_icmp .ge 7, 3) := by decide +kernel
theorem dX8_hasPlace_14 : decode cX8_hasPlace 14 = .ok (.iconst 1, 1) := by decide +kernel
theorem dX8_hasPlace_15 : decode cX8_hasPlace 15 = .ok (.goto 4, 3) := by decide +kernel
theorem dX8_hasPlace_18 : decode cX8_hasPlace 18 = .ok (.iconst 0, 1) := by decide +kernel
theorem dX8_hasPlace_19 : decode cX8_hasPlace 19 = .ok (.ireturn, 1) := by decide +kernel
theorem dX8_reasonOfRow_0 : decode cX8_reasonOfRow 0 = .ok (.aload_n 0, 1) := by decide +kernel
theorem dX8_reasonOfRow_1 : decode cX8_reasonOfRow 1 = .ok (.iload_n 1, 1) := by decide +kernel
theorem dX8_reasonOfRow_2 : decode cX8_reasonOfRow 2 = .ok (.invokevirtual 56, 3) := by decide +kernel
theorem dX8_reasonOfRow_5 : decode cX8_reasonOfRow 5 = .ok (.ifCond .ge 5, 3) := by decide +kernel
theorem dX8_reasonOfRow_8 : decode cX8_reasonOfRow 8 = .ok (.iconst 2, 1) := by decide +kernel
theorem dX8_reasonOfRow_9 : decode cX8_reasonOfRow 9 = .ok (.ireturn, 1) := by decide +kernel
theorem dX8_reasonOfRow_10 : decode cX8_reasonOfRow 10 = .ok (.aload_n 0, 1) := by decide +kernel
theorem dX8_reasonOfRow_11 : decode cX8_reasonOfRow 11 = .ok (.aload_n 0, 1) := by decide +kernel
theorem dX8_reasonOfRow_12 : decode cX8_reasonOfRow 12 = .ok (.iload_n 1, 1) := by decide +kernel
theorem dX8_reasonOfRow_13 : decode cX8_reasonOfRow 13 = .ok (.invokevirtual 56, 3) := by decide +kernel
theorem dX8_reasonOfRow_16 : decode cX8_reasonOfRow 16 = .ok (.invokevirtual 60, 3) := by decide +kernel
theorem dX8_reasonOfRow_19 : decode cX8_reasonOfRow 19 = .ok (.ifCond .eq 7, 3) := by decide +kernel
theorem dX8_reasonOfRow_22 : decode cX8_reasonOfRow 22 = .ok (.iconst 0, 1) := by decide +kernel
theorem dX8_reasonOfRow_23 : decode cX8_reasonOfRow 23 = .ok (.goto 4, 3) := by decide +kernel
theorem dX8_reasonOfRow_26 : decode cX8_reasonOfRow 26 = .ok (.iconst 3, 1) := by decide +kernel
theorem dX8_reasonOfRow_27 : decode cX8_reasonOfRow 27 = .ok (.ireturn, 1) := by decide +kernel
theorem dX8_reasonOfRows_0 : decode cX8_reasonOfRows 0 = .ok (.aload_n 0, 1) := by decide +kernel
theorem dX8_reasonOfRows_1 : decode cX8_reasonOfRows 1 = .ok (.iload_n 1, 1) := by decide +kernel
theorem dX8_reasonOfRows_2 : decode cX8_reasonOfRows 2 = .ok (.invokevirtual 56, 3) := by decide +kernel
theorem dX8_reasonOfRows_5 : decode cX8_reasonOfRows 5 = .ok (.ifCond .lt 19, 3) := by decide +kernel
theorem dX8_reasonOfRows_8 : decode cX8_reasonOfRows 8 = .ok (.aload_n 0, 1) := by decide +kernel
theorem dX8_reasonOfRows_9 : decode cX8_reasonOfRows 9 = .ok (.iload_n 2, 1) := by decide +kernel
theorem dX8_reasonOfRows_10 : decode cX8_reasonOfRows 10 = .ok (.invokevirtual 56, 3) := by decide +kernel
theorem dX8_reasonOfRows_13 : decode cX8_reasonOfRows 13 = .ok (.ifCond .lt 11, 3) := by decide +kernel
theorem dX8_reasonOfRows_16 : decode cX8_reasonOfRows 16 = .ok (.aload_n 0, 1) := by decide +kernel
theorem dX8_reasonOfRows_17 : decode cX8_reasonOfRows 17 = .ok (.iload_n 3, 1) := by decide +kernel
theorem dX8_reasonOfRows_18 : decode cX8_reasonOfRows 18 = .ok (.invokevirtual 56, 3) := by decide +kernel
theorem dX8_reasonOfRows_21 : decode cX8_reasonOfRows 21 = .ok (.ifCond .ge 5, 3) := by decide +kernel
theorem dX8_reasonOfRows_24 : decode cX8_reasonOfRows 24 = .ok (.iconst 2, 1) := by decide +kernel
theorem dX8_reasonOfRows_25 : decode cX8_reasonOfRows 25 = .ok (.ireturn, 1) := by decide +kernel
theorem dX8_reasonOfRows_26 : decode cX8_reasonOfRows 26 = .ok (.aload_n 0, 1) := by decide +kernel
theorem dX8_reasonOfRows_27 : decode cX8_reasonOfRows 27 = .ok (.aload_n 0, 1) := by decide +kernel
theorem dX8_reasonOfRows_28 : decode cX8_reasonOfRows 28 = .ok (.iload_n 1, 1) := by decide +kernel
theorem dX8_reasonOfRows_29 : decode cX8_reasonOfRows 29 = .ok (.invokevirtual 56, 3) := by decide +kernel
theorem dX8_reasonOfRows_32 : decode cX8_reasonOfRows 32 = .ok (.invokevirtual 60, 3) := by decide +kernel
theorem dX8_reasonOfRows_35 : decode cX8_reasonOfRows 35 = .ok (.ifCond .eq 31, 3) := by decide +kernel
theorem dX8_reasonOfRows_38 : decode cX8_reasonOfRows 38 = .ok (.aload_n 0, 1) := by decide +kernel
theorem dX8_reasonOfRows_39 : decode cX8_reasonOfRows 39 = .ok (.aload_n 0, 1) := by decide +kernel
theorem dX8_reasonOfRows_40 : decode cX8_reasonOfRows 40 = .ok (.iload_n 2, 1) := by decide +kernel
theorem dX8_reasonOfRows_41 : decode cX8_reasonOfRows 41 = .ok (.invokevirtual 56, 3) := by decide +kernel
theorem dX8_reasonOfRows_44 : decode cX8_reasonOfRows 44 = .ok (.invokevirtual 60, 3) := by decide +kernel
theorem dX8_reasonOfRows_47 : decode cX8_reasonOfRows 47 = .ok (.ifCond .eq 19, 3) := by decide +kernel
theorem dX8_reasonOfRows_50 : decode cX8_reasonOfRows 50 = .ok (.aload_n 0, 1) := by decide +kernel
theorem dX8_reasonOfRows_51 : decode cX8_reasonOfRows 51 = .ok (.aload_n 0, 1) := by decide +kernel
theorem dX8_reasonOfRows_52 : decode cX8_reasonOfRows 52 = .ok (.iload_n 3, 1) := by decide +kernel
theorem dX8_reasonOfRows_53 : decode cX8_reasonOfRows 53 = .ok (.invokevirtual 56, 3) := by decide +kernel
theorem dX8_reasonOfRows_56 : decode cX8_reasonOfRows 56 = .ok (.invokevirtual 60, 3) := by decide +kernel
theorem dX8_reasonOfRows_59 : decode cX8_reasonOfRows 59 = .ok (.ifCond .eq 7, 3) := by decide +kernel
theorem dX8_reasonOfRows_62 : decode cX8_reasonOfRows 62 = .ok (.iconst 0, 1) := by decide +kernel
theorem dX8_reasonOfRows_63 : decode cX8_reasonOfRows 63 = .ok (.goto 4, 3) := by decide +kernel
theorem dX8_reasonOfRows_66 : decode cX8_reasonOfRows 66 = .ok (.iconst 3, 1) := by decide +kernel
theorem dX8_reasonOfRows_67 : decode cX8_reasonOfRows 67 = .ok (.ireturn, 1) := by decide +kernel
theorem dX8_tell_0 : decode cX8_tell 0 = .ok (.iload_n 2, 1) := by decide +kernel
theorem dX8_tell_1 : decode cX8_tell 1 = .ok (.i2l, 1) := by decide +kernel
theorem dX8_tell_2 : decode cX8_tell 2 = .ok (.bipush 32, 2) := by decide +kernel
theorem dX8_tell_4 : decode cX8_tell 4 = .ok (.lshl, 1) := by decide +kernel
theorem dX8_tell_5 : decode cX8_tell 5 = .ok (.iload_n 3, 1) := by decide +kernel
theorem dX8_tell_6 : decode cX8_tell 6 = .ok (.i2l, 1) := by decide +kernel
theorem dX8_tell_7 : decode cX8_tell 7 = .ok (.ldc2_w 64, 3) := by decide +kernel
theorem dX8_tell_10 : decode cX8_tell 10 = .ok (.land, 1) := by decide +kernel
theorem dX8_tell_11 : decode cX8_tell 11 = .ok (.lor, 1) := by decide +kernel
theorem dX8_tell_12 : decode cX8_tell 12 = .ok (.lstore 4, 2) := by decide +kernel
theorem dX8_tell_14 : decode cX8_tell 14 = .ok (.aload_n 0, 1) := by decide +kernel
theorem dX8_tell_15 : decode cX8_tell 15 = .ok (.iload_n 1, 1) := by decide +kernel
theorem dX8_tell_16 : decode cX8_tell 16 = .ok (.putfield 66, 3) := by decide +kernel
theorem dX8_tell_19 : decode cX8_tell 19 = .ok (.aload_n 0, 1) := by decide +kernel
theorem dX8_tell_20 : decode cX8_tell 20 = .ok (.lconst 0, 1) := by decide +kernel
theorem dX8_tell_21 : decode cX8_tell 21 = .ok (.putfield 69, 3) := by decide +kernel
theorem dX8_tell_24 : decode cX8_tell 24 = .ok (.aload_n 0, 1) := by decide +kernel
theorem dX8_tell_25 : decode cX8_tell 25 = .ok (.dconst 0, 1) := by decide +kernel
theorem dX8_tell_26 : decode cX8_tell 26 = .ok (.putfield 73, 3) := by decide +kernel
theorem dX8_tell_29 : decode cX8_tell 29 = .ok (.iload_n 1, 1) := by decide +kernel
theorem dX8_tell_30 : decode cX8_tell 30 = .ok (.tableswitch 123 0 6 #[42, 53, 65, 77, 89, 100, 109], 42) := by decide +kernel
theorem dX8_tell_72 : decode cX8_tell 72 = .ok (.aload_n 0, 1) := by decide +kernel
theorem dX8_tell_73 : decode cX8_tell 73 = .ok (.lload 4, 2) := by decide +kernel
theorem dX8_tell_75 : decode cX8_tell 75 = .ok (.lconst 1, 1) := by decide +kernel
theorem dX8_tell_76 : decode cX8_tell 76 = .ok (.land, 1) := by decide +kernel
theorem dX8_tell_77 : decode cX8_tell 77 = .ok (.putfield 69, 3) := by decide +kernel
theorem dX8_tell_80 : decode cX8_tell 80 = .ok (.goto 84, 3) := by decide +kernel
theorem dX8_tell_83 : decode cX8_tell 83 = .ok (.aload_n 0, 1) := by decide +kernel
theorem dX8_tell_84 : decode cX8_tell 84 = .ok (.lload 4, 2) := by decide +kernel
theorem dX8_tell_86 : decode cX8_tell 86 = .ok (.l2i, 1) := by decide +kernel
theorem dX8_tell_87 : decode cX8_tell 87 = .ok (.i2b, 1) := by decide +kernel
theorem dX8_tell_88 : decode cX8_tell 88 = .ok (.i2l, 1) := by decide +kernel
theorem dX8_tell_89 : decode cX8_tell 89 = .ok (.putfield 69, 3) := by decide +kernel
theorem dX8_tell_92 : decode cX8_tell 92 = .ok (.goto 72, 3) := by decide +kernel
theorem dX8_tell_95 : decode cX8_tell 95 = .ok (.aload_n 0, 1) := by decide +kernel
theorem dX8_tell_96 : decode cX8_tell 96 = .ok (.lload 4, 2) := by decide +kernel
theorem dX8_tell_98 : decode cX8_tell 98 = .ok (.l2i, 1) := by decide +kernel
theorem dX8_tell_99 : decode cX8_tell 99 = .ok (.i2c, 1) := by decide +kernel
theorem dX8_tell_100 : decode cX8_tell 100 = .ok (.i2l, 1) := by decide +kernel
theorem dX8_tell_101 : decode cX8_tell 101 = .ok (.putfield 69, 3) := by decide +kernel
theorem dX8_tell_104 : decode cX8_tell 104 = .ok (.goto 60, 3) := by decide +kernel
theorem dX8_tell_107 : decode cX8_tell 107 = .ok (.aload_n 0, 1) := by decide +kernel
theorem dX8_tell_108 : decode cX8_tell 108 = .ok (.lload 4, 2) := by decide +kernel
theorem dX8_tell_110 : decode cX8_tell 110 = .ok (.l2i, 1) := by decide +kernel
theorem dX8_tell_111 : decode cX8_tell 111 = .ok (.i2s, 1) := by decide +kernel
theorem dX8_tell_112 : decode cX8_tell 112 = .ok (.i2l, 1) := by decide +kernel
theorem dX8_tell_113 : decode cX8_tell 113 = .ok (.putfield 69, 3) := by decide +kernel
theorem dX8_tell_116 : decode cX8_tell 116 = .ok (.goto 48, 3) := by decide +kernel
theorem dX8_tell_119 : decode cX8_tell 119 = .ok (.aload_n 0, 1) := by decide +kernel
theorem dX8_tell_120 : decode cX8_tell 120 = .ok (.lload 4, 2) := by decide +kernel
theorem dX8_tell_122 : decode cX8_tell 122 = .ok (.l2i, 1) := by decide +kernel
theorem dX8_tell_123 : decode cX8_tell 123 = .ok (.i2l, 1) := by decide +kernel
theorem dX8_tell_124 : decode cX8_tell 124 = .ok (.putfield 69, 3) := by decide +kernel
theorem dX8_tell_127 : decode cX8_tell 127 = .ok (.goto 37, 3) := by decide +kernel
theorem dX8_tell_130 : decode cX8_tell 130 = .ok (.aload_n 0, 1) := by decide +kernel
theorem dX8_tell_131 : decode cX8_tell 131 = .ok (.lload 4, 2) := by decide +kernel
theorem dX8_tell_133 : decode cX8_tell 133 = .ok (.putfield 69, 3) := by decide +kernel
theorem dX8_tell_136 : decode cX8_tell 136 = .ok (.goto 28, 3) := by decide +kernel
theorem dX8_tell_139 : decode cX8_tell 139 = .ok (.aload_n 0, 1) := by decide +kernel
theorem dX8_tell_140 : decode cX8_tell 140 = .ok (.lload 4, 2) := by decide +kernel
theorem dX8_tell_142 : decode cX8_tell 142 = .ok (.l2f, 1) := by decide +kernel
theorem dX8_tell_143 : decode cX8_tell 143 = .ok (.ldc 77, 2) := by decide +kernel
theorem dX8_tell_145 : decode cX8_tell 145 = .ok (.fdiv, 1) := by decide +kernel
theorem dX8_tell_146 : decode cX8_tell 146 = .ok (.f2d, 1) := by decide +kernel
theorem dX8_tell_147 : decode cX8_tell 147 = .ok (.putfield 73, 3) := by decide +kernel
theorem dX8_tell_150 : decode cX8_tell 150 = .ok (.goto 14, 3) := by decide +kernel
theorem dX8_tell_153 : decode cX8_tell 153 = .ok (.aload_n 0, 1) := by decide +kernel
theorem dX8_tell_154 : decode cX8_tell 154 = .ok (.lload 4, 2) := by decide +kernel
theorem dX8_tell_156 : decode cX8_tell 156 = .ok (.l2d, 1) := by decide +kernel
theorem dX8_tell_157 : decode cX8_tell 157 = .ok (.ldc2_w 78, 3) := by decide +kernel
theorem dX8_tell_160 : decode cX8_tell 160 = .ok (.ddiv, 1) := by decide +kernel
theorem dX8_tell_161 : decode cX8_tell 161 = .ok (.putfield 73, 3) := by decide +kernel
theorem dX8_tell_164 : decode cX8_tell 164 = .ok (.return_, 1) := by decide +kernel
theorem dX8_get_0 : decode cX8_get 0 = .ok (.aload_n 0, 1) := by decide +kernel
theorem dX8_get_1 : decode cX8_get 1 = .ok (.aload_n 0, 1) := by decide +kernel
theorem dX8_get_2 : decode cX8_get 2 = .ok (.getfield 13, 3) := by decide +kernel
theorem dX8_get_5 : decode cX8_get 5 = .ok (.iload_n 1, 1) := by decide +kernel
theorem dX8_get_6 : decode cX8_get 6 = .ok (.iaload, 1) := by decide +kernel
theorem dX8_get_7 : decode cX8_get 7 = .ok (.putfield 66, 3) := by decide +kernel
theorem dX8_get_10 : decode cX8_get 10 = .ok (.aload_n 0, 1) := by decide +kernel
theorem dX8_get_11 : decode cX8_get 11 = .ok (.aload_n 0, 1) := by decide +kernel
theorem dX8_get_12 : decode cX8_get 12 = .ok (.getfield 22, 3) := by decide +kernel
theorem dX8_get_15 : decode cX8_get 15 = .ok (.bipush 24, 2) := by decide +kernel
theorem dX8_get_17 : decode cX8_get 17 = .ok (.iload_n 1, 1) := by decide +kernel
theorem dX8_get_18 : decode cX8_get 18 = .ok (.imul, 1) := by decide +kernel
theorem dX8_get_19 : decode cX8_get 19 = .ok (.iload_n 2, 1) := by decide +kernel
theorem dX8_get_20 : decode cX8_get 20 = .ok (.iadd, 1) := by decide +kernel
theorem dX8_get_21 : decode cX8_get 21 = .ok (.laload, 1) := by decide +kernel
theorem dX8_get_22 : decode cX8_get 22 = .ok (.putfield 69, 3) := by decide +kernel
theorem dX8_get_25 : decode cX8_get 25 = .ok (.aload_n 0, 1) := by decide +kernel
theorem dX8_get_26 : decode cX8_get 26 = .ok (.aload_n 0, 1) := by decide +kernel
theorem dX8_get_27 : decode cX8_get 27 = .ok (.getfield 26, 3) := by decide +kernel
theorem dX8_get_30 : decode cX8_get 30 = .ok (.bipush 24, 2) := by decide +kernel
theorem dX8_get_32 : decode cX8_get 32 = .ok (.iload_n 1, 1) := by decide +kernel
theorem dX8_get_33 : decode cX8_get 33 = .ok (.imul, 1) := by decide +kernel
theorem dX8_get_34 : decode cX8_get 34 = .ok (.iload_n 2, 1) := by decide +kernel
theorem dX8_get_35 : decode cX8_get 35 = .ok (.iadd, 1) := by decide +kernel
theorem dX8_get_36 : decode cX8_get 36 = .ok (.daload, 1) := by decide +kernel
theorem dX8_get_37 : decode cX8_get 37 = .ok (.putfield 73, 3) := by decide +kernel
theorem dX8_get_40 : decode cX8_get 40 = .ok (.return_, 1) := by decide +kernel
theorem dX8_goesInto_0 : decode cX8_goesInto 0 = .ok (.aload_n 0, 1) := by decide +kernel
theorem dX8_goesInto_1 : decode cX8_goesInto 1 = .ok (.getfield 7, 3) := by decide +kernel
theorem dX8_goesInto_4 : decode cX8_goesInto 4 = .ok (.iload_n 1, 1) := by decide +kernel
theorem dX8_goesInto_5 : decode cX8_goesInto 5 = .ok (.iaload, 1) := by decide +kernel
theorem dX8_goesInto_6 : decode cX8_goesInto 6 = .ok (.iload_n 2, 1) := by decide +kernel
theorem dX8_goesInto_7 : decode cX8_goesInto 7 = .ok (.ishr, 1) := by decide +kernel
theorem dX8_goesInto_8 : decode cX8_goesInto 8 = .ok (.iconst 1, 1) := by decide +kernel
theorem dX8_goesInto_9 : decode cX8_goesInto 9 = .ok (.iand, 1) := by decide +kernel
theorem dX8_goesInto_10 : decode cX8_goesInto 10 = .ok (.iconst 1, 1) := by decide +kernel
theorem dX8_goesInto_11 : decode cX8_goesInto 11 = .ok (.if_icmp .ne 7, 3) := by decide +kernel
theorem dX8_goesInto_14 : decode cX8_goesInto 14 = .ok (.iconst 1, 1) := by decide +kernel
theorem dX8_goesInto_15 : decode cX8_goesInto 15 = .ok (.goto 4, 3) := by decide +kernel
theorem dX8_goesInto_18 : decode cX8_goesInto 18 = .ok (.iconst 0, 1) := by decide +kernel
theorem dX8_goesInto_19 : decode cX8_goesInto 19 = .ok (.ireturn, 1) := by decide +kernel
theorem dX8_widen_0 : decode cX8_widen 0 = .ok (.iload_n 1, 1) := by decide +kernel
theorem dX8_widen_1 : decode cX8_widen 1 = .ok (.bipush 6, 2) := by decide +kernel
theorem dX8_widen_3 : decode cX8_widen 3 = .ok (.if_icmp .lt 40, 3) := by decide +kernel
theorem dX8_widen_6 : decode cX8_widen 6 = .ok (.aload_n 0, 1) := by decide +kernel
theorem dX8_widen_7 : decode cX8_widen 7 = .ok (.getfield 66, 3) := by decide +kernel
theorem dX8_widen_10 : decode cX8_widen 10 = .ok (.iconst 5, 1) := by decide +kernel
theorem dX8_widen_11 : decode cX8_widen 11 = .ok (.if_icmp .gt 32, 3) := by decide +kernel
theorem dX8_widen_14 : decode cX8_widen 14 = .ok (.aload_n 0, 1) := by decide +kernel
theorem dX8_widen_15 : decode cX8_widen 15 = .ok (.iload_n 1, 1) := by decide +kernel
theorem dX8_widen_16 : decode cX8_widen 16 = .ok (.bipush 6, 2) := by decide +kernel
theorem dX8_widen_18 : decode cX8_widen 18 = .ok (.if_icmp .ne 12, 3) := by decide +kernel
theorem dX8_widen_21 : decode cX8_widen 21 = .ok (.aload_n 0, 1) := by decide +kernel
theorem dX8_widen_22 : decode cX8_widen 22 = .ok (.getfield 69, 3) := by decide +kernel
theorem dX8_widen_25 : decode cX8_widen 25 = .ok (.l2f, 1) := by decide +kernel
theorem dX8_widen_26 : decode cX8_widen 26 = .ok (.f2d, 1) := by decide +kernel
theorem dX8_widen_27 : decode cX8_widen 27 = .ok (.goto 8, 3) := by decide +kernel
theorem dX8_widen_30 : decode cX8_widen 30 = .ok (.aload_n 0, 1) := by decide +kernel
theorem dX8_widen_31 : decode cX8_widen 31 = .ok (.getfield 69, 3) := by decide +kernel
theorem dX8_widen_34 : decode cX8_widen 34 = .ok (.l2d, 1) := by decide +kernel
theorem dX8_widen_35 : decode cX8_widen 35 = .ok (.putfield 73, 3) := by decide +kernel
theorem dX8_widen_38 : decode cX8_widen 38 = .ok (.aload_n 0, 1) := by decide +kernel
theorem dX8_widen_39 : decode cX8_widen 39 = .ok (.lconst 0, 1) := by decide +kernel
theorem dX8_widen_40 : decode cX8_widen 40 = .ok (.putfield 69, 3) := by decide +kernel
theorem dX8_widen_43 : decode cX8_widen 43 = .ok (.aload_n 0, 1) := by decide +kernel
theorem dX8_widen_44 : decode cX8_widen 44 = .ok (.iload_n 1, 1) := by decide +kernel
theorem dX8_widen_45 : decode cX8_widen 45 = .ok (.putfield 66, 3) := by decide +kernel
theorem dX8_widen_48 : decode cX8_widen 48 = .ok (.return_, 1) := by decide +kernel
theorem dX8_set_0 : decode cX8_set 0 = .ok (.aload_n 0, 1) := by decide +kernel
theorem dX8_set_1 : decode cX8_set 1 = .ok (.getfield 22, 3) := by decide +kernel
theorem dX8_set_4 : decode cX8_set 4 = .ok (.bipush 24, 2) := by decide +kernel
theorem dX8_set_6 : decode cX8_set 6 = .ok (.iload_n 1, 1) := by decide +kernel
theorem dX8_set_7 : decode cX8_set 7 = .ok (.imul, 1) := by decide +kernel
theorem dX8_set_8 : decode cX8_set 8 = .ok (.iload_n 2, 1) := by decide +kernel
theorem dX8_set_9 : decode cX8_set 9 = .ok (.iadd, 1) := by decide +kernel
theorem dX8_set_10 : decode cX8_set 10 = .ok (.aload_n 0, 1) := by decide +kernel
theorem dX8_set_11 : decode cX8_set 11 = .ok (.getfield 69, 3) := by decide +kernel
theorem dX8_set_14 : decode cX8_set 14 = .ok (.lastore, 1) := by decide +kernel
theorem dX8_set_15 : decode cX8_set 15 = .ok (.aload_n 0, 1) := by decide +kernel
theorem dX8_set_16 : decode cX8_set 16 = .ok (.getfield 26, 3) := by decide +kernel
theorem dX8_set_19 : decode cX8_set 19 = .ok (.bipush 24, 2) := by decide +kernel
theorem dX8_set_21 : decode cX8_set 21 = .ok (.iload_n 1, 1) := by decide +kernel
theorem dX8_set_22 : decode cX8_set 22 = .ok (.imul, 1) := by decide +kernel
theorem dX8_set_23 : decode cX8_set 23 = .ok (.iload_n 2, 1) := by decide +kernel
theorem dX8_set_24 : decode cX8_set 24 = .ok (.iadd, 1) := by decide +kernel
theorem dX8_set_25 : decode cX8_set 25 = .ok (.aload_n 0, 1) := by decide +kernel
theorem dX8_set_26 : decode cX8_set 26 = .ok (.getfield 73, 3) := by decide +kernel
theorem dX8_set_29 : decode cX8_set 29 = .ok (.dastore, 1) := by decide +kernel
theorem dX8_set_30 : decode cX8_set 30 = .ok (.return_, 1) := by decide +kernel
theorem dX8_isFloating_0 : decode cX8_isFloating 0 = .ok (.iload_n 0, 1) := by decide +kernel
theorem dX8_isFloating_1 : decode cX8_isFloating 1 = .ok (.bipush 6, 2) := by decide +kernel
theorem dX8_isFloating_3 : decode cX8_isFloating 3 = .ok (.if_icmp .lt 7, 3) := by decide +kernel
theorem dX8_isFloating_6 : decode cX8_isFloating 6 = .ok (.iconst 1, 1) := by decide +kernel
theorem dX8_isFloating_7 : decode cX8_isFloating 7 = .ok (.goto 4, 3) := by decide +kernel
theorem dX8_isFloating_10 : decode cX8_isFloating 10 = .ok (.iconst 0, 1) := by decide +kernel
theorem dX8_isFloating_11 : decode cX8_isFloating 11 = .ok (.ireturn, 1) := by decide +kernel
theorem dX8_doubleOf_0 : decode cX8_doubleOf 0 = .ok (.iload_n 0, 1) := by decide +kernel
theorem dX8_doubleOf_1 : decode cX8_doubleOf 1 = .ok (.iconst 5, 1) := by decide +kernel
theorem dX8_doubleOf_2 : decode cX8_doubleOf 2 = .ok (.if_icmp .gt 8, 3) := by decide +kernel
theorem dX8_doubleOf_5 : decode cX8_doubleOf 5 = .ok (.lload_n 1, 1) := by decide +kernel
theorem dX8_doubleOf_6 : decode cX8_doubleOf 6 = .ok (.l2d, 1) := by decide +kernel
theorem dX8_doubleOf_7 : decode cX8_doubleOf 7 = .ok (.goto 4, 3) := by decide +kernel
theorem dX8_doubleOf_10 : decode cX8_doubleOf 10 = .ok (.dload_n 3, 1) := by decide +kernel
theorem dX8_doubleOf_11 : decode cX8_doubleOf 11 = .ok (.dreturn, 1) := by decide +kernel
theorem dX8_order_0 : decode cX8_order 0 = .ok (.iload_n 0, 1) := by decide +kernel
theorem dX8_order_1 : decode cX8_order 1 = .ok (.ifCond .ne 7, 3) := by decide +kernel
theorem dX8_order_4 : decode cX8_order 4 = .ok (.iconst 1, 1) := by decide +kernel
theorem dX8_order_5 : decode cX8_order 5 = .ok (.goto 4, 3) := by decide +kernel
theorem dX8_order_8 : decode cX8_order 8 = .ok (.iconst 0, 1) := by decide +kernel
theorem dX8_order_9 : decode cX8_order 9 = .ok (.iload_n 3, 1) := by decide +kernel
theorem dX8_order_10 : decode cX8_order 10 = .ok (.ifCond .ne 7, 3) := by decide +kernel
theorem dX8_order_13 : decode cX8_order 13 = .ok (.iconst 1, 1) := by decide +kernel
theorem dX8_order_14 : decode cX8_order 14 = .ok (.goto 4, 3) := by decide +kernel
theorem dX8_order_17 : decode cX8_order 17 = .ok (.iconst 0, 1) := by decide +kernel
theorem dX8_order_18 : decode cX8_order 18 = .ok (.if_icmp .eq 5, 3) := by decide +kernel
theorem dX8_order_21 : decode cX8_order 21 = .ok (.iconst 2, 1) := by decide +kernel
theorem dX8_order_22 : decode cX8_order 22 = .ok (.ireturn, 1) := by decide +kernel
theorem dX8_order_23 : decode cX8_order 23 = .ok (.lload_n 1, 1) := by decide +kernel
theorem dX8_order_24 : decode cX8_order 24 = .ok (.lload 4, 2) := by decide +kernel
theorem dX8_order_26 : decode cX8_order 26 = .ok (.lcmp, 1) := by decide +kernel
theorem dX8_order_27 : decode cX8_order 27 = .ok (.ifCond .ge 7, 3) := by decide +kernel
theorem dX8_order_30 : decode cX8_order 30 = .ok (.iconst (-1), 1) := by decide +kernel
theorem dX8_order_31 : decode cX8_order 31 = .ok (.goto 15, 3) := by decide +kernel
theorem dX8_order_34 : decode cX8_order 34 = .ok (.lload_n 1, 1) := by decide +kernel
theorem dX8_order_35 : decode cX8_order 35 = .ok (.lload 4, 2) := by decide +kernel
theorem dX8_order_37 : decode cX8_order 37 = .ok (.lcmp, 1) := by decide +kernel
theorem dX8_order_38 : decode cX8_order 38 = .ok (.ifCond .le 7, 3) := by decide +kernel
theorem dX8_order_41 : decode cX8_order 41 = .ok (.iconst 1, 1) := by decide +kernel
theorem dX8_order_42 : decode cX8_order 42 = .ok (.goto 4, 3) := by decide +kernel
theorem dX8_order_45 : decode cX8_order 45 = .ok (.iconst 0, 1) := by decide +kernel
theorem dX8_order_46 : decode cX8_order 46 = .ok (.ireturn, 1) := by decide +kernel
theorem dX8_against_0 : decode cX8_against 0 = .ok (.aload_n 0, 1) := by decide +kernel
theorem dX8_against_1 : decode cX8_against 1 = .ok (.getfield 66, 3) := by decide +kernel
theorem dX8_against_4 : decode cX8_against 4 = .ok (.ifCond .eq 76, 3) := by decide +kernel
theorem dX8_against_7 : decode cX8_against 7 = .ok (.iload_n 1, 1) := by decide +kernel
theorem dX8_against_8 : decode cX8_against 8 = .ok (.ifCond .eq 72, 3) := by decide +kernel
theorem dX8_against_11 : decode cX8_against 11 = .ok (.aload_n 0, 1) := by decide +kernel
theorem dX8_against_12 : decode cX8_against 12 = .ok (.getfield 66, 3) := by decide +kernel
theorem dX8_against_15 : decode cX8_against 15 = .ok (.invokestatic 80, 3) := by decide +kernel
theorem dX8_against_18 : decode cX8_against 18 = .ok (.ifCond .ne 10, 3) := by decide +kernel
theorem dX8_against_21 : decode cX8_against 21 = .ok (.iload_n 1, 1) := by decide +kernel
theorem dX8_against_22 : decode cX8_against 22 = .ok (.invokestatic 80, 3) := by decide +kernel
theorem dX8_against_25 : decode cX8_against 25 = .ok (.ifCond .eq 55, 3) := by decide +kernel
theorem dX8_against_28 : decode cX8_against 28 = .ok (.aload_n 0, 1) := by decide +kernel
theorem dX8_against_29 : decode cX8_against 29 = .ok (.getfield 66, 3) := by decide +kernel
theorem dX8_against_32 : decode cX8_against 32 = .ok (.aload_n 0, 1) := by decide +kernel
theorem dX8_against_33 : decode cX8_against 33 = .ok (.getfield 69, 3) := by decide +kernel
theorem dX8_against_36 : decode cX8_against 36 = .ok (.aload_n 0, 1) := by decide +kernel
theorem dX8_against_37 : decode cX8_against 37 = .ok (.getfield 73, 3) := by decide +kernel
theorem dX8_against_40 : decode cX8_against 40 = .ok (.invokestatic 83, 3) := by decide +kernel
theorem dX8_against_43 : decode cX8_against 43 = .ok (.dstore 6, 2) := by decide +kernel
theorem dX8_against_45 : decode cX8_against 45 = .ok (.iload_n 1, 1) := by decide +kernel
theorem dX8_against_46 : decode cX8_against 46 = .ok (.lload_n 2, 1) := by decide +kernel
theorem dX8_against_47 : decode cX8_against 47 = .ok (.dload 4, 2) := by decide +kernel
theorem dX8_against_49 : decode cX8_against 49 = .ok (.invokestatic 83, 3) := by decide +kernel
theorem dX8_against_52 : decode cX8_against 52 = .ok (.dstore 8, 2) := by decide +kernel
theorem dX8_against_54 : decode cX8_against 54 = .ok (.dload 6, 2) := by decide +kernel
theorem dX8_against_56 : decode cX8_against 56 = .ok (.dload 8, 2) := by decide +kernel
theorem dX8_against_58 : decode cX8_against 58 = .ok (.dcmp .g, 1) := by decide +kernel
theorem dX8_against_59 : decode cX8_against 59 = .ok (.ifCond .ge 7, 3) := by decide +kernel
theorem dX8_against_62 : decode cX8_against 62 = .ok (.iconst (-1), 1) := by decide +kernel
theorem dX8_against_63 : decode cX8_against 63 = .ok (.goto 16, 3) := by decide +kernel
theorem dX8_against_66 : decode cX8_against 66 = .ok (.dload 6, 2) := by decide +kernel
theorem dX8_against_68 : decode cX8_against 68 = .ok (.dload 8, 2) := by decide +kernel
theorem dX8_against_70 : decode cX8_against 70 = .ok (.dcmp .l, 1) := by decide +kernel
theorem dX8_against_71 : decode cX8_against 71 = .ok (.ifCond .le 7, 3) := by decide +kernel
theorem dX8_against_74 : decode cX8_against 74 = .ok (.iconst 1, 1) := by decide +kernel
theorem dX8_against_75 : decode cX8_against 75 = .ok (.goto 4, 3) := by decide +kernel
theorem dX8_against_78 : decode cX8_against 78 = .ok (.iconst 0, 1) := by decide +kernel
theorem dX8_against_79 : decode cX8_against 79 = .ok (.ireturn, 1) := by decide +kernel
theorem dX8_against_80 : decode cX8_against 80 = .ok (.aload_n 0, 1) := by decide +kernel
theorem dX8_against_81 : decode cX8_against 81 = .ok (.getfield 66, 3) := by decide +kernel
theorem dX8_against_84 : decode cX8_against 84 = .ok (.aload_n 0, 1) := by decide +kernel
theorem dX8_against_85 : decode cX8_against 85 = .ok (.getfield 69, 3) := by decide +kernel
theorem dX8_against_88 : decode cX8_against 88 = .ok (.iload_n 1, 1) := by decide +kernel
theorem dX8_against_89 : decode cX8_against 89 = .ok (.lload_n 2, 1) := by decide +kernel
theorem dX8_against_90 : decode cX8_against 90 = .ok (.invokestatic 87, 3) := by decide +kernel
theorem dX8_against_93 : decode cX8_against 93 = .ok (.ireturn, 1) := by decide +kernel
theorem dX8_fits_0 : decode cX8_fits 0 = .ok (.lload_n 2, 1) := by decide +kernel
theorem dX8_fits_1 : decode cX8_fits 1 = .ok (.lconst 0, 1) := by decide +kernel
theorem dX8_fits_2 : decode cX8_fits 2 = .ok (.lcmp, 1) := by decide +kernel
theorem dX8_fits_3 : decode cX8_fits 3 = .ok (.ifCond .ne 5, 3) := by decide +kernel
theorem dX8_fits_6 : decode cX8_fits 6 = .ok (.iconst 1, 1) := by decide +kernel
theorem dX8_fits_7 : decode cX8_fits 7 = .ok (.ireturn, 1) := by decide +kernel
theorem dX8_fits_8 : decode cX8_fits 8 = .ok (.aload_n 0, 1) := by decide +kernel
theorem dX8_fits_9 : decode cX8_fits 9 = .ok (.getfield 13, 3) := by decide +kernel
theorem dX8_fits_12 : decode cX8_fits 12 = .ok (.lload_n 2, 1) := by decide +kernel
theorem dX8_fits_13 : decode cX8_fits 13 = .ok (.l2i, 1) := by decide +kernel
theorem dX8_fits_14 : decode cX8_fits 14 = .ok (.iconst 1, 1) := by decide +kernel
theorem dX8_fits_15 : decode cX8_fits 15 = .ok (.isub, 1) := by decide +kernel
theorem dX8_fits_16 : decode cX8_fits 16 = .ok (.iaload, 1) := by decide +kernel
theorem dX8_fits_17 : decode cX8_fits 17 = .ok (.istore 4, 2) := by decide +kernel
theorem dX8_fits_19 : decode cX8_fits 19 = .ok (.aload_n 0, 1) := by decide +kernel
theorem dX8_fits_20 : decode cX8_fits 20 = .ok (.getfield 13, 3) := by decide +kernel
theorem dX8_fits_23 : decode cX8_fits 23 = .ok (.iload_n 1, 1) := by decide +kernel
theorem dX8_fits_24 : decode cX8_fits 24 = .ok (.iaload, 1) := by decide +kernel
theorem dX8_fits_25 : decode cX8_fits 25 = .ok (.tableswitch 65 8 10 #[27, 40, 53], 27) := by decide +kernel
theorem dX8_fits_52 : decode cX8_fits 52 = .ok (.iload 4, 2) := by decide +kernel
theorem dX8_fits_54 : decode cX8_fits 54 = .ok (.bipush 12, 2) := by decide +kernel
theorem dX8_fits_56 : decode cX8_fits 56 = .ok (.if_icmp .lt 7, 3) := by decide +kernel
theorem dX8_fits_59 : decode cX8_fits 59 = .ok (.iconst 1, 1) := by decide +kernel
theorem dX8_fits_60 : decode cX8_fits 60 = .ok (.goto 4, 3) := by decide +kernel
theorem dX8_fits_63 : decode cX8_fits 63 = .ok (.iconst 0, 1) := by decide +kernel
theorem dX8_fits_64 : decode cX8_fits 64 = .ok (.ireturn, 1) := by decide +kernel
theorem dX8_fits_65 : decode cX8_fits 65 = .ok (.iload 4, 2) := by decide +kernel
theorem dX8_fits_67 : decode cX8_fits 67 = .ok (.bipush 14, 2) := by decide +kernel
theorem dX8_fits_69 : decode cX8_fits 69 = .ok (.if_icmp .ne 7, 3) := by decide +kernel
theorem dX8_fits_72 : decode cX8_fits 72 = .ok (.iconst 1, 1) := by decide +kernel
theorem dX8_fits_73 : decode cX8_fits 73 = .ok (.goto 4, 3) := by decide +kernel
theorem dX8_fits_76 : decode cX8_fits 76 = .ok (.iconst 0, 1) := by decide +kernel
theorem dX8_fits_77 : decode cX8_fits 77 = .ok (.ireturn, 1) := by decide +kernel
theorem dX8_fits_78 : decode cX8_fits 78 = .ok (.iload 4, 2) := by decide +kernel
theorem dX8_fits_80 : decode cX8_fits 80 = .ok (.iconst 4, 1) := by decide +kernel
theorem dX8_fits_81 : decode cX8_fits 81 = .ok (.if_icmp .ne 7, 3) := by decide +kernel
theorem dX8_fits_84 : decode cX8_fits 84 = .ok (.iconst 1, 1) := by decide +kernel
theorem dX8_fits_85 : decode cX8_fits 85 = .ok (.goto 4, 3) := by decide +kernel
theorem dX8_fits_88 : decode cX8_fits 88 = .ok (.iconst 0, 1) := by decide +kernel
theorem dX8_fits_89 : decode cX8_fits 89 = .ok (.ireturn, 1) := by decide +kernel
theorem dX8_fits_90 : decode cX8_fits 90 = .ok (.iload 4, 2) := by decide +kernel
theorem dX8_fits_92 : decode cX8_fits 92 = .ok (.bipush 8, 2) := by decide +kernel
theorem dX8_fits_94 : decode cX8_fits 94 = .ok (.if_icmp .eq 10, 3) := by decide +kernel
theorem dX8_fits_97 : decode cX8_fits 97 = .ok (.iload 4, 2) := by decide +kernel
theorem dX8_fits_99 : decode cX8_fits 99 = .ok (.bipush 9, 2) := by decide +kernel
theorem dX8_fits_101 : decode cX8_fits 101 = .ok (.if_icmp .ne 7, 3) := by decide +kernel
theorem dX8_fits_104 : decode cX8_fits 104 = .ok (.iconst 1, 1) := by decide +kernel
theorem dX8_fits_105 : decode cX8_fits 105 = .ok (.goto 4, 3) := by decide +kernel
theorem dX8_fits_108 : decode cX8_fits 108 = .ok (.iconst 0, 1) := by decide +kernel
theorem dX8_fits_109 : decode cX8_fits 109 = .ok (.ireturn, 1) := by decide +kernel
theorem dX8_goesIn_0 : decode cX8_goesIn 0 = .ok (.aload_n 0, 1) := by decide +kernel
theorem dX8_goesIn_1 : decode cX8_goesIn 1 = .ok (.getfield 66, 3) := by decide +kernel
theorem dX8_goesIn_4 : decode cX8_goesIn 4 = .ok (.bipush 8, 2) := by decide +kernel
theorem dX8_goesIn_6 : decode cX8_goesIn 6 = .ok (.if_icmp .ge 7, 3) := by decide +kernel
theorem dX8_goesIn_9 : decode cX8_goesIn 9 = .ok (.iconst 1, 1) := by decide +kernel
theorem dX8_goesIn_10 : decode cX8_goesIn 10 = .ok (.goto 4, 3) := by decide +kernel
theorem dX8_goesIn_13 : decode cX8_goesIn 13 = .ok (.iconst 0, 1) := by decide +kernel
theorem dX8_goesIn_14 : decode cX8_goesIn 14 = .ok (.istore_n 2, 1) := by decide +kernel
theorem dX8_goesIn_15 : decode cX8_goesIn 15 = .ok (.iload_n 2, 1) := by decide +kernel
theorem dX8_goesIn_16 : decode cX8_goesIn 16 = .ok (.aload_n 0, 1) := by decide +kernel
theorem dX8_goesIn_17 : decode cX8_goesIn 17 = .ok (.iload_n 1, 1) := by decide +kernel
theorem dX8_goesIn_18 : decode cX8_goesIn 18 = .ok (.invokevirtual 91, 3) := by decide +kernel
theorem dX8_goesIn_21 : decode cX8_goesIn 21 = .ok (.if_icmp .eq 5, 3) := by decide +kernel
theorem dX8_goesIn_24 : decode cX8_goesIn 24 = .ok (.iconst 0, 1) := by decide +kernel
theorem dX8_goesIn_25 : decode cX8_goesIn 25 = .ok (.ireturn, 1) := by decide +kernel
theorem dX8_goesIn_26 : decode cX8_goesIn 26 = .ok (.iload_n 2, 1) := by decide +kernel
theorem dX8_goesIn_27 : decode cX8_goesIn 27 = .ok (.ifCond .eq 20, 3) := by decide +kernel
theorem dX8_goesIn_30 : decode cX8_goesIn 30 = .ok (.aload_n 0, 1) := by decide +kernel
theorem dX8_goesIn_31 : decode cX8_goesIn 31 = .ok (.aload_n 0, 1) := by decide +kernel
theorem dX8_goesIn_32 : decode cX8_goesIn 32 = .ok (.getfield 66, 3) := by decide +kernel
theorem dX8_goesIn_35 : decode cX8_goesIn 35 = .ok (.aload_n 0, 1) := by decide +kernel
theorem dX8_goesIn_36 : decode cX8_goesIn 36 = .ok (.getfield 13, 3) := by decide +kernel
theorem dX8_goesIn_39 : decode cX8_goesIn 39 = .ok (.iload_n 1, 1) := by decide +kernel
theorem dX8_goesIn_40 : decode cX8_goesIn 40 = .ok (.iaload, 1) := by decide +kernel
theorem dX8_goesIn_41 : decode cX8_goesIn 41 = .ok (.invokevirtual 94, 3) := by decide +kernel
theorem dX8_goesIn_44 : decode cX8_goesIn 44 = .ok (.goto 12, 3) := by decide +kernel
theorem dX8_goesIn_47 : decode cX8_goesIn 47 = .ok (.aload_n 0, 1) := by decide +kernel
theorem dX8_goesIn_48 : decode cX8_goesIn 48 = .ok (.iload_n 1, 1) := by decide +kernel
theorem dX8_goesIn_49 : decode cX8_goesIn 49 = .ok (.aload_n 0, 1) := by decide +kernel
theorem dX8_goesIn_50 : decode cX8_goesIn 50 = .ok (.getfield 69, 3) := by decide +kernel
theorem dX8_goesIn_53 : decode cX8_goesIn 53 = .ok (.invokevirtual 98, 3) := by decide +kernel
theorem dX8_goesIn_56 : decode cX8_goesIn 56 = .ok (.ireturn, 1) := by decide +kernel
theorem dX8_make_0 : decode cX8_make 0 = .ok (.aload_n 0, 1) := by decide +kernel
theorem dX8_make_1 : decode cX8_make 1 = .ok (.iconst 0, 1) := by decide +kernel
theorem dX8_make_2 : decode cX8_make 2 = .ok (.putfield 48, 3) := by decide +kernel
theorem dX8_make_5 : decode cX8_make 5 = .ok (.iload_n 1, 1) := by decide +kernel
theorem dX8_make_6 : decode cX8_make 6 = .ok (.invokestatic 102, 3) := by decide +kernel
theorem dX8_make_9 : decode cX8_make 9 = .ok (.ifCond .eq 29, 3) := by decide +kernel
theorem dX8_make_12 : decode cX8_make 12 = .ok (.iload_n 2, 1) := by decide +kernel
theorem dX8_make_13 : decode cX8_make 13 = .ok (.iconst 0, 1) := by decide +kernel
theorem dX8_make_14 : decode cX8_make 14 = .ok (.bipush 14, 2) := by decide +kernel
theorem dX8_make_16 : decode cX8_make 16 = .ok (.invokestatic 52, 3) := by decide +kernel
theorem dX8_make_19 : decode cX8_make 19 = .ok (.ifCond .eq 19, 3) := by decide +kernel
theorem dX8_make_22 : decode cX8_make 22 = .ok (.iload_n 2, 1) := by decide +kernel
theorem dX8_make_23 : decode cX8_make 23 = .ok (.bipush 12, 2) := by decide +kernel
theorem dX8_make_25 : decode cX8_make 25 = .ok (.if_icmp .ge 19, 3) := by decide +kernel
theorem dX8_make_28 : decode cX8_make 28 = .ok (.iload_n 3, 1) := by decide +kernel
theorem dX8_make_29 : decode cX8_make 29 = .ok (.iconst 0, 1) := by decide +kernel
theorem dX8_make_30 : decode cX8_make 30 = .ok (.bipush 24, 2) := by decide +kernel
theorem dX8_make_32 : decode cX8_make 32 = .ok (.invokestatic 52, 3) := by decide +kernel
theorem dX8_make_35 : decode cX8_make 35 = .ok (.ifCond .ne 9, 3) := by decide +kernel
theorem dX8_make_38 : decode cX8_make 38 = .ok (.aload_n 0, 1) := by decide +kernel
theorem dX8_make_39 : decode cX8_make 39 = .ok (.iconst 1, 1) := by decide +kernel
theorem dX8_make_40 : decode cX8_make 40 = .ok (.invokevirtual 105, 3) := by decide +kernel
theorem dX8_make_43 : decode cX8_make 43 = .ok (.ireturn, 1) := by decide +kernel
theorem dX8_make_44 : decode cX8_make 44 = .ok (.aload_n 0, 1) := by decide +kernel
theorem dX8_make_45 : decode cX8_make 45 = .ok (.getfield 13, 3) := by decide +kernel
theorem dX8_make_48 : decode cX8_make 48 = .ok (.aload_n 0, 1) := by decide +kernel
theorem dX8_make_49 : decode cX8_make 49 = .ok (.getfield 108, 3) := by decide +kernel
theorem dX8_make_52 : decode cX8_make 52 = .ok (.iload_n 2, 1) := by decide +kernel
theorem dX8_make_53 : decode cX8_make 53 = .ok (.iastore, 1) := by decide +kernel
theorem dX8_make_54 : decode cX8_make 54 = .ok (.aload_n 0, 1) := by decide +kernel
theorem dX8_make_55 : decode cX8_make 55 = .ok (.getfield 16, 3) := by decide +kernel
theorem dX8_make_58 : decode cX8_make 58 = .ok (.aload_n 0, 1) := by decide +kernel
theorem dX8_make_59 : decode cX8_make 59 = .ok (.getfield 108, 3) := by decide +kernel
theorem dX8_make_62 : decode cX8_make 62 = .ok (.iload_n 2, 1) := by decide +kernel
theorem dX8_make_63 : decode cX8_make 63 = .ok (.bipush 12, 2) := by decide +kernel
theorem dX8_make_65 : decode cX8_make 65 = .ok (.if_icmp .ge 7, 3) := by decide +kernel
theorem dX8_make_68 : decode cX8_make 68 = .ok (.iload_n 3, 1) := by decide +kernel
theorem dX8_make_69 : decode cX8_make 69 = .ok (.goto 4, 3) := by decide +kernel
theorem dX8_make_72 : decode cX8_make 72 = .ok (.iconst 0, 1) := by decide +kernel
theorem dX8_make_73 : decode cX8_make 73 = .ok (.iastore, 1) := by decide +kernel
theorem dX8_make_74 : decode cX8_make 74 = .ok (.aload_n 0, 1) := by decide +kernel
theorem dX8_make_75 : decode cX8_make 75 = .ok (.getfield 19, 3) := by decide +kernel
theorem dX8_make_78 : decode cX8_make 78 = .ok (.aload_n 0, 1) := by decide +kernel
theorem dX8_make_79 : decode cX8_make 79 = .ok (.getfield 108, 3) := by decide +kernel
theorem dX8_make_82 : decode cX8_make 82 = .ok (.iload_n 3, 1) := by decide +kernel
theorem dX8_make_83 : decode cX8_make 83 = .ok (.iastore, 1) := by decide +kernel
theorem dX8_make_84 : decode cX8_make 84 = .ok (.aload_n 0, 1) := by decide +kernel
theorem dX8_make_85 : decode cX8_make 85 = .ok (.dup, 1) := by decide +kernel
theorem dX8_make_86 : decode cX8_make 86 = .ok (.getfield 108, 3) := by decide +kernel
theorem dX8_make_89 : decode cX8_make 89 = .ok (.iconst 1, 1) := by decide +kernel
theorem dX8_make_90 : decode cX8_make 90 = .ok (.iadd, 1) := by decide +kernel
theorem dX8_make_91 : decode cX8_make 91 = .ok (.putfield 108, 3) := by decide +kernel
theorem dX8_make_94 : decode cX8_make 94 = .ok (.aload_n 0, 1) := by decide +kernel
theorem dX8_make_95 : decode cX8_make 95 = .ok (.getfield 30, 3) := by decide +kernel
theorem dX8_make_98 : decode cX8_make 98 = .ok (.iload_n 1, 1) := by decide +kernel
theorem dX8_make_99 : decode cX8_make 99 = .ok (.aload_n 0, 1) := by decide +kernel
theorem dX8_make_100 : decode cX8_make 100 = .ok (.getfield 108, 3) := by decide +kernel
theorem dX8_make_103 : decode cX8_make 103 = .ok (.iastore, 1) := by decide +kernel
theorem dX8_make_104 : decode cX8_make 104 = .ok (.iconst 1, 1) := by decide +kernel
theorem dX8_make_105 : decode cX8_make 105 = .ok (.ireturn, 1) := by decide +kernel
theorem dX8_lay_0 : decode cX8_lay 0 = .ok (.aload_n 0, 1) := by decide +kernel
theorem dX8_lay_1 : decode cX8_lay 1 = .ok (.iconst 0, 1) := by decide +kernel
theorem dX8_lay_2 : decode cX8_lay 2 = .ok (.putfield 48, 3) := by decide +kernel
theorem dX8_lay_5 : decode cX8_lay 5 = .ok (.iload_n 1, 1) := by decide +kernel
theorem dX8_lay_6 : decode cX8_lay 6 = .ok (.invokestatic 102, 3) := by decide +kernel
theorem dX8_lay_9 : decode cX8_lay 9 = .ok (.ifCond .eq 10, 3) := by decide +kernel
theorem dX8_lay_12 : decode cX8_lay 12 = .ok (.iload_n 2, 1) := by decide +kernel
theorem dX8_lay_13 : decode cX8_lay 13 = .ok (.invokestatic 102, 3) := by decide +kernel
theorem dX8_lay_16 : decode cX8_lay 16 = .ok (.ifCond .ne 9, 3) := by decide +kernel
theorem dX8_lay_19 : decode cX8_lay 19 = .ok (.aload_n 0, 1) := by decide +kernel
theorem dX8_lay_20 : decode cX8_lay 20 = .ok (.iconst 1, 1) := by decide +kernel
theorem dX8_lay_21 : decode cX8_lay 21 = .ok (.invokevirtual 105, 3) := by decide +kernel
theorem dX8_lay_24 : decode cX8_lay 24 = .ok (.ireturn, 1) := by decide +kernel
theorem dX8_lay_25 : decode cX8_lay 25 = .ok (.aload_n 0, 1) := by decide +kernel
theorem dX8_lay_26 : decode cX8_lay 26 = .ok (.getfield 30, 3) := by decide +kernel
theorem dX8_lay_29 : decode cX8_lay 29 = .ok (.iload_n 2, 1) := by decide +kernel
theorem dX8_lay_30 : decode cX8_lay 30 = .ok (.aload_n 0, 1) := by decide +kernel
theorem dX8_lay_31 : decode cX8_lay 31 = .ok (.getfield 30, 3) := by decide +kernel
theorem dX8_lay_34 : decode cX8_lay 34 = .ok (.iload_n 1, 1) := by decide +kernel
theorem dX8_lay_35 : decode cX8_lay 35 = .ok (.iaload, 1) := by decide +kernel
theorem dX8_lay_36 : decode cX8_lay 36 = .ok (.iastore, 1) := by decide +kernel
theorem dX8_lay_37 : decode cX8_lay 37 = .ok (.aload_n 0, 1) := by decide +kernel
theorem dX8_lay_38 : decode cX8_lay 38 = .ok (.getfield 30, 3) := by decide +kernel
theorem dX8_lay_41 : decode cX8_lay 41 = .ok (.iload_n 2, 1) := by decide +kernel
theorem dX8_lay_42 : decode cX8_lay 42 = .ok (.iaload, 1) := by decide +kernel
theorem dX8_lay_43 : decode cX8_lay 43 = .ok (.ifCond .le 7, 3) := by decide +kernel
theorem dX8_lay_46 : decode cX8_lay 46 = .ok (.iconst 1, 1) := by decide +kernel
theorem dX8_lay_47 : decode cX8_lay 47 = .ok (.goto 4, 3) := by decide +kernel
theorem dX8_lay_50 : decode cX8_lay 50 = .ok (.iconst 0, 1) := by decide +kernel
theorem dX8_lay_51 : decode cX8_lay 51 = .ok (.ireturn, 1) := by decide +kernel
theorem dX8_places_0 : decode cX8_places 0 = .ok (.aload_n 0, 1) := by decide +kernel
theorem dX8_places_1 : decode cX8_places 1 = .ok (.iconst 0, 1) := by decide +kernel
theorem dX8_places_2 : decode cX8_places 2 = .ok (.putfield 48, 3) := by decide +kernel
theorem dX8_places_5 : decode cX8_places 5 = .ok (.iload_n 1, 1) := by decide +kernel
theorem dX8_places_6 : decode cX8_places 6 = .ok (.invokestatic 102, 3) := by decide +kernel
theorem dX8_places_9 : decode cX8_places 9 = .ok (.ifCond .ne 9, 3) := by decide +kernel
theorem dX8_places_12 : decode cX8_places 12 = .ok (.aload_n 0, 1) := by decide +kernel
theorem dX8_places_13 : decode cX8_places 13 = .ok (.iconst 1, 1) := by decide +kernel
theorem dX8_places_14 : decode cX8_places 14 = .ok (.invokevirtual 105, 3) := by decide +kernel
theorem dX8_places_17 : decode cX8_places 17 = .ok (.ireturn, 1) := by decide +kernel
theorem dX8_places_18 : decode cX8_places 18 = .ok (.aload_n 0, 1) := by decide +kernel
theorem dX8_places_19 : decode cX8_places 19 = .ok (.iload_n 1, 1) := by decide +kernel
theorem dX8_places_20 : decode cX8_places 20 = .ok (.invokevirtual 111, 3) := by decide +kernel
theorem dX8_places_23 : decode cX8_places 23 = .ok (.istore_n 2, 1) := by decide +kernel
theorem dX8_places_24 : decode cX8_places 24 = .ok (.iload_n 2, 1) := by decide +kernel
theorem dX8_places_25 : decode cX8_places 25 = .ok (.ifCond .le 11, 3) := by decide +kernel
theorem dX8_places_28 : decode cX8_places 28 = .ok (.aload_n 0, 1) := by decide +kernel
theorem dX8_places_29 : decode cX8_places 29 = .ok (.iload_n 2, 1) := by decide +kernel
theorem dX8_places_30 : decode cX8_places 30 = .ok (.invokevirtual 105, 3) := by decide +kernel
theorem dX8_places_33 : decode cX8_places 33 = .ok (.goto 13, 3) := by decide +kernel
theorem dX8_places_36 : decode cX8_places 36 = .ok (.aload_n 0, 1) := by decide +kernel
theorem dX8_places_37 : decode cX8_places 37 = .ok (.getfield 16, 3) := by decide +kernel
theorem dX8_places_40 : decode cX8_places 40 = .ok (.aload_n 0, 1) := by decide +kernel
theorem dX8_places_41 : decode cX8_places 41 = .ok (.iload_n 1, 1) := by decide +kernel
theorem dX8_places_42 : decode cX8_places 42 = .ok (.invokevirtual 56, 3) := by decide +kernel
theorem dX8_places_45 : decode cX8_places 45 = .ok (.iaload, 1) := by decide +kernel
theorem dX8_places_46 : decode cX8_places 46 = .ok (.ireturn, 1) := by decide +kernel
theorem dX8_kind_0 : decode cX8_kind 0 = .ok (.aload_n 0, 1) := by decide +kernel
theorem dX8_kind_1 : decode cX8_kind 1 = .ok (.iconst 0, 1) := by decide +kernel
theorem dX8_kind_2 : decode cX8_kind 2 = .ok (.putfield 48, 3) := by decide +kernel
theorem dX8_kind_5 : decode cX8_kind 5 = .ok (.iload_n 1, 1) := by decide +kernel
theorem dX8_kind_6 : decode cX8_kind 6 = .ok (.invokestatic 102, 3) := by decide +kernel
theorem dX8_kind_9 : decode cX8_kind 9 = .ok (.ifCond .ne 9, 3) := by decide +kernel
theorem dX8_kind_12 : decode cX8_kind 12 = .ok (.aload_n 0, 1) := by decide +kernel
theorem dX8_kind_13 : decode cX8_kind 13 = .ok (.iconst 1, 1) := by decide +kernel
theorem dX8_kind_14 : decode cX8_kind 14 = .ok (.invokevirtual 105, 3) := by decide +kernel
theorem dX8_kind_17 : decode cX8_kind 17 = .ok (.ireturn, 1) := by decide +kernel
theorem dX8_kind_18 : decode cX8_kind 18 = .ok (.aload_n 0, 1) := by decide +kernel
theorem dX8_kind_19 : decode cX8_kind 19 = .ok (.iload_n 1, 1) := by decide +kernel
theorem dX8_kind_20 : decode cX8_kind 20 = .ok (.invokevirtual 56, 3) := by decide +kernel
theorem dX8_kind_23 : decode cX8_kind 23 = .ok (.ifCond .ge 7, 3) := by decide +kernel
theorem dX8_kind_26 : decode cX8_kind 26 = .ok (.iconst (-1), 1) := by decide +kernel
theorem dX8_kind_27 : decode cX8_kind 27 = .ok (.goto 13, 3) := by decide +kernel
theorem dX8_kind_30 : decode cX8_kind 30 = .ok (.aload_n 0, 1) := by decide +kernel
theorem dX8_kind_31 : decode cX8_kind 31 = .ok (.getfield 13, 3) := by decide +kernel
theorem dX8_kind_34 : decode cX8_kind 34 = .ok (.aload_n 0, 1) := by decide +kernel
theorem dX8_kind_35 : decode cX8_kind 35 = .ok (.iload_n 1, 1) := by decide +kernel
theorem dX8_kind_36 : decode cX8_kind 36 = .ok (.invokevirtual 56, 3) := by decide +kernel
theorem dX8_kind_39 : decode cX8_kind 39 = .ok (.iaload, 1) := by decide +kernel
theorem dX8_kind_40 : decode cX8_kind 40 = .ok (.ireturn, 1) := by decide +kernel
theorem dX8_isCard_0 : decode cX8_isCard 0 = .ok (.aload_n 0, 1) := by decide +kernel
theorem dX8_isCard_1 : decode cX8_isCard 1 = .ok (.iload_n 1, 1) := by decide +kernel
theorem dX8_isCard_2 : decode cX8_isCard 2 = .ok (.invokevirtual 56, 3) := by decide +kernel
theorem dX8_isCard_5 : decode cX8_isCard 5 = .ok (.ifCond .lt 19, 3) := by decide +kernel
theorem dX8_isCard_8 : decode cX8_isCard 8 = .ok (.aload_n 0, 1) := by decide +kernel
theorem dX8_isCard_9 : decode cX8_isCard 9 = .ok (.aload_n 0, 1) := by decide +kernel
theorem dX8_isCard_10 : decode cX8_isCard 10 = .ok (.iload_n 1, 1) := by decide +kernel
theorem dX8_isCard_11 : decode cX8_isCard 11 = .ok (.invokevirtual 56, 3) := by decide +kernel
theorem dX8_isCard_14 : decode cX8_isCard 14 = .ok (.invokevirtual 60, 3) := by decide +kernel
theorem dX8_isCard_17 : decode cX8_isCard 17 = .ok (.ifCond .ne 7, 3) := by decide +kernel
theorem dX8_isCard_20 : decode cX8_isCard 20 = .ok (.iconst 1, 1) := by decide +kernel
theorem dX8_isCard_21 : decode cX8_isCard 21 = .ok (.goto 4, 3) := by decide +kernel
theorem dX8_isCard_24 : decode cX8_isCard 24 = .ok (.iconst 0, 1) := by decide +kernel
theorem dX8_isCard_25 : decode cX8_isCard 25 = .ok (.ireturn, 1) := by decide +kernel
theorem dX8_tag_0 : decode cX8_tag 0 = .ok (.aload_n 0, 1) := by decide +kernel
theorem dX8_tag_1 : decode cX8_tag 1 = .ok (.iconst 0, 1) := by decide +kernel
theorem dX8_tag_2 : decode cX8_tag 2 = .ok (.putfield 48, 3) := by decide +kernel
theorem dX8_tag_5 : decode cX8_tag 5 = .ok (.iload_n 1, 1) := by decide +kernel
theorem dX8_tag_6 : decode cX8_tag 6 = .ok (.invokestatic 102, 3) := by decide +kernel
theorem dX8_tag_9 : decode cX8_tag 9 = .ok (.ifCond .ne 9, 3) := by decide +kernel
theorem dX8_tag_12 : decode cX8_tag 12 = .ok (.aload_n 0, 1) := by decide +kernel
theorem dX8_tag_13 : decode cX8_tag 13 = .ok (.iconst 1, 1) := by decide +kernel
theorem dX8_tag_14 : decode cX8_tag 14 = .ok (.invokevirtual 105, 3) := by decide +kernel
theorem dX8_tag_17 : decode cX8_tag 17 = .ok (.ireturn, 1) := by decide +kernel
theorem dX8_tag_18 : decode cX8_tag 18 = .ok (.aload_n 0, 1) := by decide +kernel
theorem dX8_tag_19 : decode cX8_tag 19 = .ok (.iload_n 1, 1) := by decide +kernel
theorem dX8_tag_20 : decode cX8_tag 20 = .ok (.invokevirtual 114, 3) := by decide +kernel
theorem dX8_tag_23 : decode cX8_tag 23 = .ok (.ifCond .eq 16, 3) := by decide +kernel
theorem dX8_tag_26 : decode cX8_tag 26 = .ok (.aload_n 0, 1) := by decide +kernel
theorem dX8_tag_27 : decode cX8_tag 27 = .ok (.getfield 19, 3) := by decide +kernel
theorem dX8_tag_30 : decode cX8_tag 30 = .ok (.aload_n 0, 1) := by decide +kernel
theorem dX8_tag_31 : decode cX8_tag 31 = .ok (.iload_n 1, 1) := by decide +kernel
theorem dX8_tag_32 : decode cX8_tag 32 = .ok (.invokevirtual 56, 3) := by decide +kernel
theorem dX8_tag_35 : decode cX8_tag 35 = .ok (.iaload, 1) := by decide +kernel
theorem dX8_tag_36 : decode cX8_tag 36 = .ok (.goto 8, 3) := by decide +kernel
theorem dX8_tag_39 : decode cX8_tag 39 = .ok (.aload_n 0, 1) := by decide +kernel
theorem dX8_tag_40 : decode cX8_tag 40 = .ok (.iconst 5, 1) := by decide +kernel
theorem dX8_tag_41 : decode cX8_tag 41 = .ok (.invokevirtual 105, 3) := by decide +kernel
theorem dX8_tag_44 : decode cX8_tag 44 = .ok (.ireturn, 1) := by decide +kernel
theorem dX8_load_0 : decode cX8_load 0 = .ok (.aload_n 0, 1) := by decide +kernel
theorem dX8_load_1 : decode cX8_load 1 = .ok (.iconst 0, 1) := by decide +kernel
theorem dX8_load_2 : decode cX8_load 2 = .ok (.putfield 48, 3) := by decide +kernel
theorem dX8_load_5 : decode cX8_load 5 = .ok (.iload_n 1, 1) := by decide +kernel
theorem dX8_load_6 : decode cX8_load 6 = .ok (.invokestatic 102, 3) := by decide +kernel
theorem dX8_load_9 : decode cX8_load 9 = .ok (.ifCond .ne 9, 3) := by decide +kernel
theorem dX8_load_12 : decode cX8_load 12 = .ok (.aload_n 0, 1) := by decide +kernel
theorem dX8_load_13 : decode cX8_load 13 = .ok (.iconst 1, 1) := by decide +kernel
theorem dX8_load_14 : decode cX8_load 14 = .ok (.invokevirtual 105, 3) := by decide +kernel
theorem dX8_load_17 : decode cX8_load 17 = .ok (.ireturn, 1) := by decide +kernel
theorem dX8_load_18 : decode cX8_load 18 = .ok (.aload_n 0, 1) := by decide +kernel
theorem dX8_load_19 : decode cX8_load 19 = .ok (.iload_n 1, 1) := by decide +kernel
theorem dX8_load_20 : decode cX8_load 20 = .ok (.invokevirtual 114, 3) := by decide +kernel
theorem dX8_load_23 : decode cX8_load 23 = .ok (.ifCond .ne 9, 3) := by decide +kernel
theorem dX8_load_26 : decode cX8_load 26 = .ok (.aload_n 0, 1) := by decide +kernel
theorem dX8_load_27 : decode cX8_load 27 = .ok (.iconst 5, 1) := by decide +kernel
theorem dX8_load_28 : decode cX8_load 28 = .ok (.invokevirtual 105, 3) := by decide +kernel
theorem dX8_load_31 : decode cX8_load 31 = .ok (.ireturn, 1) := by decide +kernel
theorem dX8_load_32 : decode cX8_load 32 = .ok (.aload_n 0, 1) := by decide +kernel
theorem dX8_load_33 : decode cX8_load 33 = .ok (.getfield 13, 3) := by decide +kernel
theorem dX8_load_36 : decode cX8_load 36 = .ok (.aload_n 0, 1) := by decide +kernel
theorem dX8_load_37 : decode cX8_load 37 = .ok (.iload_n 1, 1) := by decide +kernel
theorem dX8_load_38 : decode cX8_load 38 = .ok (.invokevirtual 56, 3) := by decide +kernel
theorem dX8_load_41 : decode cX8_load 41 = .ok (.iaload, 1) := by decide +kernel
theorem dX8_load_42 : decode cX8_load 42 = .ok (.bipush 14, 2) := by decide +kernel
theorem dX8_load_44 : decode cX8_load 44 = .ok (.if_icmp .ne 20, 3) := by decide +kernel
theorem dX8_load_47 : decode cX8_load 47 = .ok (.iconst 2, 1) := by decide +kernel
theorem dX8_load_48 : decode cX8_load 48 = .ok (.aload_n 0, 1) := by decide +kernel
theorem dX8_load_49 : decode cX8_load 49 = .ok (.getfield 19, 3) := by decide +kernel
theorem dX8_load_52 : decode cX8_load 52 = .ok (.aload_n 0, 1) := by decide +kernel
theorem dX8_load_53 : decode cX8_load 53 = .ok (.iload_n 1, 1) := by decide +kernel
theorem dX8_load_54 : decode cX8_load 54 = .ok (.invokevirtual 56, 3) := by decide +kernel
theorem dX8_load_57 : decode cX8_load 57 = .ok (.iaload, 1) := by decide +kernel
theorem dX8_load_58 : decode cX8_load 58 = .ok (.imul, 1) := by decide +kernel
theorem dX8_load_59 : decode cX8_load 59 = .ok (.iconst 1, 1) := by decide +kernel
theorem dX8_load_60 : decode cX8_load 60 = .ok (.iadd, 1) := by decide +kernel
theorem dX8_load_61 : decode cX8_load 61 = .ok (.goto 13, 3) := by decide +kernel
theorem dX8_load_64 : decode cX8_load 64 = .ok (.aload_n 0, 1) := by decide +kernel
theorem dX8_load_65 : decode cX8_load 65 = .ok (.getfield 19, 3) := by decide +kernel
theorem dX8_load_68 : decode cX8_load 68 = .ok (.aload_n 0, 1) := by decide +kernel
theorem dX8_load_69 : decode cX8_load 69 = .ok (.iload_n 1, 1) := by decide +kernel
theorem dX8_load_70 : decode cX8_load 70 = .ok (.invokevirtual 56, 3) := by decide +kernel
theorem dX8_load_73 : decode cX8_load 73 = .ok (.iaload, 1) := by decide +kernel
theorem dX8_load_74 : decode cX8_load 74 = .ok (.ireturn, 1) := by decide +kernel
theorem dX8_reasonOfPlace_0 : decode cX8_reasonOfPlace 0 = .ok (.aload_n 0, 1) := by decide +kernel
theorem dX8_reasonOfPlace_1 : decode cX8_reasonOfPlace 1 = .ok (.iload_n 1, 1) := by decide +kernel
theorem dX8_reasonOfPlace_2 : decode cX8_reasonOfPlace 2 = .ok (.invokevirtual 111, 3) := by decide +kernel
theorem dX8_reasonOfPlace_5 : decode cX8_reasonOfPlace 5 = .ok (.istore_n 3, 1) := by decide +kernel
theorem dX8_reasonOfPlace_6 : decode cX8_reasonOfPlace 6 = .ok (.iload_n 3, 1) := by decide +kernel
theorem dX8_reasonOfPlace_7 : decode cX8_reasonOfPlace 7 = .ok (.ifCond .le 5, 3) := by decide +kernel
theorem dX8_reasonOfPlace_10 : decode cX8_reasonOfPlace 10 = .ok (.iload_n 3, 1) := by decide +kernel
theorem dX8_reasonOfPlace_11 : decode cX8_reasonOfPlace 11 = .ok (.ireturn, 1) := by decide +kernel
theorem dX8_reasonOfPlace_12 : decode cX8_reasonOfPlace 12 = .ok (.aload_n 0, 1) := by decide +kernel
theorem dX8_reasonOfPlace_13 : decode cX8_reasonOfPlace 13 = .ok (.aload_n 0, 1) := by decide +kernel
theorem dX8_reasonOfPlace_14 : decode cX8_reasonOfPlace 14 = .ok (.iload_n 1, 1) := by decide +kernel
theorem dX8_reasonOfPlace_15 : decode cX8_reasonOfPlace 15 = .ok (.invokevirtual 56, 3) := by decide +kernel
theorem dX8_reasonOfPlace_18 : decode cX8_reasonOfPlace 18 = .ok (.iload_n 2, 1) := by decide +kernel
theorem dX8_reasonOfPlace_19 : decode cX8_reasonOfPlace 19 = .ok (.invokevirtual 117, 3) := by decide +kernel
theorem dX8_reasonOfPlace_22 : decode cX8_reasonOfPlace 22 = .ok (.ifCond .eq 7, 3) := by decide +kernel
theorem dX8_reasonOfPlace_25 : decode cX8_reasonOfPlace 25 = .ok (.iconst 0, 1) := by decide +kernel
theorem dX8_reasonOfPlace_26 : decode cX8_reasonOfPlace 26 = .ok (.goto 4, 3) := by decide +kernel
theorem dX8_reasonOfPlace_29 : decode cX8_reasonOfPlace 29 = .ok (.iconst 4, 1) := by decide +kernel
theorem dX8_reasonOfPlace_30 : decode cX8_reasonOfPlace 30 = .ok (.ireturn, 1) := by decide +kernel
theorem dX8_put_0 : decode cX8_put 0 = .ok (.aload_n 0, 1) := by decide +kernel
theorem dX8_put_1 : decode cX8_put 1 = .ok (.iconst 0, 1) := by decide +kernel
theorem dX8_put_2 : decode cX8_put 2 = .ok (.putfield 48, 3) := by decide +kernel
theorem dX8_put_5 : decode cX8_put 5 = .ok (.iload_n 1, 1) := by decide +kernel
theorem dX8_put_6 : decode cX8_put 6 = .ok (.invokestatic 102, 3) := by decide +kernel
theorem dX8_put_9 : decode cX8_put 9 = .ok (.ifCond .eq 13, 3) := by decide +kernel
theorem dX8_put_12 : decode cX8_put 12 = .ok (.iload_n 3, 1) := by decide +kernel
theorem dX8_put_13 : decode cX8_put 13 = .ok (.iconst 0, 1) := by decide +kernel
theorem dX8_put_14 : decode cX8_put 14 = .ok (.bipush 7, 2) := by decide +kernel
theorem dX8_put_16 : decode cX8_put 16 = .ok (.invokestatic 52, 3) := by decide +kernel
theorem dX8_put_19 : decode cX8_put 19 = .ok (.ifCond .ne 9, 3) := by decide +kernel
theorem dX8_put_22 : decode cX8_put 22 = .ok (.aload_n 0, 1) := by decide +kernel
theorem dX8_put_23 : decode cX8_put 23 = .ok (.iconst 1, 1) := by decide +kernel
theorem dX8_put_24 : decode cX8_put 24 = .ok (.invokevirtual 105, 3) := by decide +kernel
theorem dX8_put_27 : decode cX8_put 27 = .ok (.ireturn, 1) := by decide +kernel
theorem dX8_put_28 : decode cX8_put 28 = .ok (.aload_n 0, 1) := by decide +kernel
theorem dX8_put_29 : decode cX8_put 29 = .ok (.iload_n 1, 1) := by decide +kernel
theorem dX8_put_30 : decode cX8_put 30 = .ok (.iload_n 2, 1) := by decide +kernel
theorem dX8_put_31 : decode cX8_put 31 = .ok (.invokevirtual 120, 3) := by decide +kernel
theorem dX8_put_34 : decode cX8_put 34 = .ok (.istore 6, 2) := by decide +kernel
theorem dX8_put_36 : decode cX8_put 36 = .ok (.iload 6, 2) := by decide +kernel
theorem dX8_put_38 : decode cX8_put 38 = .ok (.ifCond .le 10, 3) := by decide +kernel
theorem dX8_put_41 : decode cX8_put 41 = .ok (.aload_n 0, 1) := by decide +kernel
theorem dX8_put_42 : decode cX8_put 42 = .ok (.iload 6, 2) := by decide +kernel
theorem dX8_put_44 : decode cX8_put 44 = .ok (.invokevirtual 105, 3) := by decide +kernel
theorem dX8_put_47 : decode cX8_put 47 = .ok (.ireturn, 1) := by decide +kernel
theorem dX8_put_48 : decode cX8_put 48 = .ok (.aload_n 0, 1) := by decide +kernel
theorem dX8_put_49 : decode cX8_put 49 = .ok (.iload_n 3, 1) := by decide +kernel
theorem dX8_put_50 : decode cX8_put 50 = .ok (.iload 4, 2) := by decide +kernel
theorem dX8_put_52 : decode cX8_put 52 = .ok (.iload 5, 2) := by decide +kernel
theorem dX8_put_54 : decode cX8_put 54 = .ok (.invokevirtual 124, 3) := by decide +kernel
theorem dX8_put_57 : decode cX8_put 57 = .ok (.aload_n 0, 1) := by decide +kernel
theorem dX8_put_58 : decode cX8_put 58 = .ok (.aload_n 0, 1) := by decide +kernel
theorem dX8_put_59 : decode cX8_put 59 = .ok (.iload_n 1, 1) := by decide +kernel
theorem dX8_put_60 : decode cX8_put 60 = .ok (.invokevirtual 56, 3) := by decide +kernel
theorem dX8_put_63 : decode cX8_put 63 = .ok (.invokevirtual 128, 3) := by decide +kernel
theorem dX8_put_66 : decode cX8_put 66 = .ok (.ifCond .ne 9, 3) := by decide +kernel
theorem dX8_put_69 : decode cX8_put 69 = .ok (.aload_n 0, 1) := by decide +kernel
theorem dX8_put_70 : decode cX8_put 70 = .ok (.iconst 5, 1) := by decide +kernel
theorem dX8_put_71 : decode cX8_put 71 = .ok (.invokevirtual 105, 3) := by decide +kernel
theorem dX8_put_74 : decode cX8_put 74 = .ok (.ireturn, 1) := by decide +kernel
theorem dX8_put_75 : decode cX8_put 75 = .ok (.aload_n 0, 1) := by decide +kernel
theorem dX8_put_76 : decode cX8_put 76 = .ok (.aload_n 0, 1) := by decide +kernel
theorem dX8_put_77 : decode cX8_put 77 = .ok (.getfield 13, 3) := by decide +kernel
theorem dX8_put_80 : decode cX8_put 80 = .ok (.aload_n 0, 1) := by decide +kernel
theorem dX8_put_81 : decode cX8_put 81 = .ok (.iload_n 1, 1) := by decide +kernel
theorem dX8_put_82 : decode cX8_put 82 = .ok (.invokevirtual 56, 3) := by decide +kernel
theorem dX8_put_85 : decode cX8_put 85 = .ok (.iaload, 1) := by decide +kernel
theorem dX8_put_86 : decode cX8_put 86 = .ok (.invokevirtual 131, 3) := by decide +kernel
theorem dX8_put_89 : decode cX8_put 89 = .ok (.aload_n 0, 1) := by decide +kernel
theorem dX8_put_90 : decode cX8_put 90 = .ok (.aload_n 0, 1) := by decide +kernel
theorem dX8_put_91 : decode cX8_put 91 = .ok (.iload_n 1, 1) := by decide +kernel
theorem dX8_put_92 : decode cX8_put 92 = .ok (.invokevirtual 56, 3) := by decide +kernel
theorem dX8_put_95 : decode cX8_put 95 = .ok (.iload_n 2, 1) := by decide +kernel
theorem dX8_put_96 : decode cX8_put 96 = .ok (.invokevirtual 135, 3) := by decide +kernel
theorem dX8_put_99 : decode cX8_put 99 = .ok (.iconst 1, 1) := by decide +kernel
theorem dX8_put_100 : decode cX8_put 100 = .ok (.ireturn, 1) := by decide +kernel
theorem dX8_putBoxed_0 : decode cX8_putBoxed 0 = .ok (.aload_n 0, 1) := by decide +kernel
theorem dX8_putBoxed_1 : decode cX8_putBoxed 1 = .ok (.iload_n 1, 1) := by decide +kernel
theorem dX8_putBoxed_2 : decode cX8_putBoxed 2 = .ok (.iload_n 2, 1) := by decide +kernel
theorem dX8_putBoxed_3 : decode cX8_putBoxed 3 = .ok (.iload_n 3, 1) := by decide +kernel
theorem dX8_putBoxed_4 : decode cX8_putBoxed 4 = .ok (.iload 4, 2) := by decide +kernel
theorem dX8_putBoxed_6 : decode cX8_putBoxed 6 = .ok (.iload 5, 2) := by decide +kernel
theorem dX8_putBoxed_8 : decode cX8_putBoxed 8 = .ok (.invokevirtual 139, 3) := by decide +kernel
theorem dX8_putBoxed_11 : decode cX8_putBoxed 11 = .ok (.ireturn, 1) := by decide +kernel
theorem dX8_putThing_0 : decode cX8_putThing 0 = .ok (.aload_n 0, 1) := by decide +kernel
theorem dX8_putThing_1 : decode cX8_putThing 1 = .ok (.iconst 0, 1) := by decide +kernel
theorem dX8_putThing_2 : decode cX8_putThing 2 = .ok (.putfield 48, 3) := by decide +kernel
theorem dX8_putThing_5 : decode cX8_putThing 5 = .ok (.iload_n 1, 1) := by decide +kernel
theorem dX8_putThing_6 : decode cX8_putThing 6 = .ok (.invokestatic 102, 3) := by decide +kernel
theorem dX8_putThing_9 : decode cX8_putThing 9 = .ok (.ifCond .eq 10, 3) := by decide +kernel
theorem dX8_putThing_12 : decode cX8_putThing 12 = .ok (.iload_n 3, 1) := by decide +kernel
theorem dX8_putThing_13 : decode cX8_putThing 13 = .ok (.invokestatic 102, 3) := by decide +kernel
theorem dX8_putThing_16 : decode cX8_putThing 16 = .ok (.ifCond .ne 9, 3) := by decide +kernel
theorem dX8_putThing_19 : decode cX8_putThing 19 = .ok (.aload_n 0, 1) := by decide +kernel
theorem dX8_putThing_20 : decode cX8_putThing 20 = .ok (.iconst 1, 1) := by decide +kernel
theorem dX8_putThing_21 : decode cX8_putThing 21 = .ok (.invokevirtual 105, 3) := by decide +kernel
theorem dX8_putThing_24 : decode cX8_putThing 24 = .ok (.ireturn, 1) := by decide +kernel
theorem dX8_putThing_25 : decode cX8_putThing 25 = .ok (.aload_n 0, 1) := by decide +kernel
theorem dX8_putThing_26 : decode cX8_putThing 26 = .ok (.iload_n 1, 1) := by decide +kernel
theorem dX8_putThing_27 : decode cX8_putThing 27 = .ok (.iload_n 2, 1) := by decide +kernel
theorem dX8_putThing_28 : decode cX8_putThing 28 = .ok (.invokevirtual 120, 3) := by decide +kernel
theorem dX8_putThing_31 : decode cX8_putThing 31 = .ok (.istore 4, 2) := by decide +kernel
theorem dX8_putThing_33 : decode cX8_putThing 33 = .ok (.iload 4, 2) := by decide +kernel
theorem dX8_putThing_35 : decode cX8_putThing 35 = .ok (.ifCond .le 10, 3) := by decide +kernel
theorem dX8_putThing_38 : decode cX8_putThing 38 = .ok (.aload_n 0, 1) := by decide +kernel
theorem dX8_putThing_39 : decode cX8_putThing 39 = .ok (.iload 4, 2) := by decide +kernel
theorem dX8_putThing_41 : decode cX8_putThing 41 = .ok (.invokevirtual 105, 3) := by decide +kernel
theorem dX8_putThing_44 : decode cX8_putThing 44 = .ok (.ireturn, 1) := by decide +kernel
theorem dX8_putThing_45 : decode cX8_putThing 45 = .ok (.aload_n 0, 1) := by decide +kernel
theorem dX8_putThing_46 : decode cX8_putThing 46 = .ok (.aload_n 0, 1) := by decide +kernel
theorem dX8_putThing_47 : decode cX8_putThing 47 = .ok (.iload_n 1, 1) := by decide +kernel
theorem dX8_putThing_48 : decode cX8_putThing 48 = .ok (.invokevirtual 56, 3) := by decide +kernel
theorem dX8_putThing_51 : decode cX8_putThing 51 = .ok (.invokevirtual 91, 3) := by decide +kernel
theorem dX8_putThing_54 : decode cX8_putThing 54 = .ok (.ifCond .ne 22, 3) := by decide +kernel
theorem dX8_putThing_57 : decode cX8_putThing 57 = .ok (.aload_n 0, 1) := by decide +kernel
theorem dX8_putThing_58 : decode cX8_putThing 58 = .ok (.aload_n 0, 1) := by decide +kernel
theorem dX8_putThing_59 : decode cX8_putThing 59 = .ok (.iload_n 1, 1) := by decide +kernel
theorem dX8_putThing_60 : decode cX8_putThing 60 = .ok (.invokevirtual 56, 3) := by decide +kernel
theorem dX8_putThing_63 : decode cX8_putThing 63 = .ok (.aload_n 0, 1) := by decide +kernel
theorem dX8_putThing_64 : decode cX8_putThing 64 = .ok (.getfield 30, 3) := by decide +kernel
theorem dX8_putThing_67 : decode cX8_putThing 67 = .ok (.iload_n 3, 1) := by decide +kernel
theorem dX8_putThing_68 : decode cX8_putThing 68 = .ok (.iaload, 1) := by decide +kernel
theorem dX8_putThing_69 : decode cX8_putThing 69 = .ok (.i2l, 1) := by decide +kernel
theorem dX8_putThing_70 : decode cX8_putThing 70 = .ok (.invokevirtual 98, 3) := by decide +kernel
theorem dX8_putThing_73 : decode cX8_putThing 73 = .ok (.ifCond .ne 9, 3) := by decide +kernel
theorem dX8_putThing_76 : decode cX8_putThing 76 = .ok (.aload_n 0, 1) := by decide +kernel
theorem dX8_putThing_77 : decode cX8_putThing 77 = .ok (.iconst 5, 1) := by decide +kernel
theorem dX8_putThing_78 : decode cX8_putThing 78 = .ok (.invokevirtual 105, 3) := by decide +kernel
theorem dX8_putThing_81 : decode cX8_putThing 81 = .ok (.ireturn, 1) := by decide +kernel
theorem dX8_putThing_82 : decode cX8_putThing 82 = .ok (.aload_n 0, 1) := by decide +kernel
theorem dX8_putThing_83 : decode cX8_putThing 83 = .ok (.getfield 22, 3) := by decide +kernel
theorem dX8_putThing_86 : decode cX8_putThing 86 = .ok (.bipush 24, 2) := by decide +kernel
theorem dX8_putThing_88 : decode cX8_putThing 88 = .ok (.aload_n 0, 1) := by decide +kernel
theorem dX8_putThing_89 : decode cX8_putThing 89 = .ok (.iload_n 1, 1) := by decide +kernel
theorem dX8_putThing_90 : decode cX8_putThing 90 = .ok (.invokevirtual 56, 3) := by decide +kernel
theorem dX8_putThing_93 : decode cX8_putThing 93 = .ok (.imul, 1) := by decide +kernel
theorem dX8_putThing_94 : decode cX8_putThing 94 = .ok (.iload_n 2, 1) := by decide +kernel
theorem dX8_putThing_95 : decode cX8_putThing 95 = .ok (.iadd, 1) := by decide +kernel
theorem dX8_putThing_96 : decode cX8_putThing 96 = .ok (.aload_n 0, 1) := by decide +kernel
theorem dX8_putThing_97 : decode cX8_putThing 97 = .ok (.getfield 30, 3) := by decide +kernel
theorem dX8_putThing_100 : decode cX8_putThing 100 = .ok (.iload_n 3, 1) := by decide +kernel
theorem dX8_putThing_101 : decode cX8_putThing 101 = .ok (.iaload, 1) := by decide +kernel
theorem dX8_putThing_102 : decode cX8_putThing 102 = .ok (.i2l, 1) := by decide +kernel
theorem dX8_putThing_103 : decode cX8_putThing 103 = .ok (.lastore, 1) := by decide +kernel
theorem dX8_putThing_104 : decode cX8_putThing 104 = .ok (.aload_n 0, 1) := by decide +kernel
theorem dX8_putThing_105 : decode cX8_putThing 105 = .ok (.getfield 30, 3) := by decide +kernel
theorem dX8_putThing_108 : decode cX8_putThing 108 = .ok (.iload_n 3, 1) := by decide +kernel
theorem dX8_putThing_109 : decode cX8_putThing 109 = .ok (.iaload, 1) := by decide +kernel
theorem dX8_putThing_110 : decode cX8_putThing 110 = .ok (.ifCond .le 7, 3) := by decide +kernel
theorem dX8_putThing_113 : decode cX8_putThing 113 = .ok (.iconst 1, 1) := by decide +kernel
theorem dX8_putThing_114 : decode cX8_putThing 114 = .ok (.goto 4, 3) := by decide +kernel
theorem dX8_putThing_117 : decode cX8_putThing 117 = .ok (.iconst 0, 1) := by decide +kernel
theorem dX8_putThing_118 : decode cX8_putThing 118 = .ok (.ireturn, 1) := by decide +kernel
theorem dX8_reasonOfValue_0 : decode cX8_reasonOfValue 0 = .ok (.aload_n 0, 1) := by decide +kernel
theorem dX8_reasonOfValue_1 : decode cX8_reasonOfValue 1 = .ok (.iload_n 1, 1) := by decide +kernel
theorem dX8_reasonOfValue_2 : decode cX8_reasonOfValue 2 = .ok (.iload_n 2, 1) := by decide +kernel
theorem dX8_reasonOfValue_3 : decode cX8_reasonOfValue 3 = .ok (.invokevirtual 120, 3) := by decide +kernel
theorem dX8_reasonOfValue_6 : decode cX8_reasonOfValue 6 = .ok (.istore 4, 2) := by decide +kernel
theorem dX8_reasonOfValue_8 : decode cX8_reasonOfValue 8 = .ok (.iload 4, 2) := by decide +kernel
theorem dX8_reasonOfValue_10 : decode cX8_reasonOfValue 10 = .ok (.ifCond .le 6, 3) := by decide +kernel
theorem dX8_reasonOfValue_13 : decode cX8_reasonOfValue 13 = .ok (.iload 4, 2) := by decide +kernel
theorem dX8_reasonOfValue_15 : decode cX8_reasonOfValue 15 = .ok (.ireturn, 1) := by decide +kernel
theorem dX8_reasonOfValue_16 : decode cX8_reasonOfValue 16 = .ok (.aload_n 0, 1) := by decide +kernel
theorem dX8_reasonOfValue_17 : decode cX8_reasonOfValue 17 = .ok (.aload_n 0, 1) := by decide +kernel
theorem dX8_reasonOfValue_18 : decode cX8_reasonOfValue 18 = .ok (.iload_n 1, 1) := by decide +kernel
theorem dX8_reasonOfValue_19 : decode cX8_reasonOfValue 19 = .ok (.invokevirtual 56, 3) := by decide +kernel
theorem dX8_reasonOfValue_22 : decode cX8_reasonOfValue 22 = .ok (.invokevirtual 91, 3) := by decide +kernel
theorem dX8_reasonOfValue_25 : decode cX8_reasonOfValue 25 = .ok (.ifCond .eq 21, 3) := by decide +kernel
theorem dX8_reasonOfValue_28 : decode cX8_reasonOfValue 28 = .ok (.aload_n 0, 1) := by decide +kernel
theorem dX8_reasonOfValue_29 : decode cX8_reasonOfValue 29 = .ok (.aload_n 0, 1) := by decide +kernel
theorem dX8_reasonOfValue_30 : decode cX8_reasonOfValue 30 = .ok (.getfield 13, 3) := by decide +kernel
theorem dX8_reasonOfValue_33 : decode cX8_reasonOfValue 33 = .ok (.aload_n 0, 1) := by decide +kernel
theorem dX8_reasonOfValue_34 : decode cX8_reasonOfValue 34 = .ok (.iload_n 1, 1) := by decide +kernel
theorem dX8_reasonOfValue_35 : decode cX8_reasonOfValue 35 = .ok (.invokevirtual 56, 3) := by decide +kernel
theorem dX8_reasonOfValue_38 : decode cX8_reasonOfValue 38 = .ok (.iaload, 1) := by decide +kernel
theorem dX8_reasonOfValue_39 : decode cX8_reasonOfValue 39 = .ok (.iload_n 3, 1) := by decide +kernel
theorem dX8_reasonOfValue_40 : decode cX8_reasonOfValue 40 = .ok (.invokevirtual 94, 3) := by decide +kernel
theorem dX8_reasonOfValue_43 : decode cX8_reasonOfValue 43 = .ok (.ifCond .ne 5, 3) := by decide +kernel
theorem dX8_reasonOfValue_46 : decode cX8_reasonOfValue 46 = .ok (.iconst 5, 1) := by decide +kernel
theorem dX8_reasonOfValue_47 : decode cX8_reasonOfValue 47 = .ok (.ireturn, 1) := by decide +kernel
theorem dX8_reasonOfValue_48 : decode cX8_reasonOfValue 48 = .ok (.aload_n 0, 1) := by decide +kernel
theorem dX8_reasonOfValue_49 : decode cX8_reasonOfValue 49 = .ok (.aload_n 0, 1) := by decide +kernel
theorem dX8_reasonOfValue_50 : decode cX8_reasonOfValue 50 = .ok (.iload_n 1, 1) := by decide +kernel
theorem dX8_reasonOfValue_51 : decode cX8_reasonOfValue 51 = .ok (.invokevirtual 56, 3) := by decide +kernel
theorem dX8_reasonOfValue_54 : decode cX8_reasonOfValue 54 = .ok (.iload_n 2, 1) := by decide +kernel
theorem dX8_reasonOfValue_55 : decode cX8_reasonOfValue 55 = .ok (.invokevirtual 143, 3) := by decide +kernel
theorem dX8_reasonOfValue_58 : decode cX8_reasonOfValue 58 = .ok (.aload_n 0, 1) := by decide +kernel
theorem dX8_reasonOfValue_59 : decode cX8_reasonOfValue 59 = .ok (.iload_n 3, 1) := by decide +kernel
theorem dX8_reasonOfValue_60 : decode cX8_reasonOfValue 60 = .ok (.invokevirtual 131, 3) := by decide +kernel
theorem dX8_reasonOfValue_63 : decode cX8_reasonOfValue 63 = .ok (.iconst 0, 1) := by decide +kernel
theorem dX8_reasonOfValue_64 : decode cX8_reasonOfValue 64 = .ok (.ireturn, 1) := by decide +kernel
theorem dX8_number_0 : decode cX8_number 0 = .ok (.aload_n 0, 1) := by decide +kernel
theorem dX8_number_1 : decode cX8_number 1 = .ok (.iconst 0, 1) := by decide +kernel
theorem dX8_number_2 : decode cX8_number 2 = .ok (.putfield 48, 3) := by decide +kernel
theorem dX8_number_5 : decode cX8_number 5 = .ok (.iload_n 1, 1) := by decide +kernel
theorem dX8_number_6 : decode cX8_number 6 = .ok (.invokestatic 102, 3) := by decide +kernel
theorem dX8_number_9 : decode cX8_number 9 = .ok (.ifCond .eq 12, 3) := by decide +kernel
theorem dX8_number_12 : decode cX8_number 12 = .ok (.iload_n 3, 1) := by decide +kernel
theorem dX8_number_13 : decode cX8_number 13 = .ok (.iconst 0, 1) := by decide +kernel
theorem dX8_number_14 : decode cX8_number 14 = .ok (.iconst 5, 1) := by decide +kernel
theorem dX8_number_15 : decode cX8_number 15 = .ok (.invokestatic 52, 3) := by decide +kernel
theorem dX8_number_18 : decode cX8_number 18 = .ok (.ifCond .ne 10, 3) := by decide +kernel
theorem dX8_number_21 : decode cX8_number 21 = .ok (.aload_n 0, 1) := by decide +kernel
theorem dX8_number_22 : decode cX8_number 22 = .ok (.iconst 1, 1) := by decide +kernel
theorem dX8_number_23 : decode cX8_number 23 = .ok (.invokevirtual 105, 3) := by decide +kernel
theorem dX8_number_26 : decode cX8_number 26 = .ok (.i2l, 1) := by decide +kernel
theorem dX8_number_27 : decode cX8_number 27 = .ok (.lreturn, 1) := by decide +kernel
theorem dX8_number_28 : decode cX8_number 28 = .ok (.aload_n 0, 1) := by decide +kernel
theorem dX8_number_29 : decode cX8_number 29 = .ok (.iload_n 1, 1) := by decide +kernel
theorem dX8_number_30 : decode cX8_number 30 = .ok (.iload_n 2, 1) := by decide +kernel
theorem dX8_number_31 : decode cX8_number 31 = .ok (.iload_n 3, 1) := by decide +kernel
theorem dX8_number_32 : decode cX8_number 32 = .ok (.invokevirtual 146, 3) := by decide +kernel
theorem dX8_number_35 : decode cX8_number 35 = .ok (.istore 4, 2) := by decide +kernel
theorem dX8_number_37 : decode cX8_number 37 = .ok (.iload 4, 2) := by decide +kernel
theorem dX8_number_39 : decode cX8_number 39 = .ok (.ifCond .le 13, 3) := by decide +kernel
theorem dX8_number_42 : decode cX8_number 42 = .ok (.aload_n 0, 1) := by decide +kernel
theorem dX8_number_43 : decode cX8_number 43 = .ok (.iload 4, 2) := by decide +kernel
theorem dX8_number_45 : decode cX8_number 45 = .ok (.invokevirtual 105, 3) := by decide +kernel
theorem dX8_number_48 : decode cX8_number 48 = .ok (.i2l, 1) := by decide +kernel
theorem dX8_number_49 : decode cX8_number 49 = .ok (.goto 7, 3) := by decide +kernel
theorem dX8_number_52 : decode cX8_number 52 = .ok (.aload_n 0, 1) := by decide +kernel
theorem dX8_number_53 : decode cX8_number 53 = .ok (.getfield 69, 3) := by decide +kernel
theorem dX8_number_56 : decode cX8_number 56 = .ok (.lreturn, 1) := by decide +kernel
theorem dX8_point_0 : decode cX8_point 0 = .ok (.aload_n 0, 1) := by decide +kernel
theorem dX8_point_1 : decode cX8_point 1 = .ok (.iconst 0, 1) := by decide +kernel
theorem dX8_point_2 : decode cX8_point 2 = .ok (.putfield 48, 3) := by decide +kernel
theorem dX8_point_5 : decode cX8_point 5 = .ok (.iload_n 1, 1) := by decide +kernel
theorem dX8_point_6 : decode cX8_point 6 = .ok (.invokestatic 102, 3) := by decide +kernel
theorem dX8_point_9 : decode cX8_point 9 = .ok (.ifCond .eq 14, 3) := by decide +kernel
theorem dX8_point_12 : decode cX8_point 12 = .ok (.iload_n 3, 1) := by decide +kernel
theorem dX8_point_13 : decode cX8_point 13 = .ok (.bipush 6, 2) := by decide +kernel
theorem dX8_point_15 : decode cX8_point 15 = .ok (.bipush 7, 2) := by decide +kernel
theorem dX8_point_17 : decode cX8_point 17 = .ok (.invokestatic 52, 3) := by decide +kernel
theorem dX8_point_20 : decode cX8_point 20 = .ok (.ifCond .ne 10, 3) := by decide +kernel
theorem dX8_point_23 : decode cX8_point 23 = .ok (.aload_n 0, 1) := by decide +kernel
theorem dX8_point_24 : decode cX8_point 24 = .ok (.iconst 1, 1) := by decide +kernel
theorem dX8_point_25 : decode cX8_point 25 = .ok (.invokevirtual 105, 3) := by decide +kernel
theorem dX8_point_28 : decode cX8_point 28 = .ok (.i2d, 1) := by decide +kernel
theorem dX8_point_29 : decode cX8_point 29 = .ok (.dreturn, 1) := by decide +kernel
theorem dX8_point_30 : decode cX8_point 30 = .ok (.aload_n 0, 1) := by decide +kernel
theorem dX8_point_31 : decode cX8_point 31 = .ok (.iload_n 1, 1) := by decide +kernel
theorem dX8_point_32 : decode cX8_point 32 = .ok (.iload_n 2, 1) := by decide +kernel
theorem dX8_point_33 : decode cX8_point 33 = .ok (.iload_n 3, 1) := by decide +kernel
theorem dX8_point_34 : decode cX8_point 34 = .ok (.invokevirtual 146, 3) := by decide +kernel
theorem dX8_point_37 : decode cX8_point 37 = .ok (.istore 4, 2) := by decide +kernel
theorem dX8_point_39 : decode cX8_point 39 = .ok (.iload 4, 2) := by decide +kernel
theorem dX8_point_41 : decode cX8_point 41 = .ok (.ifCond .le 13, 3) := by decide +kernel
theorem dX8_point_44 : decode cX8_point 44 = .ok (.aload_n 0, 1) := by decide +kernel
theorem dX8_point_45 : decode cX8_point 45 = .ok (.iload 4, 2) := by decide +kernel
theorem dX8_point_47 : decode cX8_point 47 = .ok (.invokevirtual 105, 3) := by decide +kernel
theorem dX8_point_50 : decode cX8_point 50 = .ok (.i2d, 1) := by decide +kernel
theorem dX8_point_51 : decode cX8_point 51 = .ok (.goto 7, 3) := by decide +kernel
theorem dX8_point_54 : decode cX8_point 54 = .ok (.aload_n 0, 1) := by decide +kernel
theorem dX8_point_55 : decode cX8_point 55 = .ok (.getfield 73, 3) := by decide +kernel
theorem dX8_point_58 : decode cX8_point 58 = .ok (.dreturn, 1) := by decide +kernel
theorem dX8_kindOf_0 : decode cX8_kindOf 0 = .ok (.lload_n 1, 1) := by decide +kernel
theorem dX8_kindOf_1 : decode cX8_kindOf 1 = .ok (.lconst 0, 1) := by decide +kernel
theorem dX8_kindOf_2 : decode cX8_kindOf 2 = .ok (.lcmp, 1) := by decide +kernel
theorem dX8_kindOf_3 : decode cX8_kindOf 3 = .ok (.ifCond .ne 7, 3) := by decide +kernel
theorem dX8_kindOf_6 : decode cX8_kindOf 6 = .ok (.iconst (-1), 1) := by decide +kernel
theorem dX8_kindOf_7 : decode cX8_kindOf 7 = .ok (.goto 12, 3) := by decide +kernel
theorem dX8_kindOf_10 : decode cX8_kindOf 10 = .ok (.aload_n 0, 1) := by decide +kernel
theorem dX8_kindOf_11 : decode cX8_kindOf 11 = .ok (.getfield 13, 3) := by decide +kernel
theorem dX8_kindOf_14 : decode cX8_kindOf 14 = .ok (.lload_n 1, 1) := by decide +kernel
theorem dX8_kindOf_15 : decode cX8_kindOf 15 = .ok (.l2i, 1) := by decide +kernel
theorem dX8_kindOf_16 : decode cX8_kindOf 16 = .ok (.iconst 1, 1) := by decide +kernel
theorem dX8_kindOf_17 : decode cX8_kindOf 17 = .ok (.isub, 1) := by decide +kernel
theorem dX8_kindOf_18 : decode cX8_kindOf 18 = .ok (.iaload, 1) := by decide +kernel
theorem dX8_kindOf_19 : decode cX8_kindOf 19 = .ok (.ireturn, 1) := by decide +kernel
theorem dX8_what_0 : decode cX8_what 0 = .ok (.aload_n 0, 1) := by decide +kernel
theorem dX8_what_1 : decode cX8_what 1 = .ok (.iconst 0, 1) := by decide +kernel
theorem dX8_what_2 : decode cX8_what 2 = .ok (.putfield 48, 3) := by decide +kernel
theorem dX8_what_5 : decode cX8_what 5 = .ok (.iload_n 1, 1) := by decide +kernel
theorem dX8_what_6 : decode cX8_what 6 = .ok (.invokestatic 102, 3) := by decide +kernel
theorem dX8_what_9 : decode cX8_what 9 = .ok (.ifCond .ne 9, 3) := by decide +kernel
theorem dX8_what_12 : decode cX8_what 12 = .ok (.aload_n 0, 1) := by decide +kernel
theorem dX8_what_13 : decode cX8_what 13 = .ok (.iconst 1, 1) := by decide +kernel
theorem dX8_what_14 : decode cX8_what 14 = .ok (.invokevirtual 105, 3) := by decide +kernel
theorem dX8_what_17 : decode cX8_what 17 = .ok (.ireturn, 1) := by decide +kernel
theorem dX8_what_18 : decode cX8_what 18 = .ok (.aload_n 0, 1) := by decide +kernel
theorem dX8_what_19 : decode cX8_what 19 = .ok (.iload_n 1, 1) := by decide +kernel
theorem dX8_what_20 : decode cX8_what 20 = .ok (.iload_n 2, 1) := by decide +kernel
theorem dX8_what_21 : decode cX8_what 21 = .ok (.invokevirtual 120, 3) := by decide +kernel
theorem dX8_what_24 : decode cX8_what 24 = .ok (.istore_n 3, 1) := by decide +kernel
theorem dX8_what_25 : decode cX8_what 25 = .ok (.iload_n 3, 1) := by decide +kernel
theorem dX8_what_26 : decode cX8_what 26 = .ok (.ifCond .le 9, 3) := by decide +kernel
theorem dX8_what_29 : decode cX8_what 29 = .ok (.aload_n 0, 1) := by decide +kernel
theorem dX8_what_30 : decode cX8_what 30 = .ok (.iload_n 3, 1) := by decide +kernel
theorem dX8_what_31 : decode cX8_what 31 = .ok (.invokevirtual 105, 3) := by decide +kernel
theorem dX8_what_34 : decode cX8_what 34 = .ok (.ireturn, 1) := by decide +kernel
theorem dX8_what_35 : decode cX8_what 35 = .ok (.aload_n 0, 1) := by decide +kernel
theorem dX8_what_36 : decode cX8_what 36 = .ok (.aload_n 0, 1) := by decide +kernel
theorem dX8_what_37 : decode cX8_what 37 = .ok (.iload_n 1, 1) := by decide +kernel
theorem dX8_what_38 : decode cX8_what 38 = .ok (.invokevirtual 56, 3) := by decide +kernel
theorem dX8_what_41 : decode cX8_what 41 = .ok (.invokevirtual 91, 3) := by decide +kernel
theorem dX8_what_44 : decode cX8_what 44 = .ok (.ifCond .eq 16, 3) := by decide +kernel
theorem dX8_what_47 : decode cX8_what 47 = .ok (.aload_n 0, 1) := by decide +kernel
theorem dX8_what_48 : decode cX8_what 48 = .ok (.getfield 13, 3) := by decide +kernel
theorem dX8_what_51 : decode cX8_what 51 = .ok (.aload_n 0, 1) := by decide +kernel
theorem dX8_what_52 : decode cX8_what 52 = .ok (.iload_n 1, 1) := by decide +kernel
theorem dX8_what_53 : decode cX8_what 53 = .ok (.invokevirtual 56, 3) := by decide +kernel
theorem dX8_what_56 : decode cX8_what 56 = .ok (.iaload, 1) := by decide +kernel
theorem dX8_what_57 : decode cX8_what 57 = .ok (.goto 22, 3) := by decide +kernel
theorem dX8_what_60 : decode cX8_what 60 = .ok (.aload_n 0, 1) := by decide +kernel
theorem dX8_what_61 : decode cX8_what 61 = .ok (.aload_n 0, 1) := by decide +kernel
theorem dX8_what_62 : decode cX8_what 62 = .ok (.getfield 22, 3) := by decide +kernel
theorem dX8_what_65 : decode cX8_what 65 = .ok (.bipush 24, 2) := by decide +kernel
theorem dX8_what_67 : decode cX8_what 67 = .ok (.aload_n 0, 1) := by decide +kernel
theorem dX8_what_68 : decode cX8_what 68 = .ok (.iload_n 1, 1) := by decide +kernel
theorem dX8_what_69 : decode cX8_what 69 = .ok (.invokevirtual 56, 3) := by decide +kernel
theorem dX8_what_72 : decode cX8_what 72 = .ok (.imul, 1) := by decide +kernel
theorem dX8_what_73 : decode cX8_what 73 = .ok (.iload_n 2, 1) := by decide +kernel
theorem dX8_what_74 : decode cX8_what 74 = .ok (.iadd, 1) := by decide +kernel
theorem dX8_what_75 : decode cX8_what 75 = .ok (.laload, 1) := by decide +kernel
theorem dX8_what_76 : decode cX8_what 76 = .ok (.invokevirtual 150, 3) := by decide +kernel
theorem dX8_what_79 : decode cX8_what 79 = .ok (.ireturn, 1) := by decide +kernel
theorem dX8_take_0 : decode cX8_take 0 = .ok (.aload_n 0, 1) := by decide +kernel
theorem dX8_take_1 : decode cX8_take 1 = .ok (.iconst 0, 1) := by decide +kernel
theorem dX8_take_2 : decode cX8_take 2 = .ok (.putfield 48, 3) := by decide +kernel
theorem dX8_take_5 : decode cX8_take 5 = .ok (.iload_n 1, 1) := by decide +kernel
theorem dX8_take_6 : decode cX8_take 6 = .ok (.invokestatic 102, 3) := by decide +kernel
theorem dX8_take_9 : decode cX8_take 9 = .ok (.ifCond .eq 10, 3) := by decide +kernel
theorem dX8_take_12 : decode cX8_take 12 = .ok (.iload_n 3, 1) := by decide +kernel
theorem dX8_take_13 : decode cX8_take 13 = .ok (.invokestatic 102, 3) := by decide +kernel
theorem dX8_take_16 : decode cX8_take 16 = .ok (.ifCond .ne 9, 3) := by decide +kernel
theorem dX8_take_19 : decode cX8_take 19 = .ok (.aload_n 0, 1) := by decide +kernel
theorem dX8_take_20 : decode cX8_take 20 = .ok (.iconst 1, 1) := by decide +kernel
theorem dX8_take_21 : decode cX8_take 21 = .ok (.invokevirtual 105, 3) := by decide +kernel
theorem dX8_take_24 : decode cX8_take 24 = .ok (.ireturn, 1) := by decide +kernel
theorem dX8_take_25 : decode cX8_take 25 = .ok (.aload_n 0, 1) := by decide +kernel
theorem dX8_take_26 : decode cX8_take 26 = .ok (.iload_n 1, 1) := by decide +kernel
theorem dX8_take_27 : decode cX8_take 27 = .ok (.invokevirtual 111, 3) := by decide +kernel
theorem dX8_take_30 : decode cX8_take 30 = .ok (.istore 4, 2) := by decide +kernel
theorem dX8_take_32 : decode cX8_take 32 = .ok (.iload 4, 2) := by decide +kernel
theorem dX8_take_34 : decode cX8_take 34 = .ok (.ifCond .le 10, 3) := by decide +kernel
theorem dX8_take_37 : decode cX8_take 37 = .ok (.aload_n 0, 1) := by decide +kernel
theorem dX8_take_38 : decode cX8_take 38 = .ok (.iload 4, 2) := by decide +kernel
theorem dX8_take_40 : decode cX8_take 40 = .ok (.invokevirtual 105, 3) := by decide +kernel
theorem dX8_take_43 : decode cX8_take 43 = .ok (.ireturn, 1) := by decide +kernel
theorem dX8_take_44 : decode cX8_take 44 = .ok (.aload_n 0, 1) := by decide +kernel
theorem dX8_take_45 : decode cX8_take 45 = .ok (.aload_n 0, 1) := by decide +kernel
theorem dX8_take_46 : decode cX8_take 46 = .ok (.iload_n 1, 1) := by decide +kernel
theorem dX8_take_47 : decode cX8_take 47 = .ok (.invokevirtual 56, 3) := by decide +kernel
theorem dX8_take_50 : decode cX8_take 50 = .ok (.invokevirtual 91, 3) := by decide +kernel
theorem dX8_take_53 : decode cX8_take 53 = .ok (.ifCond .eq 10, 3) := by decide +kernel
theorem dX8_take_56 : decode cX8_take 56 = .ok (.aload_n 0, 1) := by decide +kernel
theorem dX8_take_57 : decode cX8_take 57 = .ok (.bipush 6, 2) := by decide +kernel
theorem dX8_take_59 : decode cX8_take 59 = .ok (.invokevirtual 105, 3) := by decide +kernel
theorem dX8_take_62 : decode cX8_take 62 = .ok (.ireturn, 1) := by decide +kernel
theorem dX8_take_63 : decode cX8_take 63 = .ok (.aload_n 0, 1) := by decide +kernel
theorem dX8_take_64 : decode cX8_take 64 = .ok (.aload_n 0, 1) := by decide +kernel
theorem dX8_take_65 : decode cX8_take 65 = .ok (.iload_n 1, 1) := by decide +kernel
theorem dX8_take_66 : decode cX8_take 66 = .ok (.invokevirtual 56, 3) := by decide +kernel
theorem dX8_take_69 : decode cX8_take 69 = .ok (.iload_n 2, 1) := by decide +kernel
theorem dX8_take_70 : decode cX8_take 70 = .ok (.invokevirtual 117, 3) := by decide +kernel
theorem dX8_take_73 : decode cX8_take 73 = .ok (.ifCond .ne 9, 3) := by decide +kernel
theorem dX8_take_76 : decode cX8_take 76 = .ok (.aload_n 0, 1) := by decide +kernel
theorem dX8_take_77 : decode cX8_take 77 = .ok (.iconst 4, 1) := by decide +kernel
theorem dX8_take_78 : decode cX8_take 78 = .ok (.invokevirtual 105, 3) := by decide +kernel
theorem dX8_take_81 : decode cX8_take 81 = .ok (.ireturn, 1) := by decide +kernel
theorem dX8_take_82 : decode cX8_take 82 = .ok (.aload_n 0, 1) := by decide +kernel
theorem dX8_take_83 : decode cX8_take 83 = .ok (.getfield 30, 3) := by decide +kernel
theorem dX8_take_86 : decode cX8_take 86 = .ok (.iload_n 3, 1) := by decide +kernel
theorem dX8_take_87 : decode cX8_take 87 = .ok (.aload_n 0, 1) := by decide +kernel
theorem dX8_take_88 : decode cX8_take 88 = .ok (.getfield 22, 3) := by decide +kernel
theorem dX8_take_91 : decode cX8_take 91 = .ok (.bipush 24, 2) := by decide +kernel
theorem dX8_take_93 : decode cX8_take 93 = .ok (.aload_n 0, 1) := by decide +kernel
theorem dX8_take_94 : decode cX8_take 94 = .ok (.iload_n 1, 1) := by decide +kernel
theorem dX8_take_95 : decode cX8_take 95 = .ok (.invokevirtual 56, 3) := by decide +kernel
theorem dX8_take_98 : decode cX8_take 98 = .ok (.imul, 1) := by decide +kernel
theorem dX8_take_99 : decode cX8_take 99 = .ok (.iload_n 2, 1) := by decide +kernel
theorem dX8_take_100 : decode cX8_take 100 = .ok (.iadd, 1) := by decide +kernel
theorem dX8_take_101 : decode cX8_take 101 = .ok (.laload, 1) := by decide +kernel
theorem dX8_take_102 : decode cX8_take 102 = .ok (.l2i, 1) := by decide +kernel
theorem dX8_take_103 : decode cX8_take 103 = .ok (.iastore, 1) := by decide +kernel
theorem dX8_take_104 : decode cX8_take 104 = .ok (.aload_n 0, 1) := by decide +kernel
theorem dX8_take_105 : decode cX8_take 105 = .ok (.getfield 30, 3) := by decide +kernel
theorem dX8_take_108 : decode cX8_take 108 = .ok (.iload_n 3, 1) := by decide +kernel
theorem dX8_take_109 : decode cX8_take 109 = .ok (.iaload, 1) := by decide +kernel
theorem dX8_take_110 : decode cX8_take 110 = .ok (.ifCond .le 7, 3) := by decide +kernel
theorem dX8_take_113 : decode cX8_take 113 = .ok (.iconst 1, 1) := by decide +kernel
theorem dX8_take_114 : decode cX8_take 114 = .ok (.goto 4, 3) := by decide +kernel
theorem dX8_take_117 : decode cX8_take 117 = .ok (.iconst 0, 1) := by decide +kernel
theorem dX8_take_118 : decode cX8_take 118 = .ok (.ireturn, 1) := by decide +kernel
theorem dX8_carry_0 : decode cX8_carry 0 = .ok (.iconst 0, 1) := by decide +kernel
theorem dX8_carry_1 : decode cX8_carry 1 = .ok (.istore 4, 2) := by decide +kernel
theorem dX8_carry_3 : decode cX8_carry 3 = .ok (.iload 4, 2) := by decide +kernel
theorem dX8_carry_5 : decode cX8_carry 5 = .ok (.iload_n 3, 1) := by decide +kernel
theorem dX8_carry_6 : decode cX8_carry 6 = .ok (.if_icmp .ge 112, 3) := by decide +kernel
theorem dX8_carry_9 : decode cX8_carry 9 = .ok (.aload_n 0, 1) := by decide +kernel
theorem dX8_carry_10 : decode cX8_carry 10 = .ok (.iload_n 1, 1) := by decide +kernel
theorem dX8_carry_11 : decode cX8_carry 11 = .ok (.aload_n 0, 1) := by decide +kernel
theorem dX8_carry_12 : decode cX8_carry 12 = .ok (.getfield 42, 3) := by decide +kernel
theorem dX8_carry_15 : decode cX8_carry 15 = .ok (.iload 4, 2) := by decide +kernel
theorem dX8_carry_17 : decode cX8_carry 17 = .ok (.iaload, 1) := by decide +kernel
theorem dX8_carry_18 : decode cX8_carry 18 = .ok (.invokevirtual 117, 3) := by decide +kernel
theorem dX8_carry_21 : decode cX8_carry 21 = .ok (.ifCond .eq 18, 3) := by decide +kernel
theorem dX8_carry_24 : decode cX8_carry 24 = .ok (.aload_n 0, 1) := by decide +kernel
theorem dX8_carry_25 : decode cX8_carry 25 = .ok (.iload_n 2, 1) := by decide +kernel
theorem dX8_carry_26 : decode cX8_carry 26 = .ok (.aload_n 0, 1) := by decide +kernel
theorem dX8_carry_27 : decode cX8_carry 27 = .ok (.getfield 45, 3) := by decide +kernel
theorem dX8_carry_30 : decode cX8_carry 30 = .ok (.iload 4, 2) := by decide +kernel
theorem dX8_carry_32 : decode cX8_carry 32 = .ok (.iaload, 1) := by decide +kernel
theorem dX8_carry_33 : decode cX8_carry 33 = .ok (.invokevirtual 117, 3) := by decide +kernel
theorem dX8_carry_36 : decode cX8_carry 36 = .ok (.ifCond .ne 9, 3) := by decide +kernel
theorem dX8_carry_39 : decode cX8_carry 39 = .ok (.aload_n 0, 1) := by decide +kernel
theorem dX8_carry_40 : decode cX8_carry 40 = .ok (.iconst 4, 1) := by decide +kernel
theorem dX8_carry_41 : decode cX8_carry 41 = .ok (.invokevirtual 105, 3) := by decide +kernel
theorem dX8_carry_44 : decode cX8_carry 44 = .ok (.ireturn, 1) := by decide +kernel
theorem dX8_carry_45 : decode cX8_carry 45 = .ok (.aload_n 0, 1) := by decide +kernel
theorem dX8_carry_46 : decode cX8_carry 46 = .ok (.iload_n 1, 1) := by decide +kernel
theorem dX8_carry_47 : decode cX8_carry 47 = .ok (.aload_n 0, 1) := by decide +kernel
theorem dX8_carry_48 : decode cX8_carry 48 = .ok (.getfield 42, 3) := by decide +kernel
theorem dX8_carry_51 : decode cX8_carry 51 = .ok (.iload 4, 2) := by decide +kernel
theorem dX8_carry_53 : decode cX8_carry 53 = .ok (.iaload, 1) := by decide +kernel
theorem dX8_carry_54 : decode cX8_carry 54 = .ok (.invokevirtual 143, 3) := by decide +kernel
theorem dX8_carry_57 : decode cX8_carry 57 = .ok (.aload_n 0, 1) := by decide +kernel
theorem dX8_carry_58 : decode cX8_carry 58 = .ok (.iload_n 2, 1) := by decide +kernel
theorem dX8_carry_59 : decode cX8_carry 59 = .ok (.invokevirtual 128, 3) := by decide +kernel
theorem dX8_carry_62 : decode cX8_carry 62 = .ok (.ifCond .ne 9, 3) := by decide +kernel
theorem dX8_carry_65 : decode cX8_carry 65 = .ok (.aload_n 0, 1) := by decide +kernel
theorem dX8_carry_66 : decode cX8_carry 66 = .ok (.iconst 5, 1) := by decide +kernel
theorem dX8_carry_67 : decode cX8_carry 67 = .ok (.invokevirtual 105, 3) := by decide +kernel
theorem dX8_carry_70 : decode cX8_carry 70 = .ok (.ireturn, 1) := by decide +kernel
theorem dX8_carry_71 : decode cX8_carry 71 = .ok (.aload_n 0, 1) := by decide +kernel
theorem dX8_carry_72 : decode cX8_carry 72 = .ok (.getfield 66, 3) := by decide +kernel
theorem dX8_carry_75 : decode cX8_carry 75 = .ok (.bipush 8, 2) := by decide +kernel
theorem dX8_carry_77 : decode cX8_carry 77 = .ok (.if_icmp .ge 13, 3) := by decide +kernel
theorem dX8_carry_80 : decode cX8_carry 80 = .ok (.aload_n 0, 1) := by decide +kernel
theorem dX8_carry_81 : decode cX8_carry 81 = .ok (.aload_n 0, 1) := by decide +kernel
theorem dX8_carry_82 : decode cX8_carry 82 = .ok (.getfield 13, 3) := by decide +kernel
theorem dX8_carry_85 : decode cX8_carry 85 = .ok (.iload_n 2, 1) := by decide +kernel
theorem dX8_carry_86 : decode cX8_carry 86 = .ok (.iaload, 1) := by decide +kernel
theorem dX8_carry_87 : decode cX8_carry 87 = .ok (.invokevirtual 131, 3) := by decide +kernel
theorem dX8_carry_90 : decode cX8_carry 90 = .ok (.aload_n 0, 1) := by decide +kernel
theorem dX8_carry_91 : decode cX8_carry 91 = .ok (.getfield 36, 3) := by decide +kernel
theorem dX8_carry_94 : decode cX8_carry 94 = .ok (.iload 4, 2) := by decide +kernel
theorem dX8_carry_96 : decode cX8_carry 96 = .ok (.aload_n 0, 1) := by decide +kernel
theorem dX8_carry_97 : decode cX8_carry 97 = .ok (.getfield 69, 3) := by decide +kernel
theorem dX8_carry_100 : decode cX8_carry 100 = .ok (.lastore, 1) := by decide +kernel
theorem dX8_carry_101 : decode cX8_carry 101 = .ok (.aload_n 0, 1) := by decide +kernel
theorem dX8_carry_102 : decode cX8_carry 102 = .ok (.getfield 39, 3) := by decide +kernel
theorem dX8_carry_105 : decode cX8_carry 105 = .ok (.iload 4, 2) := by decide +kernel
theorem dX8_carry_107 : decode cX8_carry 107 = .ok (.aload_n 0, 1) := by decide +kernel
theorem dX8_carry_108 : decode cX8_carry 108 = .ok (.getfield 73, 3) := by decide +kernel
theorem dX8_carry_111 : decode cX8_carry 111 = .ok (.dastore, 1) := by decide +kernel
theorem dX8_carry_112 : decode cX8_carry 112 = .ok (.iinc 4 1, 3) := by decide +kernel
theorem dX8_carry_115 : decode cX8_carry 115 = .ok (.goto (-112), 3) := by decide +kernel
theorem dX8_carry_118 : decode cX8_carry 118 = .ok (.iconst 0, 1) := by decide +kernel
theorem dX8_carry_119 : decode cX8_carry 119 = .ok (.istore 4, 2) := by decide +kernel
theorem dX8_carry_121 : decode cX8_carry 121 = .ok (.iload 4, 2) := by decide +kernel
theorem dX8_carry_123 : decode cX8_carry 123 = .ok (.iload_n 3, 1) := by decide +kernel
theorem dX8_carry_124 : decode cX8_carry 124 = .ok (.if_icmp .ge 57, 3) := by decide +kernel
theorem dX8_carry_127 : decode cX8_carry 127 = .ok (.aload_n 0, 1) := by decide +kernel
theorem dX8_carry_128 : decode cX8_carry 128 = .ok (.getfield 22, 3) := by decide +kernel
theorem dX8_carry_131 : decode cX8_carry 131 = .ok (.bipush 24, 2) := by decide +kernel
theorem dX8_carry_133 : decode cX8_carry 133 = .ok (.iload_n 2, 1) := by decide +kernel
theorem dX8_carry_134 : decode cX8_carry 134 = .ok (.imul, 1) := by decide +kernel
theorem dX8_carry_135 : decode cX8_carry 135 = .ok (.aload_n 0, 1) := by decide +kernel
theorem dX8_carry_136 : decode cX8_carry 136 = .ok (.getfield 45, 3) := by decide +kernel
theorem dX8_carry_139 : decode cX8_carry 139 = .ok (.iload 4, 2) := by decide +kernel
theorem dX8_carry_141 : decode cX8_carry 141 = .ok (.iaload, 1) := by decide +kernel
theorem dX8_carry_142 : decode cX8_carry 142 = .ok (.iadd, 1) := by decide +kernel
theorem dX8_carry_143 : decode cX8_carry 143 = .ok (.aload_n 0, 1) := by decide +kernel
theorem dX8_carry_144 : decode cX8_carry 144 = .ok (.getfield 36, 3) := by decide +kernel
theorem dX8_carry_147 : decode cX8_carry 147 = .ok (.iload 4, 2) := by decide +kernel
theorem dX8_carry_149 : decode cX8_carry 149 = .ok (.laload, 1) := by decide +kernel
theorem dX8_carry_150 : decode cX8_carry 150 = .ok (.lastore, 1) := by decide +kernel
theorem dX8_carry_151 : decode cX8_carry 151 = .ok (.aload_n 0, 1) := by decide +kernel
theorem dX8_carry_152 : decode cX8_carry 152 = .ok (.getfield 26, 3) := by decide +kernel
theorem dX8_carry_155 : decode cX8_carry 155 = .ok (.bipush 24, 2) := by decide +kernel
theorem dX8_carry_157 : decode cX8_carry 157 = .ok (.iload_n 2, 1) := by decide +kernel
theorem dX8_carry_158 : decode cX8_carry 158 = .ok (.imul, 1) := by decide +kernel
theorem dX8_carry_159 : decode cX8_carry 159 = .ok (.aload_n 0, 1) := by decide +kernel
theorem dX8_carry_160 : decode cX8_carry 160 = .ok (.getfield 45, 3) := by decide +kernel
theorem dX8_carry_163 : decode cX8_carry 163 = .ok (.iload 4, 2) := by decide +kernel
theorem dX8_carry_165 : decode cX8_carry 165 = .ok (.iaload, 1) := by decide +kernel
theorem dX8_carry_166 : decode cX8_carry 166 = .ok (.iadd, 1) := by decide +kernel
theorem dX8_carry_167 : decode cX8_carry 167 = .ok (.aload_n 0, 1) := by decide +kernel
theorem dX8_carry_168 : decode cX8_carry 168 = .ok (.getfield 39, 3) := by decide +kernel
theorem dX8_carry_171 : decode cX8_carry 171 = .ok (.iload 4, 2) := by decide +kernel
theorem dX8_carry_173 : decode cX8_carry 173 = .ok (.daload, 1) := by decide +kernel
theorem dX8_carry_174 : decode cX8_carry 174 = .ok (.dastore, 1) := by decide +kernel
theorem dX8_carry_175 : decode cX8_carry 175 = .ok (.iinc 4 1, 3) := by decide +kernel
theorem dX8_carry_178 : decode cX8_carry 178 = .ok (.goto (-57), 3) := by decide +kernel
theorem dX8_carry_181 : decode cX8_carry 181 = .ok (.iload_n 3, 1) := by decide +kernel
theorem dX8_carry_182 : decode cX8_carry 182 = .ok (.ireturn, 1) := by decide +kernel
theorem dX8_copy_0 : decode cX8_copy 0 = .ok (.aload_n 0, 1) := by decide +kernel
theorem dX8_copy_1 : decode cX8_copy 1 = .ok (.iconst 0, 1) := by decide +kernel
theorem dX8_copy_2 : decode cX8_copy 2 = .ok (.putfield 48, 3) := by decide +kernel
theorem dX8_copy_5 : decode cX8_copy 5 = .ok (.iload_n 1, 1) := by decide +kernel
theorem dX8_copy_6 : decode cX8_copy 6 = .ok (.invokestatic 102, 3) := by decide +kernel
theorem dX8_copy_9 : decode cX8_copy 9 = .ok (.ifCond .eq 10, 3) := by decide +kernel
theorem dX8_copy_12 : decode cX8_copy 12 = .ok (.iload_n 2, 1) := by decide +kernel
theorem dX8_copy_13 : decode cX8_copy 13 = .ok (.invokestatic 102, 3) := by decide +kernel
theorem dX8_copy_16 : decode cX8_copy 16 = .ok (.ifCond .ne 9, 3) := by decide +kernel
theorem dX8_copy_19 : decode cX8_copy 19 = .ok (.aload_n 0, 1) := by decide +kernel
theorem dX8_copy_20 : decode cX8_copy 20 = .ok (.iconst 1, 1) := by decide +kernel
theorem dX8_copy_21 : decode cX8_copy 21 = .ok (.invokevirtual 105, 3) := by decide +kernel
theorem dX8_copy_24 : decode cX8_copy 24 = .ok (.ireturn, 1) := by decide +kernel
theorem dX8_copy_25 : decode cX8_copy 25 = .ok (.aload_n 0, 1) := by decide +kernel
theorem dX8_copy_26 : decode cX8_copy 26 = .ok (.iload_n 1, 1) := by decide +kernel
theorem dX8_copy_27 : decode cX8_copy 27 = .ok (.iload_n 2, 1) := by decide +kernel
theorem dX8_copy_28 : decode cX8_copy 28 = .ok (.iload_n 2, 1) := by decide +kernel
theorem dX8_copy_29 : decode cX8_copy 29 = .ok (.invokevirtual 154, 3) := by decide +kernel
theorem dX8_copy_32 : decode cX8_copy 32 = .ok (.istore_n 3, 1) := by decide +kernel
theorem dX8_copy_33 : decode cX8_copy 33 = .ok (.iload_n 3, 1) := by decide +kernel
theorem dX8_copy_34 : decode cX8_copy 34 = .ok (.ifCond .le 9, 3) := by decide +kernel
theorem dX8_copy_37 : decode cX8_copy 37 = .ok (.aload_n 0, 1) := by decide +kernel
theorem dX8_copy_38 : decode cX8_copy 38 = .ok (.iload_n 3, 1) := by decide +kernel
theorem dX8_copy_39 : decode cX8_copy 39 = .ok (.invokevirtual 105, 3) := by decide +kernel
theorem dX8_copy_42 : decode cX8_copy 42 = .ok (.ireturn, 1) := by decide +kernel
theorem dX8_copy_43 : decode cX8_copy 43 = .ok (.aload_n 0, 1) := by decide +kernel
theorem dX8_copy_44 : decode cX8_copy 44 = .ok (.getfield 16, 3) := by decide +kernel
theorem dX8_copy_47 : decode cX8_copy 47 = .ok (.aload_n 0, 1) := by decide +kernel
theorem dX8_copy_48 : decode cX8_copy 48 = .ok (.iload_n 1, 1) := by decide +kernel
theorem dX8_copy_49 : decode cX8_copy 49 = .ok (.invokevirtual 56, 3) := by decide +kernel
theorem dX8_copy_52 : decode cX8_copy 52 = .ok (.iaload, 1) := by decide +kernel
theorem dX8_copy_53 : decode cX8_copy 53 = .ok (.istore 4, 2) := by decide +kernel
theorem dX8_copy_55 : decode cX8_copy 55 = .ok (.iload 4, 2) := by decide +kernel
theorem dX8_copy_57 : decode cX8_copy 57 = .ok (.aload_n 0, 1) := by decide +kernel
theorem dX8_copy_58 : decode cX8_copy 58 = .ok (.getfield 16, 3) := by decide +kernel
theorem dX8_copy_61 : decode cX8_copy 61 = .ok (.aload_n 0, 1) := by decide +kernel
theorem dX8_copy_62 : decode cX8_copy 62 = .ok (.iload_n 2, 1) := by decide +kernel
theorem dX8_copy_63 : decode cX8_copy 63 = .ok (.invokevirtual 56, 3) := by decide +kernel
theorem dX8_copy_66 : decode cX8_copy 66 = .ok (.iaload, 1) := by decide +kernel
theorem dX8_copy_67 : decode cX8_copy 67 = .ok (.if_icmp .eq 9, 3) := by decide +kernel
theorem dX8_copy_70 : decode cX8_copy 70 = .ok (.aload_n 0, 1) := by decide +kernel
theorem dX8_copy_71 : decode cX8_copy 71 = .ok (.iconst 4, 1) := by decide +kernel
theorem dX8_copy_72 : decode cX8_copy 72 = .ok (.invokevirtual 105, 3) := by decide +kernel
theorem dX8_copy_75 : decode cX8_copy 75 = .ok (.ireturn, 1) := by decide +kernel
theorem dX8_copy_76 : decode cX8_copy 76 = .ok (.iconst 0, 1) := by decide +kernel
theorem dX8_copy_77 : decode cX8_copy 77 = .ok (.istore 5, 2) := by decide +kernel
theorem dX8_copy_79 : decode cX8_copy 79 = .ok (.iload 5, 2) := by decide +kernel
theorem dX8_copy_81 : decode cX8_copy 81 = .ok (.iload 4, 2) := by decide +kernel
theorem dX8_copy_83 : decode cX8_copy 83 = .ok (.if_icmp .ge 27, 3) := by decide +kernel
theorem dX8_copy_86 : decode cX8_copy 86 = .ok (.aload_n 0, 1) := by decide +kernel
theorem dX8_copy_87 : decode cX8_copy 87 = .ok (.getfield 42, 3) := by decide +kernel
theorem dX8_copy_90 : decode cX8_copy 90 = .ok (.iload 5, 2) := by decide +kernel
theorem dX8_copy_92 : decode cX8_copy 92 = .ok (.iload 5, 2) := by decide +kernel
theorem dX8_copy_94 : decode cX8_copy 94 = .ok (.iastore, 1) := by decide +kernel
theorem dX8_copy_95 : decode cX8_copy 95 = .ok (.aload_n 0, 1) := by decide +kernel
theorem dX8_copy_96 : decode cX8_copy 96 = .ok (.getfield 45, 3) := by decide +kernel
theorem dX8_copy_99 : decode cX8_copy 99 = .ok (.iload 5, 2) := by decide +kernel
theorem dX8_copy_101 : decode cX8_copy 101 = .ok (.iload 5, 2) := by decide +kernel
theorem dX8_copy_103 : decode cX8_copy 103 = .ok (.iastore, 1) := by decide +kernel
theorem dX8_copy_104 : decode cX8_copy 104 = .ok (.iinc 5 1, 3) := by decide +kernel
theorem dX8_copy_107 : decode cX8_copy 107 = .ok (.goto (-28), 3) := by decide +kernel
theorem dX8_copy_110 : decode cX8_copy 110 = .ok (.aload_n 0, 1) := by decide +kernel
theorem dX8_copy_111 : decode cX8_copy 111 = .ok (.aload_n 0, 1) := by decide +kernel
theorem dX8_copy_112 : decode cX8_copy 112 = .ok (.iload_n 1, 1) := by decide +kernel
theorem dX8_copy_113 : decode cX8_copy 113 = .ok (.invokevirtual 56, 3) := by decide +kernel
theorem dX8_copy_116 : decode cX8_copy 116 = .ok (.aload_n 0, 1) := by decide +kernel
theorem dX8_copy_117 : decode cX8_copy 117 = .ok (.iload_n 2, 1) := by decide +kernel
theorem dX8_copy_118 : decode cX8_copy 118 = .ok (.invokevirtual 56, 3) := by decide +kernel
theorem dX8_copy_121 : decode cX8_copy 121 = .ok (.iload 4, 2) := by decide +kernel
theorem dX8_copy_123 : decode cX8_copy 123 = .ok (.invokevirtual 157, 3) := by decide +kernel
theorem dX8_copy_126 : decode cX8_copy 126 = .ok (.ireturn, 1) := by decide +kernel
theorem dX8_tellsPlaces_0 : decode cX8_tellsPlaces 0 = .ok (.aload_n 0, 1) := by decide +kernel
theorem dX8_tellsPlaces_1 : decode cX8_tellsPlaces 1 = .ok (.iload_n 1, 1) := by decide +kernel
theorem dX8_tellsPlaces_2 : decode cX8_tellsPlaces 2 = .ok (.invokevirtual 91, 3) := by decide +kernel
theorem dX8_tellsPlaces_5 : decode cX8_tellsPlaces 5 = .ok (.ifCond .eq 21, 3) := by decide +kernel
theorem dX8_tellsPlaces_8 : decode cX8_tellsPlaces 8 = .ok (.aload_n 0, 1) := by decide +kernel
theorem dX8_tellsPlaces_9 : decode cX8_tellsPlaces 9 = .ok (.aload_n 0, 1) := by decide +kernel
theorem dX8_tellsPlaces_10 : decode cX8_tellsPlaces 10 = .ok (.getfield 13, 3) := by decide +kernel
theorem dX8_tellsPlaces_13 : decode cX8_tellsPlaces 13 = .ok (.iload_n 1, 1) := by decide +kernel
theorem dX8_tellsPlaces_14 : decode cX8_tellsPlaces 14 = .ok (.iaload, 1) := by decide +kernel
theorem dX8_tellsPlaces_15 : decode cX8_tellsPlaces 15 = .ok (.iconst 4, 1) := by decide +kernel
theorem dX8_tellsPlaces_16 : decode cX8_tellsPlaces 16 = .ok (.invokevirtual 94, 3) := by decide +kernel
theorem dX8_tellsPlaces_19 : decode cX8_tellsPlaces 19 = .ok (.ifCond .eq 7, 3) := by decide +kernel
theorem dX8_tellsPlaces_22 : decode cX8_tellsPlaces 22 = .ok (.iconst 1, 1) := by decide +kernel
theorem dX8_tellsPlaces_23 : decode cX8_tellsPlaces 23 = .ok (.goto 4, 3) := by decide +kernel
theorem dX8_tellsPlaces_26 : decode cX8_tellsPlaces 26 = .ok (.iconst 0, 1) := by decide +kernel
theorem dX8_tellsPlaces_27 : decode cX8_tellsPlaces 27 = .ok (.ireturn, 1) := by decide +kernel
theorem dX8_gather_0 : decode cX8_gather 0 = .ok (.aload_n 0, 1) := by decide +kernel
theorem dX8_gather_1 : decode cX8_gather 1 = .ok (.iconst 0, 1) := by decide +kernel
theorem dX8_gather_2 : decode cX8_gather 2 = .ok (.putfield 48, 3) := by decide +kernel
theorem dX8_gather_5 : decode cX8_gather 5 = .ok (.iload_n 1, 1) := by decide +kernel
theorem dX8_gather_6 : decode cX8_gather 6 = .ok (.invokestatic 102, 3) := by decide +kernel
theorem dX8_gather_9 : decode cX8_gather 9 = .ok (.ifCond .eq 17, 3) := by decide +kernel
theorem dX8_gather_12 : decode cX8_gather 12 = .ok (.iload_n 2, 1) := by decide +kernel
theorem dX8_gather_13 : decode cX8_gather 13 = .ok (.invokestatic 102, 3) := by decide +kernel
theorem dX8_gather_16 : decode cX8_gather 16 = .ok (.ifCond .eq 10, 3) := by decide +kernel
theorem dX8_gather_19 : decode cX8_gather 19 = .ok (.iload_n 3, 1) := by decide +kernel
theorem dX8_gather_20 : decode cX8_gather 20 = .ok (.invokestatic 102, 3) := by decide +kernel
theorem dX8_gather_23 : decode cX8_gather 23 = .ok (.ifCond .ne 9, 3) := by decide +kernel
theorem dX8_gather_26 : decode cX8_gather 26 = .ok (.aload_n 0, 1) := by decide +kernel
theorem dX8_gather_27 : decode cX8_gather 27 = .ok (.iconst 1, 1) := by decide +kernel
theorem dX8_gather_28 : decode cX8_gather 28 = .ok (.invokevirtual 105, 3) := by decide +kernel
theorem dX8_gather_31 : decode cX8_gather 31 = .ok (.ireturn, 1) := by decide +kernel
theorem dX8_gather_32 : decode cX8_gather 32 = .ok (.aload_n 0, 1) := by decide +kernel
theorem dX8_gather_33 : decode cX8_gather 33 = .ok (.iload_n 1, 1) := by decide +kernel
theorem dX8_gather_34 : decode cX8_gather 34 = .ok (.iload_n 2, 1) := by decide +kernel
theorem dX8_gather_35 : decode cX8_gather 35 = .ok (.iload_n 3, 1) := by decide +kernel
theorem dX8_gather_36 : decode cX8_gather 36 = .ok (.invokevirtual 154, 3) := by decide +kernel
theorem dX8_gather_39 : decode cX8_gather 39 = .ok (.istore 4, 2) := by decide +kernel
theorem dX8_gather_41 : decode cX8_gather 41 = .ok (.iload 4, 2) := by decide +kernel
theorem dX8_gather_43 : decode cX8_gather 43 = .ok (.ifCond .le 10, 3) := by decide +kernel
theorem dX8_gather_46 : decode cX8_gather 46 = .ok (.aload_n 0, 1) := by decide +kernel
theorem dX8_gather_47 : decode cX8_gather 47 = .ok (.iload 4, 2) := by decide +kernel
theorem dX8_gather_49 : decode cX8_gather 49 = .ok (.invokevirtual 105, 3) := by decide +kernel
theorem dX8_gather_52 : decode cX8_gather 52 = .ok (.ireturn, 1) := by decide +kernel
theorem dX8_gather_53 : decode cX8_gather 53 = .ok (.aload_n 0, 1) := by decide +kernel
theorem dX8_gather_54 : decode cX8_gather 54 = .ok (.aload_n 0, 1) := by decide +kernel
theorem dX8_gather_55 : decode cX8_gather 55 = .ok (.iload_n 2, 1) := by decide +kernel
theorem dX8_gather_56 : decode cX8_gather 56 = .ok (.invokevirtual 56, 3) := by decide +kernel
theorem dX8_gather_59 : decode cX8_gather 59 = .ok (.invokevirtual 160, 3) := by decide +kernel
theorem dX8_gather_62 : decode cX8_gather 62 = .ok (.ifCond .ne 10, 3) := by decide +kernel
theorem dX8_gather_65 : decode cX8_gather 65 = .ok (.aload_n 0, 1) := by decide +kernel
theorem dX8_gather_66 : decode cX8_gather 66 = .ok (.bipush 6, 2) := by decide +kernel
theorem dX8_gather_68 : decode cX8_gather 68 = .ok (.invokevirtual 105, 3) := by decide +kernel
theorem dX8_gather_71 : decode cX8_gather 71 = .ok (.ireturn, 1) := by decide +kernel
theorem dX8_gather_72 : decode cX8_gather 72 = .ok (.aload_n 0, 1) := by decide +kernel
theorem dX8_gather_73 : decode cX8_gather 73 = .ok (.getfield 16, 3) := by decide +kernel
theorem dX8_gather_76 : decode cX8_gather 76 = .ok (.aload_n 0, 1) := by decide +kernel
theorem dX8_gather_77 : decode cX8_gather 77 = .ok (.iload_n 2, 1) := by decide +kernel
theorem dX8_gather_78 : decode cX8_gather 78 = .ok (.invokevirtual 56, 3) := by decide +kernel
theorem dX8_gather_81 : decode cX8_gather 81 = .ok (.iaload, 1) := by decide +kernel
theorem dX8_gather_82 : decode cX8_gather 82 = .ok (.istore 5, 2) := by decide +kernel
theorem dX8_gather_84 : decode cX8_gather 84 = .ok (.iload 5, 2) := by decide +kernel
theorem dX8_gather_86 : decode cX8_gather 86 = .ok (.aload_n 0, 1) := by decide +kernel
theorem dX8_gather_87 : decode cX8_gather 87 = .ok (.getfield 16, 3) := by decide +kernel
theorem dX8_gather_90 : decode cX8_gather 90 = .ok (.aload_n 0, 1) := by decide +kernel
theorem dX8_gather_91 : decode cX8_gather 91 = .ok (.iload_n 3, 1) := by decide +kernel
theorem dX8_gather_92 : decode cX8_gather 92 = .ok (.invokevirtual 56, 3) := by decide +kernel
theorem dX8_gather_95 : decode cX8_gather 95 = .ok (.iaload, 1) := by decide +kernel
theorem dX8_gather_96 : decode cX8_gather 96 = .ok (.if_icmp .eq 9, 3) := by decide +kernel
theorem dX8_gather_99 : decode cX8_gather 99 = .ok (.aload_n 0, 1) := by decide +kernel
theorem dX8_gather_100 : decode cX8_gather 100 = .ok (.iconst 4, 1) := by decide +kernel
theorem dX8_gather_101 : decode cX8_gather 101 = .ok (.invokevirtual 105, 3) := by decide +kernel
theorem dX8_gather_104 : decode cX8_gather 104 = .ok (.ireturn, 1) := by decide +kernel
theorem dX8_gather_105 : decode cX8_gather 105 = .ok (.iconst 0, 1) := by decide +kernel
theorem dX8_gather_106 : decode cX8_gather 106 = .ok (.istore 6, 2) := by decide +kernel
theorem dX8_gather_108 : decode cX8_gather 108 = .ok (.iload 6, 2) := by decide +kernel
theorem dX8_gather_110 : decode cX8_gather 110 = .ok (.iload 5, 2) := by decide +kernel
theorem dX8_gather_112 : decode cX8_gather 112 = .ok (.if_icmp .ge 42, 3) := by decide +kernel
theorem dX8_gather_115 : decode cX8_gather 115 = .ok (.aload_n 0, 1) := by decide +kernel
theorem dX8_gather_116 : decode cX8_gather 116 = .ok (.getfield 42, 3) := by decide +kernel
theorem dX8_gather_119 : decode cX8_gather 119 = .ok (.iload 6, 2) := by decide +kernel
theorem dX8_gather_121 : decode cX8_gather 121 = .ok (.aload_n 0, 1) := by decide +kernel
theorem dX8_gather_122 : decode cX8_gather 122 = .ok (.getfield 22, 3) := by decide +kernel
theorem dX8_gather_125 : decode cX8_gather 125 = .ok (.bipush 24, 2) := by decide +kernel
theorem dX8_gather_127 : decode cX8_gather 127 = .ok (.aload_n 0, 1) := by decide +kernel
theorem dX8_gather_128 : decode cX8_gather 128 = .ok (.iload_n 2, 1) := by decide +kernel
theorem dX8_gather_129 : decode cX8_gather 129 = .ok (.invokevirtual 56, 3) := by decide +kernel
theorem dX8_gather_132 : decode cX8_gather 132 = .ok (.imul, 1) := by decide +kernel
theorem dX8_gather_133 : decode cX8_gather 133 = .ok (.iload 6, 2) := by decide +kernel
theorem dX8_gather_135 : decode cX8_gather 135 = .ok (.iadd, 1) := by decide +kernel
theorem dX8_gather_136 : decode cX8_gather 136 = .ok (.laload, 1) := by decide +kernel
theorem dX8_gather_137 : decode cX8_gather 137 = .ok (.l2i, 1) := by decide +kernel
theorem dX8_gather_138 : decode cX8_gather 138 = .ok (.iastore, 1) := by decide +kernel
theorem dX8_gather_139 : decode cX8_gather 139 = .ok (.aload_n 0, 1) := by decide +kernel
theorem dX8_gather_140 : decode cX8_gather 140 = .ok (.getfield 45, 3) := by decide +kernel
theorem dX8_gather_143 : decode cX8_gather 143 = .ok (.iload 6, 2) := by decide +kernel
theorem dX8_gather_145 : decode cX8_gather 145 = .ok (.iload 6, 2) := by decide +kernel
theorem dX8_gather_147 : decode cX8_gather 147 = .ok (.iastore, 1) := by decide +kernel
theorem dX8_gather_148 : decode cX8_gather 148 = .ok (.iinc 6 1, 3) := by decide +kernel
theorem dX8_gather_151 : decode cX8_gather 151 = .ok (.goto (-43), 3) := by decide +kernel
theorem dX8_gather_154 : decode cX8_gather 154 = .ok (.aload_n 0, 1) := by decide +kernel
theorem dX8_gather_155 : decode cX8_gather 155 = .ok (.aload_n 0, 1) := by decide +kernel
theorem dX8_gather_156 : decode cX8_gather 156 = .ok (.iload_n 1, 1) := by decide +kernel
theorem dX8_gather_157 : decode cX8_gather 157 = .ok (.invokevirtual 56, 3) := by decide +kernel
theorem dX8_gather_160 : decode cX8_gather 160 = .ok (.aload_n 0, 1) := by decide +kernel
theorem dX8_gather_161 : decode cX8_gather 161 = .ok (.iload_n 3, 1) := by decide +kernel
theorem dX8_gather_162 : decode cX8_gather 162 = .ok (.invokevirtual 56, 3) := by decide +kernel
theorem dX8_gather_165 : decode cX8_gather 165 = .ok (.iload 5, 2) := by decide +kernel
theorem dX8_gather_167 : decode cX8_gather 167 = .ok (.invokevirtual 157, 3) := by decide +kernel
theorem dX8_gather_170 : decode cX8_gather 170 = .ok (.ireturn, 1) := by decide +kernel
theorem dX8_scatter_0 : decode cX8_scatter 0 = .ok (.aload_n 0, 1) := by decide +kernel
theorem dX8_scatter_1 : decode cX8_scatter 1 = .ok (.iconst 0, 1) := by decide +kernel
theorem dX8_scatter_2 : decode cX8_scatter 2 = .ok (.putfield 48, 3) := by decide +kernel
theorem dX8_scatter_5 : decode cX8_scatter 5 = .ok (.iload_n 1, 1) := by decide +kernel
theorem dX8_scatter_6 : decode cX8_scatter 6 = .ok (.invokestatic 102, 3) := by decide +kernel
theorem dX8_scatter_9 : decode cX8_scatter 9 = .ok (.ifCond .eq 17, 3) := by decide +kernel
theorem dX8_scatter_12 : decode cX8_scatter 12 = .ok (.iload_n 2, 1) := by decide +kernel
theorem dX8_scatter_13 : decode cX8_scatter 13 = .ok (.invokestatic 102, 3) := by decide +kernel
theorem dX8_scatter_16 : decode cX8_scatter 16 = .ok (.ifCond .eq 10, 3) := by decide +kernel
theorem dX8_scatter_19 : decode cX8_scatter 19 = .ok (.iload_n 3, 1) := by decide +kernel
theorem dX8_scatter_20 : decode cX8_scatter 20 = .ok (.invokestatic 102, 3) := by decide +kernel
theorem dX8_scatter_23 : decode cX8_scatter 23 = .ok (.ifCond .ne 9, 3) := by decide +kernel
theorem dX8_scatter_26 : decode cX8_scatter 26 = .ok (.aload_n 0, 1) := by decide +kernel
theorem dX8_scatter_27 : decode cX8_scatter 27 = .ok (.iconst 1, 1) := by decide +kernel
theorem dX8_scatter_28 : decode cX8_scatter 28 = .ok (.invokevirtual 105, 3) := by decide +kernel
theorem dX8_scatter_31 : decode cX8_scatter 31 = .ok (.ireturn, 1) := by decide +kernel
theorem dX8_scatter_32 : decode cX8_scatter 32 = .ok (.aload_n 0, 1) := by decide +kernel
theorem dX8_scatter_33 : decode cX8_scatter 33 = .ok (.iload_n 1, 1) := by decide +kernel
theorem dX8_scatter_34 : decode cX8_scatter 34 = .ok (.iload_n 2, 1) := by decide +kernel
theorem dX8_scatter_35 : decode cX8_scatter 35 = .ok (.iload_n 3, 1) := by decide +kernel
theorem dX8_scatter_36 : decode cX8_scatter 36 = .ok (.invokevirtual 154, 3) := by decide +kernel
theorem dX8_scatter_39 : decode cX8_scatter 39 = .ok (.istore 4, 2) := by decide +kernel
theorem dX8_scatter_41 : decode cX8_scatter 41 = .ok (.iload 4, 2) := by decide +kernel
theorem dX8_scatter_43 : decode cX8_scatter 43 = .ok (.ifCond .le 10, 3) := by decide +kernel
theorem dX8_scatter_46 : decode cX8_scatter 46 = .ok (.aload_n 0, 1) := by decide +kernel
theorem dX8_scatter_47 : decode cX8_scatter 47 = .ok (.iload 4, 2) := by decide +kernel
theorem dX8_scatter_49 : decode cX8_scatter 49 = .ok (.invokevirtual 105, 3) := by decide +kernel
theorem dX8_scatter_52 : decode cX8_scatter 52 = .ok (.ireturn, 1) := by decide +kernel
theorem dX8_scatter_53 : decode cX8_scatter 53 = .ok (.aload_n 0, 1) := by decide +kernel
theorem dX8_scatter_54 : decode cX8_scatter 54 = .ok (.aload_n 0, 1) := by decide +kernel
theorem dX8_scatter_55 : decode cX8_scatter 55 = .ok (.iload_n 2, 1) := by decide +kernel
theorem dX8_scatter_56 : decode cX8_scatter 56 = .ok (.invokevirtual 56, 3) := by decide +kernel
theorem dX8_scatter_59 : decode cX8_scatter 59 = .ok (.invokevirtual 160, 3) := by decide +kernel
theorem dX8_scatter_62 : decode cX8_scatter 62 = .ok (.ifCond .ne 10, 3) := by decide +kernel
theorem dX8_scatter_65 : decode cX8_scatter 65 = .ok (.aload_n 0, 1) := by decide +kernel
theorem dX8_scatter_66 : decode cX8_scatter 66 = .ok (.bipush 6, 2) := by decide +kernel
theorem dX8_scatter_68 : decode cX8_scatter 68 = .ok (.invokevirtual 105, 3) := by decide +kernel
theorem dX8_scatter_71 : decode cX8_scatter 71 = .ok (.ireturn, 1) := by decide +kernel
theorem dX8_scatter_72 : decode cX8_scatter 72 = .ok (.aload_n 0, 1) := by decide +kernel
theorem dX8_scatter_73 : decode cX8_scatter 73 = .ok (.getfield 16, 3) := by decide +kernel
theorem dX8_scatter_76 : decode cX8_scatter 76 = .ok (.aload_n 0, 1) := by decide +kernel
theorem dX8_scatter_77 : decode cX8_scatter 77 = .ok (.iload_n 2, 1) := by decide +kernel
theorem dX8_scatter_78 : decode cX8_scatter 78 = .ok (.invokevirtual 56, 3) := by decide +kernel
theorem dX8_scatter_81 : decode cX8_scatter 81 = .ok (.iaload, 1) := by decide +kernel
theorem dX8_scatter_82 : decode cX8_scatter 82 = .ok (.istore 5, 2) := by decide +kernel
theorem dX8_scatter_84 : decode cX8_scatter 84 = .ok (.iload 5, 2) := by decide +kernel
theorem dX8_scatter_86 : decode cX8_scatter 86 = .ok (.aload_n 0, 1) := by decide +kernel
theorem dX8_scatter_87 : decode cX8_scatter 87 = .ok (.getfield 16, 3) := by decide +kernel
theorem dX8_scatter_90 : decode cX8_scatter 90 = .ok (.aload_n 0, 1) := by decide +kernel
theorem dX8_scatter_91 : decode cX8_scatter 91 = .ok (.iload_n 1, 1) := by decide +kernel
theorem dX8_scatter_92 : decode cX8_scatter 92 = .ok (.invokevirtual 56, 3) := by decide +kernel
theorem dX8_scatter_95 : decode cX8_scatter 95 = .ok (.iaload, 1) := by decide +kernel
theorem dX8_scatter_96 : decode cX8_scatter 96 = .ok (.if_icmp .eq 9, 3) := by decide +kernel
theorem dX8_scatter_99 : decode cX8_scatter 99 = .ok (.aload_n 0, 1) := by decide +kernel
theorem dX8_scatter_100 : decode cX8_scatter 100 = .ok (.iconst 4, 1) := by decide +kernel
theorem dX8_scatter_101 : decode cX8_scatter 101 = .ok (.invokevirtual 105, 3) := by decide +kernel
theorem dX8_scatter_104 : decode cX8_scatter 104 = .ok (.ireturn, 1) := by decide +kernel
theorem dX8_scatter_105 : decode cX8_scatter 105 = .ok (.iconst 0, 1) := by decide +kernel
theorem dX8_scatter_106 : decode cX8_scatter 106 = .ok (.istore 6, 2) := by decide +kernel
theorem dX8_scatter_108 : decode cX8_scatter 108 = .ok (.iload 6, 2) := by decide +kernel
theorem dX8_scatter_110 : decode cX8_scatter 110 = .ok (.iload 5, 2) := by decide +kernel
theorem dX8_scatter_112 : decode cX8_scatter 112 = .ok (.if_icmp .ge 42, 3) := by decide +kernel
theorem dX8_scatter_115 : decode cX8_scatter 115 = .ok (.aload_n 0, 1) := by decide +kernel
theorem dX8_scatter_116 : decode cX8_scatter 116 = .ok (.getfield 42, 3) := by decide +kernel
theorem dX8_scatter_119 : decode cX8_scatter 119 = .ok (.iload 6, 2) := by decide +kernel
theorem dX8_scatter_121 : decode cX8_scatter 121 = .ok (.iload 6, 2) := by decide +kernel
theorem dX8_scatter_123 : decode cX8_scatter 123 = .ok (.iastore, 1) := by decide +kernel
theorem dX8_scatter_124 : decode cX8_scatter 124 = .ok (.aload_n 0, 1) := by decide +kernel
theorem dX8_scatter_125 : decode cX8_scatter 125 = .ok (.getfield 45, 3) := by decide +kernel
theorem dX8_scatter_128 : decode cX8_scatter 128 = .ok (.iload 6, 2) := by decide +kernel
theorem dX8_scatter_130 : decode cX8_scatter 130 = .ok (.aload_n 0, 1) := by decide +kernel
theorem dX8_scatter_131 : decode cX8_scatter 131 = .ok (.getfield 22, 3) := by decide +kernel
theorem dX8_scatter_134 : decode cX8_scatter 134 = .ok (.bipush 24, 2) := by decide +kernel
theorem dX8_scatter_136 : decode cX8_scatter 136 = .ok (.aload_n 0, 1) := by decide +kernel
theorem dX8_scatter_137 : decode cX8_scatter 137 = .ok (.iload_n 2, 1) := by decide +kernel
theorem dX8_scatter_138 : decode cX8_scatter 138 = .ok (.invokevirtual 56, 3) := by decide +kernel
theorem dX8_scatter_141 : decode cX8_scatter 141 = .ok (.imul, 1) := by decide +kernel
theorem dX8_scatter_142 : decode cX8_scatter 142 = .ok (.iload 6, 2) := by decide +kernel
theorem dX8_scatter_144 : decode cX8_scatter 144 = .ok (.iadd, 1) := by decide +kernel
theorem dX8_scatter_145 : decode cX8_scatter 145 = .ok (.laload, 1) := by decide +kernel
theorem dX8_scatter_146 : decode cX8_scatter 146 = .ok (.l2i, 1) := by decide +kernel
theorem dX8_scatter_147 : decode cX8_scatter 147 = .ok (.iastore, 1) := by decide +kernel
theorem dX8_scatter_148 : decode cX8_scatter 148 = .ok (.iinc 6 1, 3) := by decide +kernel
theorem dX8_scatter_151 : decode cX8_scatter 151 = .ok (.goto (-43), 3) := by decide +kernel
theorem dX8_scatter_154 : decode cX8_scatter 154 = .ok (.aload_n 0, 1) := by decide +kernel
theorem dX8_scatter_155 : decode cX8_scatter 155 = .ok (.aload_n 0, 1) := by decide +kernel
theorem dX8_scatter_156 : decode cX8_scatter 156 = .ok (.iload_n 1, 1) := by decide +kernel
theorem dX8_scatter_157 : decode cX8_scatter 157 = .ok (.invokevirtual 56, 3) := by decide +kernel
theorem dX8_scatter_160 : decode cX8_scatter 160 = .ok (.aload_n 0, 1) := by decide +kernel
theorem dX8_scatter_161 : decode cX8_scatter 161 = .ok (.iload_n 3, 1) := by decide +kernel
theorem dX8_scatter_162 : decode cX8_scatter 162 = .ok (.invokevirtual 56, 3) := by decide +kernel
theorem dX8_scatter_165 : decode cX8_scatter 165 = .ok (.iload 5, 2) := by decide +kernel
theorem dX8_scatter_167 : decode cX8_scatter 167 = .ok (.invokevirtual 157, 3) := by decide +kernel
theorem dX8_scatter_170 : decode cX8_scatter 170 = .ok (.ireturn, 1) := by decide +kernel
theorem dX8_mergeAll_0 : decode cX8_mergeAll 0 = .ok (.iconst 0, 1) := by decide +kernel
theorem dX8_mergeAll_1 : decode cX8_mergeAll 1 = .ok (.istore_n 3, 1) := by decide +kernel
theorem dX8_mergeAll_2 : decode cX8_mergeAll 2 = .ok (.iconst 0, 1) := by decide +kernel
theorem dX8_mergeAll_3 : decode cX8_mergeAll 3 = .ok (.istore 4, 2) := by decide +kernel
theorem dX8_mergeAll_5 : decode cX8_mergeAll 5 = .ok (.iload_n 3, 1) := by decide +kernel
theorem dX8_mergeAll_6 : decode cX8_mergeAll 6 = .ok (.aload_n 0, 1) := by decide +kernel
theorem dX8_mergeAll_7 : decode cX8_mergeAll 7 = .ok (.getfield 16, 3) := by decide +kernel
theorem dX8_mergeAll_10 : decode cX8_mergeAll 10 = .ok (.iload_n 1, 1) := by decide +kernel
theorem dX8_mergeAll_11 : decode cX8_mergeAll 11 = .ok (.iaload, 1) := by decide +kernel
theorem dX8_mergeAll_12 : decode cX8_mergeAll 12 = .ok (.if_icmp .lt 14, 3) := by decide +kernel
theorem dX8_mergeAll_15 : decode cX8_mergeAll 15 = .ok (.iload 4, 2) := by decide +kernel
theorem dX8_mergeAll_17 : decode cX8_mergeAll 17 = .ok (.aload_n 0, 1) := by decide +kernel
theorem dX8_mergeAll_18 : decode cX8_mergeAll 18 = .ok (.getfield 16, 3) := by decide +kernel
theorem dX8_mergeAll_21 : decode cX8_mergeAll 21 = .ok (.iload_n 2, 1) := by decide +kernel
theorem dX8_mergeAll_22 : decode cX8_mergeAll 22 = .ok (.iaload, 1) := by decide +kernel
theorem dX8_mergeAll_23 : decode cX8_mergeAll 23 = .ok (.if_icmp .ge 177, 3) := by decide +kernel
theorem dX8_mergeAll_26 : decode cX8_mergeAll 26 = .ok (.iload_n 3, 1) := by decide +kernel
theorem dX8_mergeAll_27 : decode cX8_mergeAll 27 = .ok (.aload_n 0, 1) := by decide +kernel
theorem dX8_mergeAll_28 : decode cX8_mergeAll 28 = .ok (.getfield 16, 3) := by decide +kernel
theorem dX8_mergeAll_31 : decode cX8_mergeAll 31 = .ok (.iload_n 1, 1) := by decide +kernel
theorem dX8_mergeAll_32 : decode cX8_mergeAll 32 = .ok (.iaload, 1) := by decide +kernel
theorem dX8_mergeAll_33 : decode cX8_mergeAll 33 = .ok (.if_icmp .ne 7, 3) := by decide +kernel
theorem dX8_mergeAll_36 : decode cX8_mergeAll 36 = .ok (.iconst 1, 1) := by decide +kernel
theorem dX8_mergeAll_37 : decode cX8_mergeAll 37 = .ok (.goto 4, 3) := by decide +kernel
theorem dX8_mergeAll_40 : decode cX8_mergeAll 40 = .ok (.iconst 0, 1) := by decide +kernel
theorem dX8_mergeAll_41 : decode cX8_mergeAll 41 = .ok (.istore 5, 2) := by decide +kernel
theorem dX8_mergeAll_43 : decode cX8_mergeAll 43 = .ok (.iload 5, 2) := by decide +kernel
theorem dX8_mergeAll_45 : decode cX8_mergeAll 45 = .ok (.ifCond .ne 64, 3) := by decide +kernel
theorem dX8_mergeAll_48 : decode cX8_mergeAll 48 = .ok (.iload 4, 2) := by decide +kernel
theorem dX8_mergeAll_50 : decode cX8_mergeAll 50 = .ok (.aload_n 0, 1) := by decide +kernel
theorem dX8_mergeAll_51 : decode cX8_mergeAll 51 = .ok (.getfield 16, 3) := by decide +kernel
theorem dX8_mergeAll_54 : decode cX8_mergeAll 54 = .ok (.iload_n 2, 1) := by decide +kernel
theorem dX8_mergeAll_55 : decode cX8_mergeAll 55 = .ok (.iaload, 1) := by decide +kernel
theorem dX8_mergeAll_56 : decode cX8_mergeAll 56 = .ok (.if_icmp .ge 53, 3) := by decide +kernel
theorem dX8_mergeAll_59 : decode cX8_mergeAll 59 = .ok (.aload_n 0, 1) := by decide +kernel
theorem dX8_mergeAll_60 : decode cX8_mergeAll 60 = .ok (.iload_n 2, 1) := by decide +kernel
theorem dX8_mergeAll_61 : decode cX8_mergeAll 61 = .ok (.iload 4, 2) := by decide +kernel
theorem dX8_mergeAll_63 : decode cX8_mergeAll 63 = .ok (.invokevirtual 143, 3) := by decide +kernel
theorem dX8_mergeAll_66 : decode cX8_mergeAll 66 = .ok (.aload_n 0, 1) := by decide +kernel
theorem dX8_mergeAll_67 : decode cX8_mergeAll 67 = .ok (.aload_n 0, 1) := by decide +kernel
theorem dX8_mergeAll_68 : decode cX8_mergeAll 68 = .ok (.getfield 13, 3) := by decide +kernel
theorem dX8_mergeAll_71 : decode cX8_mergeAll 71 = .ok (.iload_n 1, 1) := by decide +kernel
theorem dX8_mergeAll_72 : decode cX8_mergeAll 72 = .ok (.iaload, 1) := by decide +kernel
theorem dX8_mergeAll_73 : decode cX8_mergeAll 73 = .ok (.aload_n 0, 1) := by decide +kernel
theorem dX8_mergeAll_74 : decode cX8_mergeAll 74 = .ok (.getfield 22, 3) := by decide +kernel
theorem dX8_mergeAll_77 : decode cX8_mergeAll 77 = .ok (.bipush 24, 2) := by decide +kernel
theorem dX8_mergeAll_79 : decode cX8_mergeAll 79 = .ok (.iload_n 1, 1) := by decide +kernel
theorem dX8_mergeAll_80 : decode cX8_mergeAll 80 = .ok (.imul, 1) := by decide +kernel
theorem dX8_mergeAll_81 : decode cX8_mergeAll 81 = .ok (.iload_n 3, 1) := by decide +kernel
theorem dX8_mergeAll_82 : decode cX8_mergeAll 82 = .ok (.iadd, 1) := by decide +kernel
theorem dX8_mergeAll_83 : decode cX8_mergeAll 83 = .ok (.laload, 1) := by decide +kernel
theorem dX8_mergeAll_84 : decode cX8_mergeAll 84 = .ok (.aload_n 0, 1) := by decide +kernel
theorem dX8_mergeAll_85 : decode cX8_mergeAll 85 = .ok (.getfield 26, 3) := by decide +kernel
theorem dX8_mergeAll_88 : decode cX8_mergeAll 88 = .ok (.bipush 24, 2) := by decide +kernel
theorem dX8_mergeAll_90 : decode cX8_mergeAll 90 = .ok (.iload_n 1, 1) := by decide +kernel
theorem dX8_mergeAll_91 : decode cX8_mergeAll 91 = .ok (.imul, 1) := by decide +kernel
theorem dX8_mergeAll_92 : decode cX8_mergeAll 92 = .ok (.iload_n 3, 1) := by decide +kernel
theorem dX8_mergeAll_93 : decode cX8_mergeAll 93 = .ok (.iadd, 1) := by decide +kernel
theorem dX8_mergeAll_94 : decode cX8_mergeAll 94 = .ok (.daload, 1) := by decide +kernel
theorem dX8_mergeAll_95 : decode cX8_mergeAll 95 = .ok (.invokevirtual 163, 3) := by decide +kernel
theorem dX8_mergeAll_98 : decode cX8_mergeAll 98 = .ok (.iconst (-1), 1) := by decide +kernel
theorem dX8_mergeAll_99 : decode cX8_mergeAll 99 = .ok (.if_icmp .ne 7, 3) := by decide +kernel
theorem dX8_mergeAll_102 : decode cX8_mergeAll 102 = .ok (.iconst 1, 1) := by decide +kernel
theorem dX8_mergeAll_103 : decode cX8_mergeAll 103 = .ok (.goto 4, 3) := by decide +kernel
theorem dX8_mergeAll_106 : decode cX8_mergeAll 106 = .ok (.iconst 0, 1) := by decide +kernel
theorem dX8_mergeAll_107 : decode cX8_mergeAll 107 = .ok (.istore 5, 2) := by decide +kernel
theorem dX8_mergeAll_109 : decode cX8_mergeAll 109 = .ok (.iload 5, 2) := by decide +kernel
theorem dX8_mergeAll_111 : decode cX8_mergeAll 111 = .ok (.ifCond .eq 13, 3) := by decide +kernel
theorem dX8_mergeAll_114 : decode cX8_mergeAll 114 = .ok (.aload_n 0, 1) := by decide +kernel
theorem dX8_mergeAll_115 : decode cX8_mergeAll 115 = .ok (.iload_n 2, 1) := by decide +kernel
theorem dX8_mergeAll_116 : decode cX8_mergeAll 116 = .ok (.iload 4, 2) := by decide +kernel
theorem dX8_mergeAll_118 : decode cX8_mergeAll 118 = .ok (.invokevirtual 143, 3) := by decide +kernel
theorem dX8_mergeAll_121 : decode cX8_mergeAll 121 = .ok (.goto 9, 3) := by decide +kernel
theorem dX8_mergeAll_124 : decode cX8_mergeAll 124 = .ok (.aload_n 0, 1) := by decide +kernel
theorem dX8_mergeAll_125 : decode cX8_mergeAll 125 = .ok (.iload_n 1, 1) := by decide +kernel
theorem dX8_mergeAll_126 : decode cX8_mergeAll 126 = .ok (.iload_n 3, 1) := by decide +kernel
theorem dX8_mergeAll_127 : decode cX8_mergeAll 127 = .ok (.invokevirtual 143, 3) := by decide +kernel
theorem dX8_mergeAll_130 : decode cX8_mergeAll 130 = .ok (.aload_n 0, 1) := by decide +kernel
theorem dX8_mergeAll_131 : decode cX8_mergeAll 131 = .ok (.getfield 33, 3) := by decide +kernel
theorem dX8_mergeAll_134 : decode cX8_mergeAll 134 = .ok (.iload_n 3, 1) := by decide +kernel
theorem dX8_mergeAll_135 : decode cX8_mergeAll 135 = .ok (.iload 4, 2) := by decide +kernel
theorem dX8_mergeAll_137 : decode cX8_mergeAll 137 = .ok (.iadd, 1) := by decide +kernel
theorem dX8_mergeAll_138 : decode cX8_mergeAll 138 = .ok (.aload_n 0, 1) := by decide +kernel
theorem dX8_mergeAll_139 : decode cX8_mergeAll 139 = .ok (.getfield 66, 3) := by decide +kernel
theorem dX8_mergeAll_142 : decode cX8_mergeAll 142 = .ok (.iastore, 1) := by decide +kernel
theorem dX8_mergeAll_143 : decode cX8_mergeAll 143 = .ok (.aload_n 0, 1) := by decide +kernel
theorem dX8_mergeAll_144 : decode cX8_mergeAll 144 = .ok (.getfield 36, 3) := by decide +kernel
theorem dX8_mergeAll_147 : decode cX8_mergeAll 147 = .ok (.iload_n 3, 1) := by decide +kernel
theorem dX8_mergeAll_148 : decode cX8_mergeAll 148 = .ok (.iload 4, 2) := by decide +kernel
theorem dX8_mergeAll_150 : decode cX8_mergeAll 150 = .ok (.iadd, 1) := by decide +kernel
theorem dX8_mergeAll_151 : decode cX8_mergeAll 151 = .ok (.aload_n 0, 1) := by decide +kernel
theorem dX8_mergeAll_152 : decode cX8_mergeAll 152 = .ok (.getfield 69, 3) := by decide +kernel
theorem dX8_mergeAll_155 : decode cX8_mergeAll 155 = .ok (.lastore, 1) := by decide +kernel
theorem dX8_mergeAll_156 : decode cX8_mergeAll 156 = .ok (.aload_n 0, 1) := by decide +kernel
theorem dX8_mergeAll_157 : decode cX8_mergeAll 157 = .ok (.getfield 39, 3) := by decide +kernel
theorem dX8_mergeAll_160 : decode cX8_mergeAll 160 = .ok (.iload_n 3, 1) := by decide +kernel
theorem dX8_mergeAll_161 : decode cX8_mergeAll 161 = .ok (.iload 4, 2) := by decide +kernel
theorem dX8_mergeAll_163 : decode cX8_mergeAll 163 = .ok (.iadd, 1) := by decide +kernel
theorem dX8_mergeAll_164 : decode cX8_mergeAll 164 = .ok (.aload_n 0, 1) := by decide +kernel
theorem dX8_mergeAll_165 : decode cX8_mergeAll 165 = .ok (.getfield 73, 3) := by decide +kernel
theorem dX8_mergeAll_168 : decode cX8_mergeAll 168 = .ok (.dastore, 1) := by decide +kernel
theorem dX8_mergeAll_169 : decode cX8_mergeAll 169 = .ok (.iload_n 3, 1) := by decide +kernel
theorem dX8_mergeAll_170 : decode cX8_mergeAll 170 = .ok (.iload 5, 2) := by decide +kernel
theorem dX8_mergeAll_172 : decode cX8_mergeAll 172 = .ok (.ifCond .eq 7, 3) := by decide +kernel
theorem dX8_mergeAll_175 : decode cX8_mergeAll 175 = .ok (.iconst 0, 1) := by decide +kernel
theorem dX8_mergeAll_176 : decode cX8_mergeAll 176 = .ok (.goto 4, 3) := by decide +kernel
theorem dX8_mergeAll_179 : decode cX8_mergeAll 179 = .ok (.iconst 1, 1) := by decide +kernel
theorem dX8_mergeAll_180 : decode cX8_mergeAll 180 = .ok (.iadd, 1) := by decide +kernel
theorem dX8_mergeAll_181 : decode cX8_mergeAll 181 = .ok (.istore_n 3, 1) := by decide +kernel
theorem dX8_mergeAll_182 : decode cX8_mergeAll 182 = .ok (.iload 4, 2) := by decide +kernel
theorem dX8_mergeAll_184 : decode cX8_mergeAll 184 = .ok (.iload 5, 2) := by decide +kernel
theorem dX8_mergeAll_186 : decode cX8_mergeAll 186 = .ok (.ifCond .eq 7, 3) := by decide +kernel
theorem dX8_mergeAll_189 : decode cX8_mergeAll 189 = .ok (.iconst 1, 1) := by decide +kernel
theorem dX8_mergeAll_190 : decode cX8_mergeAll 190 = .ok (.goto 4, 3) := by decide +kernel
theorem dX8_mergeAll_193 : decode cX8_mergeAll 193 = .ok (.iconst 0, 1) := by decide +kernel
theorem dX8_mergeAll_194 : decode cX8_mergeAll 194 = .ok (.iadd, 1) := by decide +kernel
theorem dX8_mergeAll_195 : decode cX8_mergeAll 195 = .ok (.istore 4, 2) := by decide +kernel
theorem dX8_mergeAll_197 : decode cX8_mergeAll 197 = .ok (.goto (-192), 3) := by decide +kernel
theorem dX8_mergeAll_200 : decode cX8_mergeAll 200 = .ok (.return_, 1) := by decide +kernel
theorem dX8_merge_0 : decode cX8_merge 0 = .ok (.aload_n 0, 1) := by decide +kernel
theorem dX8_merge_1 : decode cX8_merge 1 = .ok (.iconst 0, 1) := by decide +kernel
theorem dX8_merge_2 : decode cX8_merge 2 = .ok (.putfield 48, 3) := by decide +kernel
theorem dX8_merge_5 : decode cX8_merge 5 = .ok (.iload_n 1, 1) := by decide +kernel
theorem dX8_merge_6 : decode cX8_merge 6 = .ok (.invokestatic 102, 3) := by decide +kernel
theorem dX8_merge_9 : decode cX8_merge 9 = .ok (.ifCond .eq 17, 3) := by decide +kernel
theorem dX8_merge_12 : decode cX8_merge 12 = .ok (.iload_n 2, 1) := by decide +kernel
theorem dX8_merge_13 : decode cX8_merge 13 = .ok (.invokestatic 102, 3) := by decide +kernel
theorem dX8_merge_16 : decode cX8_merge 16 = .ok (.ifCond .eq 10, 3) := by decide +kernel
theorem dX8_merge_19 : decode cX8_merge 19 = .ok (.iload_n 3, 1) := by decide +kernel
theorem dX8_merge_20 : decode cX8_merge 20 = .ok (.invokestatic 102, 3) := by decide +kernel
theorem dX8_merge_23 : decode cX8_merge 23 = .ok (.ifCond .ne 9, 3) := by decide +kernel
theorem dX8_merge_26 : decode cX8_merge 26 = .ok (.aload_n 0, 1) := by decide +kernel
theorem dX8_merge_27 : decode cX8_merge 27 = .ok (.iconst 1, 1) := by decide +kernel
theorem dX8_merge_28 : decode cX8_merge 28 = .ok (.invokevirtual 105, 3) := by decide +kernel
theorem dX8_merge_31 : decode cX8_merge 31 = .ok (.ireturn, 1) := by decide +kernel
theorem dX8_merge_32 : decode cX8_merge 32 = .ok (.aload_n 0, 1) := by decide +kernel
theorem dX8_merge_33 : decode cX8_merge 33 = .ok (.iload_n 1, 1) := by decide +kernel
theorem dX8_merge_34 : decode cX8_merge 34 = .ok (.iload_n 2, 1) := by decide +kernel
theorem dX8_merge_35 : decode cX8_merge 35 = .ok (.iload_n 3, 1) := by decide +kernel
theorem dX8_merge_36 : decode cX8_merge 36 = .ok (.invokevirtual 154, 3) := by decide +kernel
theorem dX8_merge_39 : decode cX8_merge 39 = .ok (.istore 4, 2) := by decide +kernel
theorem dX8_merge_41 : decode cX8_merge 41 = .ok (.iload 4, 2) := by decide +kernel
theorem dX8_merge_43 : decode cX8_merge 43 = .ok (.ifCond .le 10, 3) := by decide +kernel
theorem dX8_merge_46 : decode cX8_merge 46 = .ok (.aload_n 0, 1) := by decide +kernel
theorem dX8_merge_47 : decode cX8_merge 47 = .ok (.iload 4, 2) := by decide +kernel
theorem dX8_merge_49 : decode cX8_merge 49 = .ok (.invokevirtual 105, 3) := by decide +kernel
theorem dX8_merge_52 : decode cX8_merge 52 = .ok (.ireturn, 1) := by decide +kernel
theorem dX8_merge_53 : decode cX8_merge 53 = .ok (.aload_n 0, 1) := by decide +kernel
theorem dX8_merge_54 : decode cX8_merge 54 = .ok (.iload_n 1, 1) := by decide +kernel
theorem dX8_merge_55 : decode cX8_merge 55 = .ok (.invokevirtual 56, 3) := by decide +kernel
theorem dX8_merge_58 : decode cX8_merge 58 = .ok (.istore 5, 2) := by decide +kernel
theorem dX8_merge_60 : decode cX8_merge 60 = .ok (.aload_n 0, 1) := by decide +kernel
theorem dX8_merge_61 : decode cX8_merge 61 = .ok (.iload_n 2, 1) := by decide +kernel
theorem dX8_merge_62 : decode cX8_merge 62 = .ok (.invokevirtual 56, 3) := by decide +kernel
theorem dX8_merge_65 : decode cX8_merge 65 = .ok (.istore 6, 2) := by decide +kernel
theorem dX8_merge_67 : decode cX8_merge 67 = .ok (.aload_n 0, 1) := by decide +kernel
theorem dX8_merge_68 : decode cX8_merge 68 = .ok (.iload_n 3, 1) := by decide +kernel
theorem dX8_merge_69 : decode cX8_merge 69 = .ok (.invokevirtual 56, 3) := by decide +kernel
theorem dX8_merge_72 : decode cX8_merge 72 = .ok (.istore 7, 2) := by decide +kernel
theorem dX8_merge_74 : decode cX8_merge 74 = .ok (.aload_n 0, 1) := by decide +kernel
theorem dX8_merge_75 : decode cX8_merge 75 = .ok (.iload 5, 2) := by decide +kernel
theorem dX8_merge_77 : decode cX8_merge 77 = .ok (.invokevirtual 91, 3) := by decide +kernel
theorem dX8_merge_80 : decode cX8_merge 80 = .ok (.ifCond .eq 54, 3) := by decide +kernel
theorem dX8_merge_83 : decode cX8_merge 83 = .ok (.aload_n 0, 1) := by decide +kernel
theorem dX8_merge_84 : decode cX8_merge 84 = .ok (.iload 6, 2) := by decide +kernel
theorem dX8_merge_86 : decode cX8_merge 86 = .ok (.invokevirtual 91, 3) := by decide +kernel
theorem dX8_merge_89 : decode cX8_merge 89 = .ok (.ifCond .eq 45, 3) := by decide +kernel
theorem dX8_merge_92 : decode cX8_merge 92 = .ok (.aload_n 0, 1) := by decide +kernel
theorem dX8_merge_93 : decode cX8_merge 93 = .ok (.iload 7, 2) := by decide +kernel
theorem dX8_merge_95 : decode cX8_merge 95 = .ok (.invokevirtual 91, 3) := by decide +kernel
theorem dX8_merge_98 : decode cX8_merge 98 = .ok (.ifCond .eq 36, 3) := by decide +kernel
theorem dX8_merge_101 : decode cX8_merge 101 = .ok (.aload_n 0, 1) := by decide +kernel
theorem dX8_merge_102 : decode cX8_merge 102 = .ok (.getfield 13, 3) := by decide +kernel
theorem dX8_merge_105 : decode cX8_merge 105 = .ok (.iload 5, 2) := by decide +kernel
theorem dX8_merge_107 : decode cX8_merge 107 = .ok (.iaload, 1) := by decide +kernel
theorem dX8_merge_108 : decode cX8_merge 108 = .ok (.ifCond .ne 7, 3) := by decide +kernel
theorem dX8_merge_111 : decode cX8_merge 111 = .ok (.iconst 1, 1) := by decide +kernel
theorem dX8_merge_112 : decode cX8_merge 112 = .ok (.goto 4, 3) := by decide +kernel
theorem dX8_merge_115 : decode cX8_merge 115 = .ok (.iconst 0, 1) := by decide +kernel
theorem dX8_merge_116 : decode cX8_merge 116 = .ok (.aload_n 0, 1) := by decide +kernel
theorem dX8_merge_117 : decode cX8_merge 117 = .ok (.getfield 13, 3) := by decide +kernel
theorem dX8_merge_120 : decode cX8_merge 120 = .ok (.iload 6, 2) := by decide +kernel
theorem dX8_merge_122 : decode cX8_merge 122 = .ok (.iaload, 1) := by decide +kernel
theorem dX8_merge_123 : decode cX8_merge 123 = .ok (.ifCond .ne 7, 3) := by decide +kernel
theorem dX8_merge_126 : decode cX8_merge 126 = .ok (.iconst 1, 1) := by decide +kernel
theorem dX8_merge_127 : decode cX8_merge 127 = .ok (.goto 4, 3) := by decide +kernel
theorem dX8_merge_130 : decode cX8_merge 130 = .ok (.iconst 0, 1) := by decide +kernel
theorem dX8_merge_131 : decode cX8_merge 131 = .ok (.if_icmp .eq 10, 3) := by decide +kernel
theorem dX8_merge_134 : decode cX8_merge 134 = .ok (.aload_n 0, 1) := by decide +kernel
theorem dX8_merge_135 : decode cX8_merge 135 = .ok (.bipush 6, 2) := by decide +kernel
theorem dX8_merge_137 : decode cX8_merge 137 = .ok (.invokevirtual 105, 3) := by decide +kernel
theorem dX8_merge_140 : decode cX8_merge 140 = .ok (.ireturn, 1) := by decide +kernel
theorem dX8_merge_141 : decode cX8_merge 141 = .ok (.aload_n 0, 1) := by decide +kernel
theorem dX8_merge_142 : decode cX8_merge 142 = .ok (.getfield 16, 3) := by decide +kernel
theorem dX8_merge_145 : decode cX8_merge 145 = .ok (.iload 7, 2) := by decide +kernel
theorem dX8_merge_147 : decode cX8_merge 147 = .ok (.iaload, 1) := by decide +kernel
theorem dX8_merge_148 : decode cX8_merge 148 = .ok (.istore 8, 2) := by decide +kernel
theorem dX8_merge_150 : decode cX8_merge 150 = .ok (.iload 8, 2) := by decide +kernel
theorem dX8_merge_152 : decode cX8_merge 152 = .ok (.aload_n 0, 1) := by decide +kernel
theorem dX8_merge_153 : decode cX8_merge 153 = .ok (.getfield 16, 3) := by decide +kernel
theorem dX8_merge_156 : decode cX8_merge 156 = .ok (.iload 5, 2) := by decide +kernel
theorem dX8_merge_158 : decode cX8_merge 158 = .ok (.iaload, 1) := by decide +kernel
theorem dX8_merge_159 : decode cX8_merge 159 = .ok (.aload_n 0, 1) := by decide +kernel
theorem dX8_merge_160 : decode cX8_merge 160 = .ok (.getfield 16, 3) := by decide +kernel
theorem dX8_merge_163 : decode cX8_merge 163 = .ok (.iload 6, 2) := by decide +kernel
theorem dX8_merge_165 : decode cX8_merge 165 = .ok (.iaload, 1) := by decide +kernel
theorem dX8_merge_166 : decode cX8_merge 166 = .ok (.iadd, 1) := by decide +kernel
theorem dX8_merge_167 : decode cX8_merge 167 = .ok (.if_icmp .eq 9, 3) := by decide +kernel
theorem dX8_merge_170 : decode cX8_merge 170 = .ok (.aload_n 0, 1) := by decide +kernel
theorem dX8_merge_171 : decode cX8_merge 171 = .ok (.iconst 4, 1) := by decide +kernel
theorem dX8_merge_172 : decode cX8_merge 172 = .ok (.invokevirtual 105, 3) := by decide +kernel
theorem dX8_merge_175 : decode cX8_merge 175 = .ok (.ireturn, 1) := by decide +kernel
theorem dX8_merge_176 : decode cX8_merge 176 = .ok (.aload_n 0, 1) := by decide +kernel
theorem dX8_merge_177 : decode cX8_merge 177 = .ok (.iload 5, 2) := by decide +kernel
theorem dX8_merge_179 : decode cX8_merge 179 = .ok (.iload 6, 2) := by decide +kernel
theorem dX8_merge_181 : decode cX8_merge 181 = .ok (.invokevirtual 167, 3) := by decide +kernel
theorem dX8_merge_184 : decode cX8_merge 184 = .ok (.iconst 0, 1) := by decide +kernel
theorem dX8_merge_185 : decode cX8_merge 185 = .ok (.istore 9, 2) := by decide +kernel
theorem dX8_merge_187 : decode cX8_merge 187 = .ok (.iload 9, 2) := by decide +kernel
theorem dX8_merge_189 : decode cX8_merge 189 = .ok (.iload 8, 2) := by decide +kernel
theorem dX8_merge_191 : decode cX8_merge 191 = .ok (.if_icmp .ge 36, 3) := by decide +kernel
theorem dX8_merge_194 : decode cX8_merge 194 = .ok (.aload_n 0, 1) := by decide +kernel
theorem dX8_merge_195 : decode cX8_merge 195 = .ok (.aload_n 0, 1) := by decide +kernel
theorem dX8_merge_196 : decode cX8_merge 196 = .ok (.getfield 33, 3) := by decide +kernel
theorem dX8_merge_199 : decode cX8_merge 199 = .ok (.iload 9, 2) := by decide +kernel
theorem dX8_merge_201 : decode cX8_merge 201 = .ok (.iaload, 1) := by decide +kernel
theorem dX8_merge_202 : decode cX8_merge 202 = .ok (.aload_n 0, 1) := by decide +kernel
theorem dX8_merge_203 : decode cX8_merge 203 = .ok (.getfield 13, 3) := by decide +kernel
theorem dX8_merge_206 : decode cX8_merge 206 = .ok (.iload 7, 2) := by decide +kernel
theorem dX8_merge_208 : decode cX8_merge 208 = .ok (.iaload, 1) := by decide +kernel
theorem dX8_merge_209 : decode cX8_merge 209 = .ok (.invokevirtual 94, 3) := by decide +kernel
theorem dX8_merge_212 : decode cX8_merge 212 = .ok (.ifCond .ne 9, 3) := by decide +kernel
theorem dX8_merge_215 : decode cX8_merge 215 = .ok (.aload_n 0, 1) := by decide +kernel
theorem dX8_merge_216 : decode cX8_merge 216 = .ok (.iconst 5, 1) := by decide +kernel
theorem dX8_merge_217 : decode cX8_merge 217 = .ok (.invokevirtual 105, 3) := by decide +kernel
theorem dX8_merge_220 : decode cX8_merge 220 = .ok (.ireturn, 1) := by decide +kernel
theorem dX8_merge_221 : decode cX8_merge 221 = .ok (.iinc 9 1, 3) := by decide +kernel
theorem dX8_merge_224 : decode cX8_merge 224 = .ok (.goto (-37), 3) := by decide +kernel
theorem dX8_merge_227 : decode cX8_merge 227 = .ok (.iconst 0, 1) := by decide +kernel
theorem dX8_merge_228 : decode cX8_merge 228 = .ok (.istore 9, 2) := by decide +kernel
theorem dX8_merge_230 : decode cX8_merge 230 = .ok (.iload 9, 2) := by decide +kernel
theorem dX8_merge_232 : decode cX8_merge 232 = .ok (.iload 8, 2) := by decide +kernel
theorem dX8_merge_234 : decode cX8_merge 234 = .ok (.if_icmp .ge 61, 3) := by decide +kernel
theorem dX8_merge_237 : decode cX8_merge 237 = .ok (.aload_n 0, 1) := by decide +kernel
theorem dX8_merge_238 : decode cX8_merge 238 = .ok (.aload_n 0, 1) := by decide +kernel
theorem dX8_merge_239 : decode cX8_merge 239 = .ok (.getfield 33, 3) := by decide +kernel
theorem dX8_merge_242 : decode cX8_merge 242 = .ok (.iload 9, 2) := by decide +kernel
theorem dX8_merge_244 : decode cX8_merge 244 = .ok (.iaload, 1) := by decide +kernel
theorem dX8_merge_245 : decode cX8_merge 245 = .ok (.putfield 66, 3) := by decide +kernel
theorem dX8_merge_248 : decode cX8_merge 248 = .ok (.aload_n 0, 1) := by decide +kernel
theorem dX8_merge_249 : decode cX8_merge 249 = .ok (.aload_n 0, 1) := by decide +kernel
theorem dX8_merge_250 : decode cX8_merge 250 = .ok (.getfield 36, 3) := by decide +kernel
theorem dX8_merge_253 : decode cX8_merge 253 = .ok (.iload 9, 2) := by decide +kernel
theorem dX8_merge_255 : decode cX8_merge 255 = .ok (.laload, 1) := by decide +kernel
theorem dX8_merge_256 : decode cX8_merge 256 = .ok (.putfield 69, 3) := by decide +kernel
theorem dX8_merge_259 : decode cX8_merge 259 = .ok (.aload_n 0, 1) := by decide +kernel
theorem dX8_merge_260 : decode cX8_merge 260 = .ok (.aload_n 0, 1) := by decide +kernel
theorem dX8_merge_261 : decode cX8_merge 261 = .ok (.getfield 39, 3) := by decide +kernel
theorem dX8_merge_264 : decode cX8_merge 264 = .ok (.iload 9, 2) := by decide +kernel
theorem dX8_merge_266 : decode cX8_merge 266 = .ok (.daload, 1) := by decide +kernel
theorem dX8_merge_267 : decode cX8_merge 267 = .ok (.putfield 73, 3) := by decide +kernel
theorem dX8_merge_270 : decode cX8_merge 270 = .ok (.aload_n 0, 1) := by decide +kernel
theorem dX8_merge_271 : decode cX8_merge 271 = .ok (.aload_n 0, 1) := by decide +kernel
theorem dX8_merge_272 : decode cX8_merge 272 = .ok (.getfield 13, 3) := by decide +kernel
theorem dX8_merge_275 : decode cX8_merge 275 = .ok (.iload 7, 2) := by decide +kernel
theorem dX8_merge_277 : decode cX8_merge 277 = .ok (.iaload, 1) := by decide +kernel
theorem dX8_merge_278 : decode cX8_merge 278 = .ok (.invokevirtual 131, 3) := by decide +kernel
theorem dX8_merge_281 : decode cX8_merge 281 = .ok (.aload_n 0, 1) := by decide +kernel
theorem dX8_merge_282 : decode cX8_merge 282 = .ok (.iload 7, 2) := by decide +kernel
theorem dX8_merge_284 : decode cX8_merge 284 = .ok (.iload 9, 2) := by decide +kernel
theorem dX8_merge_286 : decode cX8_merge 286 = .ok (.invokevirtual 135, 3) := by decide +kernel
theorem dX8_merge_289 : decode cX8_merge 289 = .ok (.iinc 9 1, 3) := by decide +kernel
theorem dX8_merge_292 : decode cX8_merge 292 = .ok (.goto (-62), 3) := by decide +kernel
theorem dX8_merge_295 : decode cX8_merge 295 = .ok (.iload 8, 2) := by decide +kernel
theorem dX8_merge_297 : decode cX8_merge 297 = .ok (.ireturn, 1) := by decide +kernel
theorem dX8_rankOf_0 : decode cX8_rankOf 0 = .ok (.lload_n 1, 1) := by decide +kernel
theorem dX8_rankOf_1 : decode cX8_rankOf 1 = .ok (.lconst 0, 1) := by decide +kernel
theorem dX8_rankOf_2 : decode cX8_rankOf 2 = .ok (.lcmp, 1) := by decide +kernel
theorem dX8_rankOf_3 : decode cX8_rankOf 3 = .ok (.ifCond .ne 7, 3) := by decide +kernel
theorem dX8_rankOf_6 : decode cX8_rankOf 6 = .ok (.ldc2_w 170, 3) := by decide +kernel
theorem dX8_rankOf_9 : decode cX8_rankOf 9 = .ok (.lreturn, 1) := by decide +kernel
theorem dX8_rankOf_10 : decode cX8_rankOf 10 = .ok (.lload_n 1, 1) := by decide +kernel
theorem dX8_rankOf_11 : decode cX8_rankOf 11 = .ok (.l2i, 1) := by decide +kernel
theorem dX8_rankOf_12 : decode cX8_rankOf 12 = .ok (.iconst 1, 1) := by decide +kernel
theorem dX8_rankOf_13 : decode cX8_rankOf 13 = .ok (.isub, 1) := by decide +kernel
theorem dX8_rankOf_14 : decode cX8_rankOf 14 = .ok (.istore_n 3, 1) := by decide +kernel
theorem dX8_rankOf_15 : decode cX8_rankOf 15 = .ok (.aload_n 0, 1) := by decide +kernel
theorem dX8_rankOf_16 : decode cX8_rankOf 16 = .ok (.iload_n 3, 1) := by decide +kernel
theorem dX8_rankOf_17 : decode cX8_rankOf 17 = .ok (.invokevirtual 60, 3) := by decide +kernel
theorem dX8_rankOf_20 : decode cX8_rankOf 20 = .ok (.ifCond .eq 13, 3) := by decide +kernel
theorem dX8_rankOf_23 : decode cX8_rankOf 23 = .ok (.aload_n 0, 1) := by decide +kernel
theorem dX8_rankOf_24 : decode cX8_rankOf 24 = .ok (.getfield 16, 3) := by decide +kernel
theorem dX8_rankOf_27 : decode cX8_rankOf 27 = .ok (.iload_n 3, 1) := by decide +kernel
theorem dX8_rankOf_28 : decode cX8_rankOf 28 = .ok (.iaload, 1) := by decide +kernel
theorem dX8_rankOf_29 : decode cX8_rankOf 29 = .ok (.i2l, 1) := by decide +kernel
theorem dX8_rankOf_30 : decode cX8_rankOf 30 = .ok (.goto 10, 3) := by decide +kernel
theorem dX8_rankOf_33 : decode cX8_rankOf 33 = .ok (.aload_n 0, 1) := by decide +kernel
theorem dX8_rankOf_34 : decode cX8_rankOf 34 = .ok (.getfield 19, 3) := by decide +kernel
theorem dX8_rankOf_37 : decode cX8_rankOf 37 = .ok (.iload_n 3, 1) := by decide +kernel
theorem dX8_rankOf_38 : decode cX8_rankOf 38 = .ok (.iaload, 1) := by decide +kernel
theorem dX8_rankOf_39 : decode cX8_rankOf 39 = .ok (.i2l, 1) := by decide +kernel
theorem dX8_rankOf_40 : decode cX8_rankOf 40 = .ok (.lreturn, 1) := by decide +kernel
theorem dX8_isBefore_0 : decode cX8_isBefore 0 = .ok (.aload_n 0, 1) := by decide +kernel
theorem dX8_isBefore_1 : decode cX8_isBefore 1 = .ok (.iload_n 1, 1) := by decide +kernel
theorem dX8_isBefore_2 : decode cX8_isBefore 2 = .ok (.invokevirtual 91, 3) := by decide +kernel
theorem dX8_isBefore_5 : decode cX8_isBefore 5 = .ok (.ifCond .ne 43, 3) := by decide +kernel
theorem dX8_isBefore_8 : decode cX8_isBefore 8 = .ok (.aload_n 0, 1) := by decide +kernel
theorem dX8_isBefore_9 : decode cX8_isBefore 9 = .ok (.aload_n 0, 1) := by decide +kernel
theorem dX8_isBefore_10 : decode cX8_isBefore 10 = .ok (.getfield 22, 3) := by decide +kernel
theorem dX8_isBefore_13 : decode cX8_isBefore 13 = .ok (.bipush 24, 2) := by decide +kernel
theorem dX8_isBefore_15 : decode cX8_isBefore 15 = .ok (.iload_n 1, 1) := by decide +kernel
theorem dX8_isBefore_16 : decode cX8_isBefore 16 = .ok (.imul, 1) := by decide +kernel
theorem dX8_isBefore_17 : decode cX8_isBefore 17 = .ok (.iload_n 2, 1) := by decide +kernel
theorem dX8_isBefore_18 : decode cX8_isBefore 18 = .ok (.iadd, 1) := by decide +kernel
theorem dX8_isBefore_19 : decode cX8_isBefore 19 = .ok (.laload, 1) := by decide +kernel
theorem dX8_isBefore_20 : decode cX8_isBefore 20 = .ok (.invokevirtual 172, 3) := by decide +kernel
theorem dX8_isBefore_23 : decode cX8_isBefore 23 = .ok (.aload_n 0, 1) := by decide +kernel
theorem dX8_isBefore_24 : decode cX8_isBefore 24 = .ok (.aload_n 0, 1) := by decide +kernel
theorem dX8_isBefore_25 : decode cX8_isBefore 25 = .ok (.getfield 22, 3) := by decide +kernel
theorem dX8_isBefore_28 : decode cX8_isBefore 28 = .ok (.bipush 24, 2) := by decide +kernel
theorem dX8_isBefore_30 : decode cX8_isBefore 30 = .ok (.iload_n 1, 1) := by decide +kernel
theorem dX8_isBefore_31 : decode cX8_isBefore 31 = .ok (.imul, 1) := by decide +kernel
theorem dX8_isBefore_32 : decode cX8_isBefore 32 = .ok (.iload_n 3, 1) := by decide +kernel
theorem dX8_isBefore_33 : decode cX8_isBefore 33 = .ok (.iadd, 1) := by decide +kernel
theorem dX8_isBefore_34 : decode cX8_isBefore 34 = .ok (.laload, 1) := by decide +kernel
theorem dX8_isBefore_35 : decode cX8_isBefore 35 = .ok (.invokevirtual 172, 3) := by decide +kernel
theorem dX8_isBefore_38 : decode cX8_isBefore 38 = .ok (.lcmp, 1) := by decide +kernel
theorem dX8_isBefore_39 : decode cX8_isBefore 39 = .ok (.ifCond .ge 7, 3) := by decide +kernel
theorem dX8_isBefore_42 : decode cX8_isBefore 42 = .ok (.iconst 1, 1) := by decide +kernel
theorem dX8_isBefore_43 : decode cX8_isBefore 43 = .ok (.goto 4, 3) := by decide +kernel
theorem dX8_isBefore_46 : decode cX8_isBefore 46 = .ok (.iconst 0, 1) := by decide +kernel
theorem dX8_isBefore_47 : decode cX8_isBefore 47 = .ok (.ireturn, 1) := by decide +kernel
theorem dX8_isBefore_48 : decode cX8_isBefore 48 = .ok (.aload_n 0, 1) := by decide +kernel
theorem dX8_isBefore_49 : decode cX8_isBefore 49 = .ok (.iload_n 1, 1) := by decide +kernel
theorem dX8_isBefore_50 : decode cX8_isBefore 50 = .ok (.iload_n 2, 1) := by decide +kernel
theorem dX8_isBefore_51 : decode cX8_isBefore 51 = .ok (.invokevirtual 143, 3) := by decide +kernel
theorem dX8_isBefore_54 : decode cX8_isBefore 54 = .ok (.aload_n 0, 1) := by decide +kernel
theorem dX8_isBefore_55 : decode cX8_isBefore 55 = .ok (.aload_n 0, 1) := by decide +kernel
theorem dX8_isBefore_56 : decode cX8_isBefore 56 = .ok (.getfield 13, 3) := by decide +kernel
theorem dX8_isBefore_59 : decode cX8_isBefore 59 = .ok (.iload_n 1, 1) := by decide +kernel
theorem dX8_isBefore_60 : decode cX8_isBefore 60 = .ok (.iaload, 1) := by decide +kernel
theorem dX8_isBefore_61 : decode cX8_isBefore 61 = .ok (.aload_n 0, 1) := by decide +kernel
theorem dX8_isBefore_62 : decode cX8_isBefore 62 = .ok (.getfield 22, 3) := by decide +kernel
theorem dX8_isBefore_65 : decode cX8_isBefore 65 = .ok (.bipush 24, 2) := by decide +kernel
theorem dX8_isBefore_67 : decode cX8_isBefore 67 = .ok (.iload_n 1, 1) := by decide +kernel
theorem dX8_isBefore_68 : decode cX8_isBefore 68 = .ok (.imul, 1) := by decide +kernel
theorem dX8_isBefore_69 : decode cX8_isBefore 69 = .ok (.iload_n 3, 1) := by decide +kernel
theorem dX8_isBefore_70 : decode cX8_isBefore 70 = .ok (.iadd, 1) := by decide +kernel
theorem dX8_isBefore_71 : decode cX8_isBefore 71 = .ok (.laload, 1) := by decide +kernel
theorem dX8_isBefore_72 : decode cX8_isBefore 72 = .ok (.aload_n 0, 1) := by decide +kernel
theorem dX8_isBefore_73 : decode cX8_isBefore 73 = .ok (.getfield 26, 3) := by decide +kernel
theorem dX8_isBefore_76 : decode cX8_isBefore 76 = .ok (.bipush 24, 2) := by decide +kernel
theorem dX8_isBefore_78 : decode cX8_isBefore 78 = .ok (.iload_n 1, 1) := by decide +kernel
theorem dX8_isBefore_79 : decode cX8_isBefore 79 = .ok (.imul, 1) := by decide +kernel
theorem dX8_isBefore_80 : decode cX8_isBefore 80 = .ok (.iload_n 3, 1) := by decide +kernel
theorem dX8_isBefore_81 : decode cX8_isBefore 81 = .ok (.iadd, 1) := by decide +kernel
theorem dX8_isBefore_82 : decode cX8_isBefore 82 = .ok (.daload, 1) := by decide +kernel
theorem dX8_isBefore_83 : decode cX8_isBefore 83 = .ok (.invokevirtual 163, 3) := by decide +kernel
theorem dX8_isBefore_86 : decode cX8_isBefore 86 = .ok (.iconst (-1), 1) := by decide +kernel
theorem dX8_isBefore_87 : decode cX8_isBefore 87 = .ok (.if_icmp .ne 7, 3) := by decide +kernel
theorem dX8_isBefore_90 : decode cX8_isBefore 90 = .ok (.iconst 1, 1) := by decide +kernel
theorem dX8_isBefore_91 : decode cX8_isBefore 91 = .ok (.goto 4, 3) := by decide +kernel
theorem dX8_isBefore_94 : decode cX8_isBefore 94 = .ok (.iconst 0, 1) := by decide +kernel
theorem dX8_isBefore_95 : decode cX8_isBefore 95 = .ok (.ireturn, 1) := by decide +kernel
theorem dX8_swap_0 : decode cX8_swap 0 = .ok (.aload_n 0, 1) := by decide +kernel
theorem dX8_swap_1 : decode cX8_swap 1 = .ok (.iload_n 1, 1) := by decide +kernel
theorem dX8_swap_2 : decode cX8_swap 2 = .ok (.iload_n 2, 1) := by decide +kernel
theorem dX8_swap_3 : decode cX8_swap 3 = .ok (.invokevirtual 143, 3) := by decide +kernel
theorem dX8_swap_6 : decode cX8_swap 6 = .ok (.aload_n 0, 1) := by decide +kernel
theorem dX8_swap_7 : decode cX8_swap 7 = .ok (.getfield 22, 3) := by decide +kernel
theorem dX8_swap_10 : decode cX8_swap 10 = .ok (.bipush 24, 2) := by decide +kernel
theorem dX8_swap_12 : decode cX8_swap 12 = .ok (.iload_n 1, 1) := by decide +kernel
theorem dX8_swap_13 : decode cX8_swap 13 = .ok (.imul, 1) := by decide +kernel
theorem dX8_swap_14 : decode cX8_swap 14 = .ok (.iload_n 2, 1) := by decide +kernel
theorem dX8_swap_15 : decode cX8_swap 15 = .ok (.iadd, 1) := by decide +kernel
theorem dX8_swap_16 : decode cX8_swap 16 = .ok (.aload_n 0, 1) := by decide +kernel
theorem dX8_swap_17 : decode cX8_swap 17 = .ok (.getfield 22, 3) := by decide +kernel
theorem dX8_swap_20 : decode cX8_swap 20 = .ok (.bipush 24, 2) := by decide +kernel
theorem dX8_swap_22 : decode cX8_swap 22 = .ok (.iload_n 1, 1) := by decide +kernel
theorem dX8_swap_23 : decode cX8_swap 23 = .ok (.imul, 1) := by decide +kernel
theorem dX8_swap_24 : decode cX8_swap 24 = .ok (.iload_n 3, 1) := by decide +kernel
theorem dX8_swap_25 : decode cX8_swap 25 = .ok (.iadd, 1) := by decide +kernel
theorem dX8_swap_26 : decode cX8_swap 26 = .ok (.laload, 1) := by decide +kernel
theorem dX8_swap_27 : decode cX8_swap 27 = .ok (.lastore, 1) := by decide +kernel
theorem dX8_swap_28 : decode cX8_swap 28 = .ok (.aload_n 0, 1) := by decide +kernel
theorem dX8_swap_29 : decode cX8_swap 29 = .ok (.getfield 26, 3) := by decide +kernel
theorem dX8_swap_32 : decode cX8_swap 32 = .ok (.bipush 24, 2) := by decide +kernel
theorem dX8_swap_34 : decode cX8_swap 34 = .ok (.iload_n 1, 1) := by decide +kernel
theorem dX8_swap_35 : decode cX8_swap 35 = .ok (.imul, 1) := by decide +kernel
theorem dX8_swap_36 : decode cX8_swap 36 = .ok (.iload_n 2, 1) := by decide +kernel
theorem dX8_swap_37 : decode cX8_swap 37 = .ok (.iadd, 1) := by decide +kernel
theorem dX8_swap_38 : decode cX8_swap 38 = .ok (.aload_n 0, 1) := by decide +kernel
theorem dX8_swap_39 : decode cX8_swap 39 = .ok (.getfield 26, 3) := by decide +kernel
theorem dX8_swap_42 : decode cX8_swap 42 = .ok (.bipush 24, 2) := by decide +kernel
theorem dX8_swap_44 : decode cX8_swap 44 = .ok (.iload_n 1, 1) := by decide +kernel
theorem dX8_swap_45 : decode cX8_swap 45 = .ok (.imul, 1) := by decide +kernel
theorem dX8_swap_46 : decode cX8_swap 46 = .ok (.iload_n 3, 1) := by decide +kernel
theorem dX8_swap_47 : decode cX8_swap 47 = .ok (.iadd, 1) := by decide +kernel
theorem dX8_swap_48 : decode cX8_swap 48 = .ok (.daload, 1) := by decide +kernel
theorem dX8_swap_49 : decode cX8_swap 49 = .ok (.dastore, 1) := by decide +kernel
theorem dX8_swap_50 : decode cX8_swap 50 = .ok (.aload_n 0, 1) := by decide +kernel
theorem dX8_swap_51 : decode cX8_swap 51 = .ok (.iload_n 1, 1) := by decide +kernel
theorem dX8_swap_52 : decode cX8_swap 52 = .ok (.iload_n 3, 1) := by decide +kernel
theorem dX8_swap_53 : decode cX8_swap 53 = .ok (.invokevirtual 135, 3) := by decide +kernel
theorem dX8_swap_56 : decode cX8_swap 56 = .ok (.return_, 1) := by decide +kernel
theorem dX8_hasMinus_0 : decode cX8_hasMinus 0 = .ok (.dload_n 0, 1) := by decide +kernel
theorem dX8_hasMinus_1 : decode cX8_hasMinus 1 = .ok (.dconst 0, 1) := by decide +kernel
theorem dX8_hasMinus_2 : decode cX8_hasMinus 2 = .ok (.dcmp .g, 1) := by decide +kernel
theorem dX8_hasMinus_3 : decode cX8_hasMinus 3 = .ok (.ifCond .lt 17, 3) := by decide +kernel
theorem dX8_hasMinus_6 : decode cX8_hasMinus 6 = .ok (.dload_n 0, 1) := by decide +kernel
theorem dX8_hasMinus_7 : decode cX8_hasMinus 7 = .ok (.dconst 0, 1) := by decide +kernel
theorem dX8_hasMinus_8 : decode cX8_hasMinus 8 = .ok (.dcmp .l, 1) := by decide +kernel
theorem dX8_hasMinus_9 : decode cX8_hasMinus 9 = .ok (.ifCond .ne 15, 3) := by decide +kernel
theorem dX8_hasMinus_12 : decode cX8_hasMinus 12 = .ok (.dconst 1, 1) := by decide +kernel
theorem dX8_hasMinus_13 : decode cX8_hasMinus 13 = .ok (.dload_n 0, 1) := by decide +kernel
theorem dX8_hasMinus_14 : decode cX8_hasMinus 14 = .ok (.ddiv, 1) := by decide +kernel
theorem dX8_hasMinus_15 : decode cX8_hasMinus 15 = .ok (.dconst 0, 1) := by decide +kernel
theorem dX8_hasMinus_16 : decode cX8_hasMinus 16 = .ok (.dcmp .g, 1) := by decide +kernel
theorem dX8_hasMinus_17 : decode cX8_hasMinus 17 = .ok (.ifCond .ge 7, 3) := by decide +kernel
theorem dX8_hasMinus_20 : decode cX8_hasMinus 20 = .ok (.iconst 1, 1) := by decide +kernel
theorem dX8_hasMinus_21 : decode cX8_hasMinus 21 = .ok (.goto 4, 3) := by decide +kernel
theorem dX8_hasMinus_24 : decode cX8_hasMinus 24 = .ok (.iconst 0, 1) := by decide +kernel
theorem dX8_hasMinus_25 : decode cX8_hasMinus 25 = .ok (.ireturn, 1) := by decide +kernel
theorem dX8_others_0 : decode cX8_others 0 = .ok (.iconst 0, 1) := by decide +kernel
theorem dX8_others_1 : decode cX8_others 1 = .ok (.istore_n 2, 1) := by decide +kernel
theorem dX8_others_2 : decode cX8_others 2 = .ok (.iconst 0, 1) := by decide +kernel
theorem dX8_others_3 : decode cX8_others 3 = .ok (.istore_n 3, 1) := by decide +kernel
theorem dX8_others_4 : decode cX8_others 4 = .ok (.iload_n 3, 1) := by decide +kernel
theorem dX8_others_5 : decode cX8_others 5 = .ok (.aload_n 0, 1) := by decide +kernel
theorem dX8_others_6 : decode cX8_others 6 = .ok (.getfield 16, 3) := by decide +kernel
theorem dX8_others_9 : decode cX8_others 9 = .ok (.iload_n 1, 1) := by decide +kernel
theorem dX8_others_10 : decode cX8_others 10 = .ok (.iaload, 1) := by decide +kernel
theorem dX8_others_11 : decode cX8_others 11 = .ok (.if_icmp .ge 80, 3) := by decide +kernel
theorem dX8_others_14 : decode cX8_others 14 = .ok (.aload_n 0, 1) := by decide +kernel
theorem dX8_others_15 : decode cX8_others 15 = .ok (.getfield 26, 3) := by decide +kernel
theorem dX8_others_18 : decode cX8_others 18 = .ok (.bipush 24, 2) := by decide +kernel
theorem dX8_others_20 : decode cX8_others 20 = .ok (.iload_n 1, 1) := by decide +kernel
theorem dX8_others_21 : decode cX8_others 21 = .ok (.imul, 1) := by decide +kernel
theorem dX8_others_22 : decode cX8_others 22 = .ok (.iload_n 3, 1) := by decide +kernel
theorem dX8_others_23 : decode cX8_others 23 = .ok (.iadd, 1) := by decide +kernel
theorem dX8_others_24 : decode cX8_others 24 = .ok (.daload, 1) := by decide +kernel
theorem dX8_others_25 : decode cX8_others 25 = .ok (.dstore 4, 2) := by decide +kernel
theorem dX8_others_27 : decode cX8_others 27 = .ok (.aload_n 0, 1) := by decide +kernel
theorem dX8_others_28 : decode cX8_others 28 = .ok (.getfield 39, 3) := by decide +kernel
theorem dX8_others_31 : decode cX8_others 31 = .ok (.iload_n 3, 1) := by decide +kernel
theorem dX8_others_32 : decode cX8_others 32 = .ok (.daload, 1) := by decide +kernel
theorem dX8_others_33 : decode cX8_others 33 = .ok (.dstore 6, 2) := by decide +kernel
theorem dX8_others_35 : decode cX8_others 35 = .ok (.iload_n 2, 1) := by decide +kernel
theorem dX8_others_36 : decode cX8_others 36 = .ok (.aload_n 0, 1) := by decide +kernel
theorem dX8_others_37 : decode cX8_others 37 = .ok (.getfield 22, 3) := by decide +kernel
theorem dX8_others_40 : decode cX8_others 40 = .ok (.bipush 24, 2) := by decide +kernel
theorem dX8_others_42 : decode cX8_others 42 = .ok (.iload_n 1, 1) := by decide +kernel
theorem dX8_others_43 : decode cX8_others 43 = .ok (.imul, 1) := by decide +kernel
theorem dX8_others_44 : decode cX8_others 44 = .ok (.iload_n 3, 1) := by decide +kernel
theorem dX8_others_45 : decode cX8_others 45 = .ok (.iadd, 1) := by decide +kernel
theorem dX8_others_46 : decode cX8_others 46 = .ok (.laload, 1) := by decide +kernel
theorem dX8_others_47 : decode cX8_others 47 = .ok (.aload_n 0, 1) := by decide +kernel
theorem dX8_others_48 : decode cX8_others 48 = .ok (.getfield 36, 3) := by decide +kernel
theorem dX8_others_51 : decode cX8_others 51 = .ok (.iload_n 3, 1) := by decide +kernel
theorem dX8_others_52 : decode cX8_others 52 = .ok (.laload, 1) := by decide +kernel
theorem dX8_others_53 : decode cX8_others 53 = .ok (.lcmp, 1) := by decide +kernel
theorem dX8_others_54 : decode cX8_others 54 = .ok (.ifCond .ne 24, 3) := by decide +kernel
theorem dX8_others_57 : decode cX8_others 57 = .ok (.dload 4, 2) := by decide +kernel
theorem dX8_others_59 : decode cX8_others 59 = .ok (.dload 6, 2) := by decide +kernel
theorem dX8_others_61 : decode cX8_others 61 = .ok (.dcmp .l, 1) := by decide +kernel
theorem dX8_others_62 : decode cX8_others 62 = .ok (.ifCond .ne 16, 3) := by decide +kernel
theorem dX8_others_65 : decode cX8_others 65 = .ok (.dload 4, 2) := by decide +kernel
theorem dX8_others_67 : decode cX8_others 67 = .ok (.invokestatic 176, 3) := by decide +kernel
theorem dX8_others_70 : decode cX8_others 70 = .ok (.dload 6, 2) := by decide +kernel
theorem dX8_others_72 : decode cX8_others 72 = .ok (.invokestatic 176, 3) := by decide +kernel
theorem dX8_others_75 : decode cX8_others 75 = .ok (.if_icmp .eq 7, 3) := by decide +kernel
theorem dX8_others_78 : decode cX8_others 78 = .ok (.iconst 1, 1) := by decide +kernel
theorem dX8_others_79 : decode cX8_others 79 = .ok (.goto 4, 3) := by decide +kernel
theorem dX8_others_82 : decode cX8_others 82 = .ok (.iconst 0, 1) := by decide +kernel
theorem dX8_others_83 : decode cX8_others 83 = .ok (.iadd, 1) := by decide +kernel
theorem dX8_others_84 : decode cX8_others 84 = .ok (.istore_n 2, 1) := by decide +kernel
theorem dX8_others_85 : decode cX8_others 85 = .ok (.iinc 3 1, 3) := by decide +kernel
theorem dX8_others_88 : decode cX8_others 88 = .ok (.goto (-84), 3) := by decide +kernel
theorem dX8_others_91 : decode cX8_others 91 = .ok (.iload_n 2, 1) := by decide +kernel
theorem dX8_others_92 : decode cX8_others 92 = .ok (.ireturn, 1) := by decide +kernel
theorem dX8_takeOut_0 : decode cX8_takeOut 0 = .ok (.iconst 0, 1) := by decide +kernel
theorem dX8_takeOut_1 : decode cX8_takeOut 1 = .ok (.istore_n 2, 1) := by decide +kernel
theorem dX8_takeOut_2 : decode cX8_takeOut 2 = .ok (.iload_n 2, 1) := by decide +kernel
theorem dX8_takeOut_3 : decode cX8_takeOut 3 = .ok (.aload_n 0, 1) := by decide +kernel
theorem dX8_takeOut_4 : decode cX8_takeOut 4 = .ok (.getfield 16, 3) := by decide +kernel
theorem dX8_takeOut_7 : decode cX8_takeOut 7 = .ok (.iload_n 1, 1) := by decide +kernel
theorem dX8_takeOut_8 : decode cX8_takeOut 8 = .ok (.iaload, 1) := by decide +kernel
theorem dX8_takeOut_9 : decode cX8_takeOut 9 = .ok (.if_icmp .ge 43, 3) := by decide +kernel
theorem dX8_takeOut_12 : decode cX8_takeOut 12 = .ok (.aload_n 0, 1) := by decide +kernel
theorem dX8_takeOut_13 : decode cX8_takeOut 13 = .ok (.getfield 36, 3) := by decide +kernel
theorem dX8_takeOut_16 : decode cX8_takeOut 16 = .ok (.iload_n 2, 1) := by decide +kernel
theorem dX8_takeOut_17 : decode cX8_takeOut 17 = .ok (.aload_n 0, 1) := by decide +kernel
theorem dX8_takeOut_18 : decode cX8_takeOut 18 = .ok (.getfield 22, 3) := by decide +kernel
theorem dX8_takeOut_21 : decode cX8_takeOut 21 = .ok (.bipush 24, 2) := by decide +kernel
theorem dX8_takeOut_23 : decode cX8_takeOut 23 = .ok (.iload_n 1, 1) := by decide +kernel
theorem dX8_takeOut_24 : decode cX8_takeOut 24 = .ok (.imul, 1) := by decide +kernel
theorem dX8_takeOut_25 : decode cX8_takeOut 25 = .ok (.iload_n 2, 1) := by decide +kernel
theorem dX8_takeOut_26 : decode cX8_takeOut 26 = .ok (.iadd, 1) := by decide +kernel
theorem dX8_takeOut_27 : decode cX8_takeOut 27 = .ok (.laload, 1) := by decide +kernel
theorem dX8_takeOut_28 : decode cX8_takeOut 28 = .ok (.lastore, 1) := by decide +kernel
theorem dX8_takeOut_29 : decode cX8_takeOut 29 = .ok (.aload_n 0, 1) := by decide +kernel
theorem dX8_takeOut_30 : decode cX8_takeOut 30 = .ok (.getfield 39, 3) := by decide +kernel
theorem dX8_takeOut_33 : decode cX8_takeOut 33 = .ok (.iload_n 2, 1) := by decide +kernel
theorem dX8_takeOut_34 : decode cX8_takeOut 34 = .ok (.aload_n 0, 1) := by decide +kernel
theorem dX8_takeOut_35 : decode cX8_takeOut 35 = .ok (.getfield 26, 3) := by decide +kernel
theorem dX8_takeOut_38 : decode cX8_takeOut 38 = .ok (.bipush 24, 2) := by decide +kernel
theorem dX8_takeOut_40 : decode cX8_takeOut 40 = .ok (.iload_n 1, 1) := by decide +kernel
theorem dX8_takeOut_41 : decode cX8_takeOut 41 = .ok (.imul, 1) := by decide +kernel
theorem dX8_takeOut_42 : decode cX8_takeOut 42 = .ok (.iload_n 2, 1) := by decide +kernel
theorem dX8_takeOut_43 : decode cX8_takeOut 43 = .ok (.iadd, 1) := by decide +kernel
theorem dX8_takeOut_44 : decode cX8_takeOut 44 = .ok (.daload, 1) := by decide +kernel
theorem dX8_takeOut_45 : decode cX8_takeOut 45 = .ok (.dastore, 1) := by decide +kernel
theorem dX8_takeOut_46 : decode cX8_takeOut 46 = .ok (.iinc 2 1, 3) := by decide +kernel
theorem dX8_takeOut_49 : decode cX8_takeOut 49 = .ok (.goto (-47), 3) := by decide +kernel
theorem dX8_takeOut_52 : decode cX8_takeOut 52 = .ok (.return_, 1) := by decide +kernel
theorem dX8_sort_0 : decode cX8_sort 0 = .ok (.aload_n 0, 1) := by decide +kernel
theorem dX8_sort_1 : decode cX8_sort 1 = .ok (.iconst 0, 1) := by decide +kernel
theorem dX8_sort_2 : decode cX8_sort 2 = .ok (.putfield 48, 3) := by decide +kernel
theorem dX8_sort_5 : decode cX8_sort 5 = .ok (.iload_n 1, 1) := by decide +kernel
theorem dX8_sort_6 : decode cX8_sort 6 = .ok (.invokestatic 102, 3) := by decide +kernel
theorem dX8_sort_9 : decode cX8_sort 9 = .ok (.ifCond .ne 9, 3) := by decide +kernel
theorem dX8_sort_12 : decode cX8_sort 12 = .ok (.aload_n 0, 1) := by decide +kernel
theorem dX8_sort_13 : decode cX8_sort 13 = .ok (.iconst 1, 1) := by decide +kernel
theorem dX8_sort_14 : decode cX8_sort 14 = .ok (.invokevirtual 105, 3) := by decide +kernel
theorem dX8_sort_17 : decode cX8_sort 17 = .ok (.ireturn, 1) := by decide +kernel
theorem dX8_sort_18 : decode cX8_sort 18 = .ok (.aload_n 0, 1) := by decide +kernel
theorem dX8_sort_19 : decode cX8_sort 19 = .ok (.iload_n 1, 1) := by decide +kernel
theorem dX8_sort_20 : decode cX8_sort 20 = .ok (.invokevirtual 111, 3) := by decide +kernel
theorem dX8_sort_23 : decode cX8_sort 23 = .ok (.istore_n 2, 1) := by decide +kernel
theorem dX8_sort_24 : decode cX8_sort 24 = .ok (.iload_n 2, 1) := by decide +kernel
theorem dX8_sort_25 : decode cX8_sort 25 = .ok (.ifCond .le 9, 3) := by decide +kernel
theorem dX8_sort_28 : decode cX8_sort 28 = .ok (.aload_n 0, 1) := by decide +kernel
theorem dX8_sort_29 : decode cX8_sort 29 = .ok (.iload_n 2, 1) := by decide +kernel
theorem dX8_sort_30 : decode cX8_sort 30 = .ok (.invokevirtual 105, 3) := by decide +kernel
theorem dX8_sort_33 : decode cX8_sort 33 = .ok (.ireturn, 1) := by decide +kernel
theorem dX8_sort_34 : decode cX8_sort 34 = .ok (.aload_n 0, 1) := by decide +kernel
theorem dX8_sort_35 : decode cX8_sort 35 = .ok (.iload_n 1, 1) := by decide +kernel
theorem dX8_sort_36 : decode cX8_sort 36 = .ok (.invokevirtual 56, 3) := by decide +kernel
theorem dX8_sort_39 : decode cX8_sort 39 = .ok (.istore_n 3, 1) := by decide +kernel
theorem dX8_sort_40 : decode cX8_sort 40 = .ok (.aload_n 0, 1) := by decide +kernel
theorem dX8_sort_41 : decode cX8_sort 41 = .ok (.iload_n 3, 1) := by decide +kernel
theorem dX8_sort_42 : decode cX8_sort 42 = .ok (.invokevirtual 180, 3) := by decide +kernel
theorem dX8_sort_45 : decode cX8_sort 45 = .ok (.iconst 1, 1) := by decide +kernel
theorem dX8_sort_46 : decode cX8_sort 46 = .ok (.istore 4, 2) := by decide +kernel
theorem dX8_sort_48 : decode cX8_sort 48 = .ok (.iload 4, 2) := by decide +kernel
theorem dX8_sort_50 : decode cX8_sort 50 = .ok (.aload_n 0, 1) := by decide +kernel
theorem dX8_sort_51 : decode cX8_sort 51 = .ok (.getfield 16, 3) := by decide +kernel
theorem dX8_sort_54 : decode cX8_sort 54 = .ok (.iload_n 3, 1) := by decide +kernel
theorem dX8_sort_55 : decode cX8_sort 55 = .ok (.iaload, 1) := by decide +kernel
theorem dX8_sort_56 : decode cX8_sort 56 = .ok (.if_icmp .ge 54, 3) := by decide +kernel
theorem dX8_sort_59 : decode cX8_sort 59 = .ok (.iconst 1, 1) := by decide +kernel
theorem dX8_sort_60 : decode cX8_sort 60 = .ok (.istore 5, 2) := by decide +kernel
theorem dX8_sort_62 : decode cX8_sort 62 = .ok (.iload 5, 2) := by decide +kernel
theorem dX8_sort_64 : decode cX8_sort 64 = .ok (.aload_n 0, 1) := by decide +kernel
theorem dX8_sort_65 : decode cX8_sort 65 = .ok (.getfield 16, 3) := by decide +kernel
theorem dX8_sort_68 : decode cX8_sort 68 = .ok (.iload_n 3, 1) := by decide +kernel
theorem dX8_sort_69 : decode cX8_sort 69 = .ok (.iaload, 1) := by decide +kernel
theorem dX8_sort_70 : decode cX8_sort 70 = .ok (.if_icmp .ge 34, 3) := by decide +kernel
theorem dX8_sort_73 : decode cX8_sort 73 = .ok (.aload_n 0, 1) := by decide +kernel
theorem dX8_sort_74 : decode cX8_sort 74 = .ok (.iload_n 3, 1) := by decide +kernel
theorem dX8_sort_75 : decode cX8_sort 75 = .ok (.iload 5, 2) := by decide +kernel
theorem dX8_sort_77 : decode cX8_sort 77 = .ok (.iload 5, 2) := by decide +kernel
theorem dX8_sort_79 : decode cX8_sort 79 = .ok (.iconst 1, 1) := by decide +kernel
theorem dX8_sort_80 : decode cX8_sort 80 = .ok (.isub, 1) := by decide +kernel
theorem dX8_sort_81 : decode cX8_sort 81 = .ok (.invokevirtual 183, 3) := by decide +kernel
theorem dX8_sort_84 : decode cX8_sort 84 = .ok (.ifCond .eq 14, 3) := by decide +kernel
theorem dX8_sort_87 : decode cX8_sort 87 = .ok (.aload_n 0, 1) := by decide +kernel
theorem dX8_sort_88 : decode cX8_sort 88 = .ok (.iload_n 3, 1) := by decide +kernel
theorem dX8_sort_89 : decode cX8_sort 89 = .ok (.iload 5, 2) := by decide +kernel
theorem dX8_sort_91 : decode cX8_sort 91 = .ok (.iload 5, 2) := by decide +kernel
theorem dX8_sort_93 : decode cX8_sort 93 = .ok (.iconst 1, 1) := by decide +kernel
theorem dX8_sort_94 : decode cX8_sort 94 = .ok (.isub, 1) := by decide +kernel
theorem dX8_sort_95 : decode cX8_sort 95 = .ok (.invokevirtual 186, 3) := by decide +kernel
theorem dX8_sort_98 : decode cX8_sort 98 = .ok (.iinc 5 1, 3) := by decide +kernel
theorem dX8_sort_101 : decode cX8_sort 101 = .ok (.goto (-39), 3) := by decide +kernel
theorem dX8_sort_104 : decode cX8_sort 104 = .ok (.iinc 4 1, 3) := by decide +kernel
theorem dX8_sort_107 : decode cX8_sort 107 = .ok (.goto (-59), 3) := by decide +kernel
theorem dX8_sort_110 : decode cX8_sort 110 = .ok (.aload_n 0, 1) := by decide +kernel
theorem dX8_sort_111 : decode cX8_sort 111 = .ok (.iload_n 3, 1) := by decide +kernel
theorem dX8_sort_112 : decode cX8_sort 112 = .ok (.invokevirtual 189, 3) := by decide +kernel
theorem dX8_sort_115 : decode cX8_sort 115 = .ok (.ireturn, 1) := by decide +kernel
theorem dX8_turn_0 : decode cX8_turn 0 = .ok (.aload_n 0, 1) := by decide +kernel
theorem dX8_turn_1 : decode cX8_turn 1 = .ok (.iconst 0, 1) := by decide +kernel
theorem dX8_turn_2 : decode cX8_turn 2 = .ok (.putfield 48, 3) := by decide +kernel
theorem dX8_turn_5 : decode cX8_turn 5 = .ok (.iload_n 1, 1) := by decide +kernel
theorem dX8_turn_6 : decode cX8_turn 6 = .ok (.invokestatic 102, 3) := by decide +kernel
theorem dX8_turn_9 : decode cX8_turn 9 = .ok (.ifCond .ne 9, 3) := by decide +kernel
theorem dX8_turn_12 : decode cX8_turn 12 = .ok (.aload_n 0, 1) := by decide +kernel
theorem dX8_turn_13 : decode cX8_turn 13 = .ok (.iconst 1, 1) := by decide +kernel
theorem dX8_turn_14 : decode cX8_turn 14 = .ok (.invokevirtual 105, 3) := by decide +kernel
theorem dX8_turn_17 : decode cX8_turn 17 = .ok (.ireturn, 1) := by decide +kernel
theorem dX8_turn_18 : decode cX8_turn 18 = .ok (.aload_n 0, 1) := by decide +kernel
theorem dX8_turn_19 : decode cX8_turn 19 = .ok (.iload_n 1, 1) := by decide +kernel
theorem dX8_turn_20 : decode cX8_turn 20 = .ok (.invokevirtual 111, 3) := by decide +kernel
theorem dX8_turn_23 : decode cX8_turn 23 = .ok (.istore_n 3, 1) := by decide +kernel
theorem dX8_turn_24 : decode cX8_turn 24 = .ok (.iload_n 3, 1) := by decide +kernel
theorem dX8_turn_25 : decode cX8_turn 25 = .ok (.ifCond .le 9, 3) := by decide +kernel
theorem dX8_turn_28 : decode cX8_turn 28 = .ok (.aload_n 0, 1) := by decide +kernel
theorem dX8_turn_29 : decode cX8_turn 29 = .ok (.iload_n 3, 1) := by decide +kernel
theorem dX8_turn_30 : decode cX8_turn 30 = .ok (.invokevirtual 105, 3) := by decide +kernel
theorem dX8_turn_33 : decode cX8_turn 33 = .ok (.ireturn, 1) := by decide +kernel
theorem dX8_turn_34 : decode cX8_turn 34 = .ok (.aload_n 0, 1) := by decide +kernel
theorem dX8_turn_35 : decode cX8_turn 35 = .ok (.iload_n 1, 1) := by decide +kernel
theorem dX8_turn_36 : decode cX8_turn 36 = .ok (.invokevirtual 56, 3) := by decide +kernel
theorem dX8_turn_39 : decode cX8_turn 39 = .ok (.istore 4, 2) := by decide +kernel
theorem dX8_turn_41 : decode cX8_turn 41 = .ok (.aload_n 0, 1) := by decide +kernel
theorem dX8_turn_42 : decode cX8_turn 42 = .ok (.getfield 16, 3) := by decide +kernel
theorem dX8_turn_45 : decode cX8_turn 45 = .ok (.iload 4, 2) := by decide +kernel
theorem dX8_turn_47 : decode cX8_turn 47 = .ok (.iaload, 1) := by decide +kernel
theorem dX8_turn_48 : decode cX8_turn 48 = .ok (.istore 5, 2) := by decide +kernel
theorem dX8_turn_50 : decode cX8_turn 50 = .ok (.aload_n 0, 1) := by decide +kernel
theorem dX8_turn_51 : decode cX8_turn 51 = .ok (.iload 4, 2) := by decide +kernel
theorem dX8_turn_53 : decode cX8_turn 53 = .ok (.invokevirtual 180, 3) := by decide +kernel
theorem dX8_turn_56 : decode cX8_turn 56 = .ok (.iconst 0, 1) := by decide +kernel
theorem dX8_turn_57 : decode cX8_turn 57 = .ok (.istore 6, 2) := by decide +kernel
theorem dX8_turn_59 : decode cX8_turn 59 = .ok (.iload 6, 2) := by decide +kernel
theorem dX8_turn_61 : decode cX8_turn 61 = .ok (.iload 5, 2) := by decide +kernel
theorem dX8_turn_63 : decode cX8_turn 63 = .ok (.if_icmp .ge 64, 3) := by decide +kernel
theorem dX8_turn_66 : decode cX8_turn 66 = .ok (.iload 6, 2) := by decide +kernel
theorem dX8_turn_68 : decode cX8_turn 68 = .ok (.iload_n 2, 1) := by decide +kernel
theorem dX8_turn_69 : decode cX8_turn 69 = .ok (.iload 5, 2) := by decide +kernel
theorem dX8_turn_71 : decode cX8_turn 71 = .ok (.irem, 1) := by decide +kernel
theorem dX8_turn_72 : decode cX8_turn 72 = .ok (.iadd, 1) := by decide +kernel
theorem dX8_turn_73 : decode cX8_turn 73 = .ok (.iload 5, 2) := by decide +kernel
theorem dX8_turn_75 : decode cX8_turn 75 = .ok (.iadd, 1) := by decide +kernel
theorem dX8_turn_76 : decode cX8_turn 76 = .ok (.iload 5, 2) := by decide +kernel
theorem dX8_turn_78 : decode cX8_turn 78 = .ok (.irem, 1) := by decide +kernel
theorem dX8_turn_79 : decode cX8_turn 79 = .ok (.istore 7, 2) := by decide +kernel
theorem dX8_turn_81 : decode cX8_turn 81 = .ok (.aload_n 0, 1) := by decide +kernel
theorem dX8_turn_82 : decode cX8_turn 82 = .ok (.getfield 22, 3) := by decide +kernel
theorem dX8_turn_85 : decode cX8_turn 85 = .ok (.bipush 24, 2) := by decide +kernel
theorem dX8_turn_87 : decode cX8_turn 87 = .ok (.iload 4, 2) := by decide +kernel
theorem dX8_turn_89 : decode cX8_turn 89 = .ok (.imul, 1) := by decide +kernel
theorem dX8_turn_90 : decode cX8_turn 90 = .ok (.iload 7, 2) := by decide +kernel
theorem dX8_turn_92 : decode cX8_turn 92 = .ok (.iadd, 1) := by decide +kernel
theorem dX8_turn_93 : decode cX8_turn 93 = .ok (.aload_n 0, 1) := by decide +kernel
theorem dX8_turn_94 : decode cX8_turn 94 = .ok (.getfield 36, 3) := by decide +kernel
theorem dX8_turn_97 : decode cX8_turn 97 = .ok (.iload 6, 2) := by decide +kernel
theorem dX8_turn_99 : decode cX8_turn 99 = .ok (.laload, 1) := by decide +kernel
theorem dX8_turn_100 : decode cX8_turn 100 = .ok (.lastore, 1) := by decide +kernel
theorem dX8_turn_101 : decode cX8_turn 101 = .ok (.aload_n 0, 1) := by decide +kernel
theorem dX8_turn_102 : decode cX8_turn 102 = .ok (.getfield 26, 3) := by decide +kernel
theorem dX8_turn_105 : decode cX8_turn 105 = .ok (.bipush 24, 2) := by decide +kernel
theorem dX8_turn_107 : decode cX8_turn 107 = .ok (.iload 4, 2) := by decide +kernel
theorem dX8_turn_109 : decode cX8_turn 109 = .ok (.imul, 1) := by decide +kernel
theorem dX8_turn_110 : decode cX8_turn 110 = .ok (.iload 7, 2) := by decide +kernel
theorem dX8_turn_112 : decode cX8_turn 112 = .ok (.iadd, 1) := by decide +kernel
theorem dX8_turn_113 : decode cX8_turn 113 = .ok (.aload_n 0, 1) := by decide +kernel
theorem dX8_turn_114 : decode cX8_turn 114 = .ok (.getfield 39, 3) := by decide +kernel
theorem dX8_turn_117 : decode cX8_turn 117 = .ok (.iload 6, 2) := by decide +kernel
theorem dX8_turn_119 : decode cX8_turn 119 = .ok (.daload, 1) := by decide +kernel
theorem dX8_turn_120 : decode cX8_turn 120 = .ok (.dastore, 1) := by decide +kernel
theorem dX8_turn_121 : decode cX8_turn 121 = .ok (.iinc 6 1, 3) := by decide +kernel
theorem dX8_turn_124 : decode cX8_turn 124 = .ok (.goto (-65), 3) := by decide +kernel
theorem dX8_turn_127 : decode cX8_turn 127 = .ok (.iload 5, 2) := by decide +kernel
theorem dX8_turn_129 : decode cX8_turn 129 = .ok (.ireturn, 1) := by decide +kernel
theorem dX8_sum_0 : decode cX8_sum 0 = .ok (.aload_n 0, 1) := by decide +kernel
theorem dX8_sum_1 : decode cX8_sum 1 = .ok (.iconst 0, 1) := by decide +kernel
theorem dX8_sum_2 : decode cX8_sum 2 = .ok (.putfield 48, 3) := by decide +kernel
theorem dX8_sum_5 : decode cX8_sum 5 = .ok (.iload_n 1, 1) := by decide +kernel
theorem dX8_sum_6 : decode cX8_sum 6 = .ok (.invokestatic 102, 3) := by decide +kernel
theorem dX8_sum_9 : decode cX8_sum 9 = .ok (.ifCond .ne 10, 3) := by decide +kernel
theorem dX8_sum_12 : decode cX8_sum 12 = .ok (.aload_n 0, 1) := by decide +kernel
theorem dX8_sum_13 : decode cX8_sum 13 = .ok (.iconst 1, 1) := by decide +kernel
theorem dX8_sum_14 : decode cX8_sum 14 = .ok (.invokevirtual 105, 3) := by decide +kernel
theorem dX8_sum_17 : decode cX8_sum 17 = .ok (.i2l, 1) := by decide +kernel
theorem dX8_sum_18 : decode cX8_sum 18 = .ok (.lreturn, 1) := by decide +kernel
theorem dX8_sum_19 : decode cX8_sum 19 = .ok (.aload_n 0, 1) := by decide +kernel
theorem dX8_sum_20 : decode cX8_sum 20 = .ok (.iload_n 1, 1) := by decide +kernel
theorem dX8_sum_21 : decode cX8_sum 21 = .ok (.invokevirtual 111, 3) := by decide +kernel
theorem dX8_sum_24 : decode cX8_sum 24 = .ok (.istore_n 2, 1) := by decide +kernel
theorem dX8_sum_25 : decode cX8_sum 25 = .ok (.iload_n 2, 1) := by decide +kernel
theorem dX8_sum_26 : decode cX8_sum 26 = .ok (.ifCond .le 10, 3) := by decide +kernel
theorem dX8_sum_29 : decode cX8_sum 29 = .ok (.aload_n 0, 1) := by decide +kernel
theorem dX8_sum_30 : decode cX8_sum 30 = .ok (.iload_n 2, 1) := by decide +kernel
theorem dX8_sum_31 : decode cX8_sum 31 = .ok (.invokevirtual 105, 3) := by decide +kernel
theorem dX8_sum_34 : decode cX8_sum 34 = .ok (.i2l, 1) := by decide +kernel
theorem dX8_sum_35 : decode cX8_sum 35 = .ok (.lreturn, 1) := by decide +kernel
theorem dX8_sum_36 : decode cX8_sum 36 = .ok (.aload_n 0, 1) := by decide +kernel
theorem dX8_sum_37 : decode cX8_sum 37 = .ok (.iload_n 1, 1) := by decide +kernel
theorem dX8_sum_38 : decode cX8_sum 38 = .ok (.invokevirtual 56, 3) := by decide +kernel
theorem dX8_sum_41 : decode cX8_sum 41 = .ok (.istore_n 3, 1) := by decide +kernel
theorem dX8_sum_42 : decode cX8_sum 42 = .ok (.aload_n 0, 1) := by decide +kernel
theorem dX8_sum_43 : decode cX8_sum 43 = .ok (.getfield 13, 3) := by decide +kernel
theorem dX8_sum_46 : decode cX8_sum 46 = .ok (.iload_n 3, 1) := by decide +kernel
theorem dX8_sum_47 : decode cX8_sum 47 = .ok (.iaload, 1) := by decide +kernel
theorem dX8_sum_48 : decode cX8_sum 48 = .ok (.iconst 1, 1) := by decide +kernel
theorem dX8_sum_49 : decode cX8_sum 49 = .ok (.iconst 5, 1) := by decide +kernel
theorem dX8_sum_50 : decode cX8_sum 50 = .ok (.invokestatic 52, 3) := by decide +kernel
theorem dX8_sum_53 : decode cX8_sum 53 = .ok (.ifCond .ne 11, 3) := by decide +kernel
theorem dX8_sum_56 : decode cX8_sum 56 = .ok (.aload_n 0, 1) := by decide +kernel
theorem dX8_sum_57 : decode cX8_sum 57 = .ok (.bipush 6, 2) := by decide +kernel
theorem dX8_sum_59 : decode cX8_sum 59 = .ok (.invokevirtual 105, 3) := by decide +kernel
theorem dX8_sum_62 : decode cX8_sum 62 = .ok (.i2l, 1) := by decide +kernel
theorem dX8_sum_63 : decode cX8_sum 63 = .ok (.lreturn, 1) := by decide +kernel
theorem dX8_sum_64 : decode cX8_sum 64 = .ok (.lconst 0, 1) := by decide +kernel
theorem dX8_sum_65 : decode cX8_sum 65 = .ok (.lstore 4, 2) := by decide +kernel
theorem dX8_sum_67 : decode cX8_sum 67 = .ok (.iconst 0, 1) := by decide +kernel
theorem dX8_sum_68 : decode cX8_sum 68 = .ok (.istore 6, 2) := by decide +kernel
theorem dX8_sum_70 : decode cX8_sum 70 = .ok (.iload 6, 2) := by decide +kernel
theorem dX8_sum_72 : decode cX8_sum 72 = .ok (.aload_n 0, 1) := by decide +kernel
theorem dX8_sum_73 : decode cX8_sum 73 = .ok (.getfield 16, 3) := by decide +kernel
theorem dX8_sum_76 : decode cX8_sum 76 = .ok (.iload_n 3, 1) := by decide +kernel
theorem dX8_sum_77 : decode cX8_sum 77 = .ok (.iaload, 1) := by decide +kernel
theorem dX8_sum_78 : decode cX8_sum 78 = .ok (.if_icmp .ge 26, 3) := by decide +kernel
theorem dX8_sum_81 : decode cX8_sum 81 = .ok (.lload 4, 2) := by decide +kernel
theorem dX8_sum_83 : decode cX8_sum 83 = .ok (.aload_n 0, 1) := by decide +kernel
theorem dX8_sum_84 : decode cX8_sum 84 = .ok (.getfield 22, 3) := by decide +kernel
theorem dX8_sum_87 : decode cX8_sum 87 = .ok (.bipush 24, 2) := by decide +kernel
theorem dX8_sum_89 : decode cX8_sum 89 = .ok (.iload_n 3, 1) := by decide +kernel
theorem dX8_sum_90 : decode cX8_sum 90 = .ok (.imul, 1) := by decide +kernel
theorem dX8_sum_91 : decode cX8_sum 91 = .ok (.iload 6, 2) := by decide +kernel
theorem dX8_sum_93 : decode cX8_sum 93 = .ok (.iadd, 1) := by decide +kernel
theorem dX8_sum_94 : decode cX8_sum 94 = .ok (.laload, 1) := by decide +kernel
theorem dX8_sum_95 : decode cX8_sum 95 = .ok (.ladd, 1) := by decide +kernel
theorem dX8_sum_96 : decode cX8_sum 96 = .ok (.lstore 4, 2) := by decide +kernel
theorem dX8_sum_98 : decode cX8_sum 98 = .ok (.iinc 6 1, 3) := by decide +kernel
theorem dX8_sum_101 : decode cX8_sum 101 = .ok (.goto (-31), 3) := by decide +kernel
theorem dX8_sum_104 : decode cX8_sum 104 = .ok (.lload 4, 2) := by decide +kernel
theorem dX8_sum_106 : decode cX8_sum 106 = .ok (.lreturn, 1) := by decide +kernel
theorem dX8_total_0 : decode cX8_total 0 = .ok (.aload_n 0, 1) := by decide +kernel
theorem dX8_total_1 : decode cX8_total 1 = .ok (.iconst 0, 1) := by decide +kernel
theorem dX8_total_2 : decode cX8_total 2 = .ok (.putfield 48, 3) := by decide +kernel
theorem dX8_total_5 : decode cX8_total 5 = .ok (.iload_n 1, 1) := by decide +kernel
theorem dX8_total_6 : decode cX8_total 6 = .ok (.invokestatic 102, 3) := by decide +kernel
theorem dX8_total_9 : decode cX8_total 9 = .ok (.ifCond .ne 10, 3) := by decide +kernel
theorem dX8_total_12 : decode cX8_total 12 = .ok (.aload_n 0, 1) := by decide +kernel
theorem dX8_total_13 : decode cX8_total 13 = .ok (.iconst 1, 1) := by decide +kernel
theorem dX8_total_14 : decode cX8_total 14 = .ok (.invokevirtual 105, 3) := by decide +kernel
theorem dX8_total_17 : decode cX8_total 17 = .ok (.i2d, 1) := by decide +kernel
theorem dX8_total_18 : decode cX8_total 18 = .ok (.dreturn, 1) := by decide +kernel
theorem dX8_total_19 : decode cX8_total 19 = .ok (.aload_n 0, 1) := by decide +kernel
theorem dX8_total_20 : decode cX8_total 20 = .ok (.iload_n 1, 1) := by decide +kernel
theorem dX8_total_21 : decode cX8_total 21 = .ok (.invokevirtual 111, 3) := by decide +kernel
theorem dX8_total_24 : decode cX8_total 24 = .ok (.istore_n 2, 1) := by decide +kernel
theorem dX8_total_25 : decode cX8_total 25 = .ok (.iload_n 2, 1) := by decide +kernel
theorem dX8_total_26 : decode cX8_total 26 = .ok (.ifCond .le 10, 3) := by decide +kernel
theorem dX8_total_29 : decode cX8_total 29 = .ok (.aload_n 0, 1) := by decide +kernel
theorem dX8_total_30 : decode cX8_total 30 = .ok (.iload_n 2, 1) := by decide +kernel
theorem dX8_total_31 : decode cX8_total 31 = .ok (.invokevirtual 105, 3) := by decide +kernel
theorem dX8_total_34 : decode cX8_total 34 = .ok (.i2d, 1) := by decide +kernel
theorem dX8_total_35 : decode cX8_total 35 = .ok (.dreturn, 1) := by decide +kernel
theorem dX8_total_36 : decode cX8_total 36 = .ok (.aload_n 0, 1) := by decide +kernel
theorem dX8_total_37 : decode cX8_total 37 = .ok (.iload_n 1, 1) := by decide +kernel
theorem dX8_total_38 : decode cX8_total 38 = .ok (.invokevirtual 56, 3) := by decide +kernel
theorem dX8_total_41 : decode cX8_total 41 = .ok (.istore_n 3, 1) := by decide +kernel
theorem dX8_total_42 : decode cX8_total 42 = .ok (.aload_n 0, 1) := by decide +kernel
theorem dX8_total_43 : decode cX8_total 43 = .ok (.getfield 13, 3) := by decide +kernel
theorem dX8_total_46 : decode cX8_total 46 = .ok (.iload_n 3, 1) := by decide +kernel
theorem dX8_total_47 : decode cX8_total 47 = .ok (.iaload, 1) := by decide +kernel
theorem dX8_total_48 : decode cX8_total 48 = .ok (.iconst 1, 1) := by decide +kernel
theorem dX8_total_49 : decode cX8_total 49 = .ok (.bipush 7, 2) := by decide +kernel
theorem dX8_total_51 : decode cX8_total 51 = .ok (.invokestatic 52, 3) := by decide +kernel
theorem dX8_total_54 : decode cX8_total 54 = .ok (.ifCond .ne 11, 3) := by decide +kernel
theorem dX8_total_57 : decode cX8_total 57 = .ok (.aload_n 0, 1) := by decide +kernel
theorem dX8_total_58 : decode cX8_total 58 = .ok (.bipush 6, 2) := by decide +kernel
theorem dX8_total_60 : decode cX8_total 60 = .ok (.invokevirtual 105, 3) := by decide +kernel
theorem dX8_total_63 : decode cX8_total 63 = .ok (.i2d, 1) := by decide +kernel
theorem dX8_total_64 : decode cX8_total 64 = .ok (.dreturn, 1) := by decide +kernel
theorem dX8_total_65 : decode cX8_total 65 = .ok (.dconst 0, 1) := by decide +kernel
theorem dX8_total_66 : decode cX8_total 66 = .ok (.dstore 4, 2) := by decide +kernel
theorem dX8_total_68 : decode cX8_total 68 = .ok (.iconst 0, 1) := by decide +kernel
theorem dX8_total_69 : decode cX8_total 69 = .ok (.istore 6, 2) := by decide +kernel
theorem dX8_total_71 : decode cX8_total 71 = .ok (.iload 6, 2) := by decide +kernel
theorem dX8_total_73 : decode cX8_total 73 = .ok (.aload_n 0, 1) := by decide +kernel
theorem dX8_total_74 : decode cX8_total 74 = .ok (.getfield 16, 3) := by decide +kernel
theorem dX8_total_77 : decode cX8_total 77 = .ok (.iload_n 3, 1) := by decide +kernel
theorem dX8_total_78 : decode cX8_total 78 = .ok (.iaload, 1) := by decide +kernel
theorem dX8_total_79 : decode cX8_total 79 = .ok (.if_icmp .ge 47, 3) := by decide +kernel
theorem dX8_total_82 : decode cX8_total 82 = .ok (.dload 4, 2) := by decide +kernel
theorem dX8_total_84 : decode cX8_total 84 = .ok (.aload_n 0, 1) := by decide +kernel
theorem dX8_total_85 : decode cX8_total 85 = .ok (.getfield 13, 3) := by decide +kernel
theorem dX8_total_88 : decode cX8_total 88 = .ok (.iload_n 3, 1) := by decide +kernel
theorem dX8_total_89 : decode cX8_total 89 = .ok (.iaload, 1) := by decide +kernel
theorem dX8_total_90 : decode cX8_total 90 = .ok (.aload_n 0, 1) := by decide +kernel
theorem dX8_total_91 : decode cX8_total 91 = .ok (.getfield 22, 3) := by decide +kernel
theorem dX8_total_94 : decode cX8_total 94 = .ok (.bipush 24, 2) := by decide +kernel
theorem dX8_total_96 : decode cX8_total 96 = .ok (.iload_n 3, 1) := by decide +kernel
theorem dX8_total_97 : decode cX8_total 97 = .ok (.imul, 1) := by decide +kernel
theorem dX8_total_98 : decode cX8_total 98 = .ok (.iload 6, 2) := by decide +kernel
theorem dX8_total_100 : decode cX8_total 100 = .ok (.iadd, 1) := by decide +kernel
theorem dX8_total_101 : decode cX8_total 101 = .ok (.laload, 1) := by decide +kernel
theorem dX8_total_102 : decode cX8_total 102 = .ok (.aload_n 0, 1) := by decide +kernel
theorem dX8_total_103 : decode cX8_total 103 = .ok (.getfield 26, 3) := by decide +kernel
theorem dX8_total_106 : decode cX8_total 106 = .ok (.bipush 24, 2) := by decide +kernel
theorem dX8_total_108 : decode cX8_total 108 = .ok (.iload_n 3, 1) := by decide +kernel
theorem dX8_total_109 : decode cX8_total 109 = .ok (.imul, 1) := by decide +kernel
theorem dX8_total_110 : decode cX8_total 110 = .ok (.iload 6, 2) := by decide +kernel
theorem dX8_total_112 : decode cX8_total 112 = .ok (.iadd, 1) := by decide +kernel
theorem dX8_total_113 : decode cX8_total 113 = .ok (.daload, 1) := by decide +kernel
theorem dX8_total_114 : decode cX8_total 114 = .ok (.invokestatic 83, 3) := by decide +kernel
theorem dX8_total_117 : decode cX8_total 117 = .ok (.dadd, 1) := by decide +kernel
theorem dX8_total_118 : decode cX8_total 118 = .ok (.dstore 4, 2) := by decide +kernel
theorem dX8_total_120 : decode cX8_total 120 = .ok (.iinc 6 1, 3) := by decide +kernel
theorem dX8_total_123 : decode cX8_total 123 = .ok (.goto (-52), 3) := by decide +kernel
theorem dX8_total_126 : decode cX8_total 126 = .ok (.dload 4, 2) := by decide +kernel
theorem dX8_total_128 : decode cX8_total 128 = .ok (.dreturn, 1) := by decide +kernel
theorem dX8_find_0 : decode cX8_find 0 = .ok (.aload_n 0, 1) := by decide +kernel
theorem dX8_find_1 : decode cX8_find 1 = .ok (.iconst 0, 1) := by decide +kernel
theorem dX8_find_2 : decode cX8_find 2 = .ok (.putfield 48, 3) := by decide +kernel
theorem dX8_find_5 : decode cX8_find 5 = .ok (.iload_n 1, 1) := by decide +kernel
theorem dX8_find_6 : decode cX8_find 6 = .ok (.invokestatic 102, 3) := by decide +kernel
theorem dX8_find_9 : decode cX8_find 9 = .ok (.ifCond .eq 13, 3) := by decide +kernel
theorem dX8_find_12 : decode cX8_find 12 = .ok (.iload_n 3, 1) := by decide +kernel
theorem dX8_find_13 : decode cX8_find 13 = .ok (.iconst 0, 1) := by decide +kernel
theorem dX8_find_14 : decode cX8_find 14 = .ok (.bipush 7, 2) := by decide +kernel
theorem dX8_find_16 : decode cX8_find 16 = .ok (.invokestatic 52, 3) := by decide +kernel
theorem dX8_find_19 : decode cX8_find 19 = .ok (.ifCond .ne 9, 3) := by decide +kernel
theorem dX8_find_22 : decode cX8_find 22 = .ok (.aload_n 0, 1) := by decide +kernel
theorem dX8_find_23 : decode cX8_find 23 = .ok (.iconst 1, 1) := by decide +kernel
theorem dX8_find_24 : decode cX8_find 24 = .ok (.invokevirtual 105, 3) := by decide +kernel
theorem dX8_find_27 : decode cX8_find 27 = .ok (.ireturn, 1) := by decide +kernel
theorem dX8_find_28 : decode cX8_find 28 = .ok (.aload_n 0, 1) := by decide +kernel
theorem dX8_find_29 : decode cX8_find 29 = .ok (.iload_n 1, 1) := by decide +kernel
theorem dX8_find_30 : decode cX8_find 30 = .ok (.invokevirtual 111, 3) := by decide +kernel
theorem dX8_find_33 : decode cX8_find 33 = .ok (.istore 6, 2) := by decide +kernel
theorem dX8_find_35 : decode cX8_find 35 = .ok (.iload 6, 2) := by decide +kernel
theorem dX8_find_37 : decode cX8_find 37 = .ok (.ifCond .le 10, 3) := by decide +kernel
theorem dX8_find_40 : decode cX8_find 40 = .ok (.aload_n 0, 1) := by decide +kernel
theorem dX8_find_41 : decode cX8_find 41 = .ok (.iload 6, 2) := by decide +kernel
theorem dX8_find_43 : decode cX8_find 43 = .ok (.invokevirtual 105, 3) := by decide +kernel
theorem dX8_find_46 : decode cX8_find 46 = .ok (.ireturn, 1) := by decide +kernel
theorem dX8_find_47 : decode cX8_find 47 = .ok (.aload_n 0, 1) := by decide +kernel
theorem dX8_find_48 : decode cX8_find 48 = .ok (.iload_n 1, 1) := by decide +kernel
theorem dX8_find_49 : decode cX8_find 49 = .ok (.invokevirtual 56, 3) := by decide +kernel
theorem dX8_find_52 : decode cX8_find 52 = .ok (.istore 7, 2) := by decide +kernel
theorem dX8_find_54 : decode cX8_find 54 = .ok (.aload_n 0, 1) := by decide +kernel
theorem dX8_find_55 : decode cX8_find 55 = .ok (.iload 7, 2) := by decide +kernel
theorem dX8_find_57 : decode cX8_find 57 = .ok (.invokevirtual 91, 3) := by decide +kernel
theorem dX8_find_60 : decode cX8_find 60 = .ok (.ifCond .ne 10, 3) := by decide +kernel
theorem dX8_find_63 : decode cX8_find 63 = .ok (.aload_n 0, 1) := by decide +kernel
theorem dX8_find_64 : decode cX8_find 64 = .ok (.bipush 6, 2) := by decide +kernel
theorem dX8_find_66 : decode cX8_find 66 = .ok (.invokevirtual 105, 3) := by decide +kernel
theorem dX8_find_69 : decode cX8_find 69 = .ok (.ireturn, 1) := by decide +kernel
theorem dX8_find_70 : decode cX8_find 70 = .ok (.aload_n 0, 1) := by decide +kernel
theorem dX8_find_71 : decode cX8_find 71 = .ok (.iload_n 3, 1) := by decide +kernel
theorem dX8_find_72 : decode cX8_find 72 = .ok (.iload 4, 2) := by decide +kernel
theorem dX8_find_74 : decode cX8_find 74 = .ok (.iload 5, 2) := by decide +kernel
theorem dX8_find_76 : decode cX8_find 76 = .ok (.invokevirtual 124, 3) := by decide +kernel
theorem dX8_find_79 : decode cX8_find 79 = .ok (.iload_n 2, 1) := by decide +kernel
theorem dX8_find_80 : decode cX8_find 80 = .ok (.ifCond .ge 7, 3) := by decide +kernel
theorem dX8_find_83 : decode cX8_find 83 = .ok (.iconst 0, 1) := by decide +kernel
theorem dX8_find_84 : decode cX8_find 84 = .ok (.goto 4, 3) := by decide +kernel
theorem dX8_find_87 : decode cX8_find 87 = .ok (.iload_n 2, 1) := by decide +kernel
theorem dX8_find_88 : decode cX8_find 88 = .ok (.istore 8, 2) := by decide +kernel
theorem dX8_find_90 : decode cX8_find 90 = .ok (.iload 8, 2) := by decide +kernel
theorem dX8_find_92 : decode cX8_find 92 = .ok (.aload_n 0, 1) := by decide +kernel
theorem dX8_find_93 : decode cX8_find 93 = .ok (.getfield 16, 3) := by decide +kernel
theorem dX8_find_96 : decode cX8_find 96 = .ok (.iload 7, 2) := by decide +kernel
theorem dX8_find_98 : decode cX8_find 98 = .ok (.iaload, 1) := by decide +kernel
theorem dX8_find_99 : decode cX8_find 99 = .ok (.if_icmp .ge 52, 3) := by decide +kernel
theorem dX8_find_102 : decode cX8_find 102 = .ok (.aload_n 0, 1) := by decide +kernel
theorem dX8_find_103 : decode cX8_find 103 = .ok (.aload_n 0, 1) := by decide +kernel
theorem dX8_find_104 : decode cX8_find 104 = .ok (.getfield 13, 3) := by decide +kernel
theorem dX8_find_107 : decode cX8_find 107 = .ok (.iload 7, 2) := by decide +kernel
theorem dX8_find_109 : decode cX8_find 109 = .ok (.iaload, 1) := by decide +kernel
theorem dX8_find_110 : decode cX8_find 110 = .ok (.aload_n 0, 1) := by decide +kernel
theorem dX8_find_111 : decode cX8_find 111 = .ok (.getfield 22, 3) := by decide +kernel
theorem dX8_find_114 : decode cX8_find 114 = .ok (.bipush 24, 2) := by decide +kernel
theorem dX8_find_116 : decode cX8_find 116 = .ok (.iload 7, 2) := by decide +kernel
theorem dX8_find_118 : decode cX8_find 118 = .ok (.imul, 1) := by decide +kernel
theorem dX8_find_119 : decode cX8_find 119 = .ok (.iload 8, 2) := by decide +kernel
theorem dX8_find_121 : decode cX8_find 121 = .ok (.iadd, 1) := by decide +kernel
theorem dX8_find_122 : decode cX8_find 122 = .ok (.laload, 1) := by decide +kernel
theorem dX8_find_123 : decode cX8_find 123 = .ok (.aload_n 0, 1) := by decide +kernel
theorem dX8_find_124 : decode cX8_find 124 = .ok (.getfield 26, 3) := by decide +kernel
theorem dX8_find_127 : decode cX8_find 127 = .ok (.bipush 24, 2) := by decide +kernel
theorem dX8_find_129 : decode cX8_find 129 = .ok (.iload 7, 2) := by decide +kernel
theorem dX8_find_131 : decode cX8_find 131 = .ok (.imul, 1) := by decide +kernel
theorem dX8_find_132 : decode cX8_find 132 = .ok (.iload 8, 2) := by decide +kernel
theorem dX8_find_134 : decode cX8_find 134 = .ok (.iadd, 1) := by decide +kernel
theorem dX8_find_135 : decode cX8_find 135 = .ok (.daload, 1) := by decide +kernel
theorem dX8_find_136 : decode cX8_find 136 = .ok (.invokevirtual 163, 3) := by decide +kernel
theorem dX8_find_139 : decode cX8_find 139 = .ok (.ifCond .ne 6, 3) := by decide +kernel
theorem dX8_find_142 : decode cX8_find 142 = .ok (.iload 8, 2) := by decide +kernel
theorem dX8_find_144 : decode cX8_find 144 = .ok (.ireturn, 1) := by decide +kernel
theorem dX8_find_145 : decode cX8_find 145 = .ok (.iinc 8 1, 3) := by decide +kernel
theorem dX8_find_148 : decode cX8_find 148 = .ok (.goto (-58), 3) := by decide +kernel
theorem dX8_find_151 : decode cX8_find 151 = .ok (.iconst (-1), 1) := by decide +kernel
theorem dX8_find_152 : decode cX8_find 152 = .ok (.ireturn, 1) := by decide +kernel
theorem dX8_areAlike_0 : decode cX8_areAlike 0 = .ok (.aload_n 0, 1) := by decide +kernel
theorem dX8_areAlike_1 : decode cX8_areAlike 1 = .ok (.iload_n 1, 1) := by decide +kernel
theorem dX8_areAlike_2 : decode cX8_areAlike 2 = .ok (.invokevirtual 91, 3) := by decide +kernel
theorem dX8_areAlike_5 : decode cX8_areAlike 5 = .ok (.aload_n 0, 1) := by decide +kernel
theorem dX8_areAlike_6 : decode cX8_areAlike 6 = .ok (.iload_n 2, 1) := by decide +kernel
theorem dX8_areAlike_7 : decode cX8_areAlike 7 = .ok (.invokevirtual 91, 3) := by decide +kernel
theorem dX8_areAlike_10 : decode cX8_areAlike 10 = .ok (.if_icmp .eq 5, 3) := by decide +kernel
theorem dX8_areAlike_13 : decode cX8_areAlike 13 = .ok (.iconst 0, 1) := by decide +kernel
theorem dX8_areAlike_14 : decode cX8_areAlike 14 = .ok (.ireturn, 1) := by decide +kernel
theorem dX8_areAlike_15 : decode cX8_areAlike 15 = .ok (.aload_n 0, 1) := by decide +kernel
theorem dX8_areAlike_16 : decode cX8_areAlike 16 = .ok (.iload_n 1, 1) := by decide +kernel
theorem dX8_areAlike_17 : decode cX8_areAlike 17 = .ok (.invokevirtual 91, 3) := by decide +kernel
theorem dX8_areAlike_20 : decode cX8_areAlike 20 = .ok (.ifCond .ne 35, 3) := by decide +kernel
theorem dX8_areAlike_23 : decode cX8_areAlike 23 = .ok (.aload_n 0, 1) := by decide +kernel
theorem dX8_areAlike_24 : decode cX8_areAlike 24 = .ok (.getfield 22, 3) := by decide +kernel
theorem dX8_areAlike_27 : decode cX8_areAlike 27 = .ok (.bipush 24, 2) := by decide +kernel
theorem dX8_areAlike_29 : decode cX8_areAlike 29 = .ok (.iload_n 1, 1) := by decide +kernel
theorem dX8_areAlike_30 : decode cX8_areAlike 30 = .ok (.imul, 1) := by decide +kernel
theorem dX8_areAlike_31 : decode cX8_areAlike 31 = .ok (.iload_n 3, 1) := by decide +kernel
theorem dX8_areAlike_32 : decode cX8_areAlike 32 = .ok (.iadd, 1) := by decide +kernel
theorem dX8_areAlike_33 : decode cX8_areAlike 33 = .ok (.laload, 1) := by decide +kernel
theorem dX8_areAlike_34 : decode cX8_areAlike 34 = .ok (.aload_n 0, 1) := by decide +kernel
theorem dX8_areAlike_35 : decode cX8_areAlike 35 = .ok (.getfield 22, 3) := by decide +kernel
theorem dX8_areAlike_38 : decode cX8_areAlike 38 = .ok (.bipush 24, 2) := by decide +kernel
theorem dX8_areAlike_40 : decode cX8_areAlike 40 = .ok (.iload_n 2, 1) := by decide +kernel
theorem dX8_areAlike_41 : decode cX8_areAlike 41 = .ok (.imul, 1) := by decide +kernel
theorem dX8_areAlike_42 : decode cX8_areAlike 42 = .ok (.iload_n 3, 1) := by decide +kernel
theorem dX8_areAlike_43 : decode cX8_areAlike 43 = .ok (.iadd, 1) := by decide +kernel
theorem dX8_areAlike_44 : decode cX8_areAlike 44 = .ok (.laload, 1) := by decide +kernel
theorem dX8_areAlike_45 : decode cX8_areAlike 45 = .ok (.lcmp, 1) := by decide +kernel
theorem dX8_areAlike_46 : decode cX8_areAlike 46 = .ok (.ifCond .ne 7, 3) := by decide +kernel
theorem dX8_areAlike_49 : decode cX8_areAlike 49 = .ok (.iconst 1, 1) := by decide +kernel
theorem dX8_areAlike_50 : decode cX8_areAlike 50 = .ok (.goto 4, 3) := by decide +kernel
theorem dX8_areAlike_53 : decode cX8_areAlike 53 = .ok (.iconst 0, 1) := by decide +kernel
theorem dX8_areAlike_54 : decode cX8_areAlike 54 = .ok (.ireturn, 1) := by decide +kernel
theorem dX8_areAlike_55 : decode cX8_areAlike 55 = .ok (.aload_n 0, 1) := by decide +kernel
theorem dX8_areAlike_56 : decode cX8_areAlike 56 = .ok (.iload_n 1, 1) := by decide +kernel
theorem dX8_areAlike_57 : decode cX8_areAlike 57 = .ok (.iload_n 3, 1) := by decide +kernel
theorem dX8_areAlike_58 : decode cX8_areAlike 58 = .ok (.invokevirtual 143, 3) := by decide +kernel
theorem dX8_areAlike_61 : decode cX8_areAlike 61 = .ok (.aload_n 0, 1) := by decide +kernel
theorem dX8_areAlike_62 : decode cX8_areAlike 62 = .ok (.aload_n 0, 1) := by decide +kernel
theorem dX8_areAlike_63 : decode cX8_areAlike 63 = .ok (.getfield 13, 3) := by decide +kernel
theorem dX8_areAlike_66 : decode cX8_areAlike 66 = .ok (.iload_n 2, 1) := by decide +kernel
theorem dX8_areAlike_67 : decode cX8_areAlike 67 = .ok (.iaload, 1) := by decide +kernel
theorem dX8_areAlike_68 : decode cX8_areAlike 68 = .ok (.aload_n 0, 1) := by decide +kernel
theorem dX8_areAlike_69 : decode cX8_areAlike 69 = .ok (.getfield 22, 3) := by decide +kernel
theorem dX8_areAlike_72 : decode cX8_areAlike 72 = .ok (.bipush 24, 2) := by decide +kernel
theorem dX8_areAlike_74 : decode cX8_areAlike 74 = .ok (.iload_n 2, 1) := by decide +kernel
theorem dX8_areAlike_75 : decode cX8_areAlike 75 = .ok (.imul, 1) := by decide +kernel
theorem dX8_areAlike_76 : decode cX8_areAlike 76 = .ok (.iload_n 3, 1) := by decide +kernel
theorem dX8_areAlike_77 : decode cX8_areAlike 77 = .ok (.iadd, 1) := by decide +kernel
theorem dX8_areAlike_78 : decode cX8_areAlike 78 = .ok (.laload, 1) := by decide +kernel
theorem dX8_areAlike_79 : decode cX8_areAlike 79 = .ok (.aload_n 0, 1) := by decide +kernel
theorem dX8_areAlike_80 : decode cX8_areAlike 80 = .ok (.getfield 26, 3) := by decide +kernel
theorem dX8_areAlike_83 : decode cX8_areAlike 83 = .ok (.bipush 24, 2) := by decide +kernel
theorem dX8_areAlike_85 : decode cX8_areAlike 85 = .ok (.iload_n 2, 1) := by decide +kernel
theorem dX8_areAlike_86 : decode cX8_areAlike 86 = .ok (.imul, 1) := by decide +kernel
theorem dX8_areAlike_87 : decode cX8_areAlike 87 = .ok (.iload_n 3, 1) := by decide +kernel
theorem dX8_areAlike_88 : decode cX8_areAlike 88 = .ok (.iadd, 1) := by decide +kernel
theorem dX8_areAlike_89 : decode cX8_areAlike 89 = .ok (.daload, 1) := by decide +kernel
theorem dX8_areAlike_90 : decode cX8_areAlike 90 = .ok (.invokevirtual 163, 3) := by decide +kernel
theorem dX8_areAlike_93 : decode cX8_areAlike 93 = .ok (.ifCond .ne 7, 3) := by decide +kernel
theorem dX8_areAlike_96 : decode cX8_areAlike 96 = .ok (.iconst 1, 1) := by decide +kernel
theorem dX8_areAlike_97 : decode cX8_areAlike 97 = .ok (.goto 4, 3) := by decide +kernel
theorem dX8_areAlike_100 : decode cX8_areAlike 100 = .ok (.iconst 0, 1) := by decide +kernel
theorem dX8_areAlike_101 : decode cX8_areAlike 101 = .ok (.ireturn, 1) := by decide +kernel
theorem dX8_alike_0 : decode cX8_alike 0 = .ok (.aload_n 0, 1) := by decide +kernel
theorem dX8_alike_1 : decode cX8_alike 1 = .ok (.iconst 0, 1) := by decide +kernel
theorem dX8_alike_2 : decode cX8_alike 2 = .ok (.putfield 48, 3) := by decide +kernel
theorem dX8_alike_5 : decode cX8_alike 5 = .ok (.iload_n 1, 1) := by decide +kernel
theorem dX8_alike_6 : decode cX8_alike 6 = .ok (.invokestatic 102, 3) := by decide +kernel
theorem dX8_alike_9 : decode cX8_alike 9 = .ok (.ifCond .eq 10, 3) := by decide +kernel
theorem dX8_alike_12 : decode cX8_alike 12 = .ok (.iload_n 2, 1) := by decide +kernel
theorem dX8_alike_13 : decode cX8_alike 13 = .ok (.invokestatic 102, 3) := by decide +kernel
theorem dX8_alike_16 : decode cX8_alike 16 = .ok (.ifCond .ne 9, 3) := by decide +kernel
theorem dX8_alike_19 : decode cX8_alike 19 = .ok (.aload_n 0, 1) := by decide +kernel
theorem dX8_alike_20 : decode cX8_alike 20 = .ok (.iconst 1, 1) := by decide +kernel
theorem dX8_alike_21 : decode cX8_alike 21 = .ok (.invokevirtual 105, 3) := by decide +kernel
theorem dX8_alike_24 : decode cX8_alike 24 = .ok (.ireturn, 1) := by decide +kernel
theorem dX8_alike_25 : decode cX8_alike 25 = .ok (.aload_n 0, 1) := by decide +kernel
theorem dX8_alike_26 : decode cX8_alike 26 = .ok (.iload_n 1, 1) := by decide +kernel
theorem dX8_alike_27 : decode cX8_alike 27 = .ok (.iload_n 2, 1) := by decide +kernel
theorem dX8_alike_28 : decode cX8_alike 28 = .ok (.iload_n 2, 1) := by decide +kernel
theorem dX8_alike_29 : decode cX8_alike 29 = .ok (.invokevirtual 154, 3) := by decide +kernel
theorem dX8_alike_32 : decode cX8_alike 32 = .ok (.istore_n 3, 1) := by decide +kernel
theorem dX8_alike_33 : decode cX8_alike 33 = .ok (.iload_n 3, 1) := by decide +kernel
theorem dX8_alike_34 : decode cX8_alike 34 = .ok (.ifCond .le 9, 3) := by decide +kernel
theorem dX8_alike_37 : decode cX8_alike 37 = .ok (.aload_n 0, 1) := by decide +kernel
theorem dX8_alike_38 : decode cX8_alike 38 = .ok (.iload_n 3, 1) := by decide +kernel
theorem dX8_alike_39 : decode cX8_alike 39 = .ok (.invokevirtual 105, 3) := by decide +kernel
theorem dX8_alike_42 : decode cX8_alike 42 = .ok (.ireturn, 1) := by decide +kernel
theorem dX8_alike_43 : decode cX8_alike 43 = .ok (.aload_n 0, 1) := by decide +kernel
theorem dX8_alike_44 : decode cX8_alike 44 = .ok (.iload_n 1, 1) := by decide +kernel
theorem dX8_alike_45 : decode cX8_alike 45 = .ok (.invokevirtual 56, 3) := by decide +kernel
theorem dX8_alike_48 : decode cX8_alike 48 = .ok (.istore 4, 2) := by decide +kernel
theorem dX8_alike_50 : decode cX8_alike 50 = .ok (.aload_n 0, 1) := by decide +kernel
theorem dX8_alike_51 : decode cX8_alike 51 = .ok (.iload_n 2, 1) := by decide +kernel
theorem dX8_alike_52 : decode cX8_alike 52 = .ok (.invokevirtual 56, 3) := by decide +kernel
theorem dX8_alike_55 : decode cX8_alike 55 = .ok (.istore 5, 2) := by decide +kernel
theorem dX8_alike_57 : decode cX8_alike 57 = .ok (.aload_n 0, 1) := by decide +kernel
theorem dX8_alike_58 : decode cX8_alike 58 = .ok (.getfield 16, 3) := by decide +kernel
theorem dX8_alike_61 : decode cX8_alike 61 = .ok (.iload 4, 2) := by decide +kernel
theorem dX8_alike_63 : decode cX8_alike 63 = .ok (.iaload, 1) := by decide +kernel
theorem dX8_alike_64 : decode cX8_alike 64 = .ok (.aload_n 0, 1) := by decide +kernel
theorem dX8_alike_65 : decode cX8_alike 65 = .ok (.getfield 16, 3) := by decide +kernel
theorem dX8_alike_68 : decode cX8_alike 68 = .ok (.iload 5, 2) := by decide +kernel
theorem dX8_alike_70 : decode cX8_alike 70 = .ok (.iaload, 1) := by decide +kernel
theorem dX8_alike_71 : decode cX8_alike 71 = .ok (.if_icmp .eq 5, 3) := by decide +kernel
theorem dX8_alike_74 : decode cX8_alike 74 = .ok (.iconst 0, 1) := by decide +kernel
theorem dX8_alike_75 : decode cX8_alike 75 = .ok (.ireturn, 1) := by decide +kernel
theorem dX8_alike_76 : decode cX8_alike 76 = .ok (.iconst 0, 1) := by decide +kernel
theorem dX8_alike_77 : decode cX8_alike 77 = .ok (.istore 6, 2) := by decide +kernel
theorem dX8_alike_79 : decode cX8_alike 79 = .ok (.iload 6, 2) := by decide +kernel
theorem dX8_alike_81 : decode cX8_alike 81 = .ok (.aload_n 0, 1) := by decide +kernel
theorem dX8_alike_82 : decode cX8_alike 82 = .ok (.getfield 16, 3) := by decide +kernel
theorem dX8_alike_85 : decode cX8_alike 85 = .ok (.iload 4, 2) := by decide +kernel
theorem dX8_alike_87 : decode cX8_alike 87 = .ok (.iaload, 1) := by decide +kernel
theorem dX8_alike_88 : decode cX8_alike 88 = .ok (.if_icmp .ge 24, 3) := by decide +kernel
theorem dX8_alike_91 : decode cX8_alike 91 = .ok (.aload_n 0, 1) := by decide +kernel
theorem dX8_alike_92 : decode cX8_alike 92 = .ok (.iload 4, 2) := by decide +kernel
theorem dX8_alike_94 : decode cX8_alike 94 = .ok (.iload 5, 2) := by decide +kernel
theorem dX8_alike_96 : decode cX8_alike 96 = .ok (.iload 6, 2) := by decide +kernel
theorem dX8_alike_98 : decode cX8_alike 98 = .ok (.invokevirtual 192, 3) := by decide +kernel
theorem dX8_alike_101 : decode cX8_alike 101 = .ok (.ifCond .ne 5, 3) := by decide +kernel
theorem dX8_alike_104 : decode cX8_alike 104 = .ok (.iconst 0, 1) := by decide +kernel
theorem dX8_alike_105 : decode cX8_alike 105 = .ok (.ireturn, 1) := by decide +kernel
theorem dX8_alike_106 : decode cX8_alike 106 = .ok (.iinc 6 1, 3) := by decide +kernel
theorem dX8_alike_109 : decode cX8_alike 109 = .ok (.goto (-30), 3) := by decide +kernel
theorem dX8_alike_112 : decode cX8_alike 112 = .ok (.iconst 1, 1) := by decide +kernel
theorem dX8_alike_113 : decode cX8_alike 113 = .ok (.ireturn, 1) := by decide +kernel
theorem dX8_why_0 : decode cX8_why 0 = .ok (.aload_n 0, 1) := by decide +kernel
theorem dX8_why_1 : decode cX8_why 1 = .ok (.getfield 48, 3) := by decide +kernel
theorem dX8_why_4 : decode cX8_why 4 = .ok (.ireturn, 1) := by decide +kernel
end
section
theorem dL_law_0 : decode cL_law 0 = .ok (.new 7, 3) := by decide +kernel
theorem dL_law_3 : decode cL_law 3 = .ok (.dup, 1) := by decide +kernel
theorem dL_law_4 : decode cL_law 4 = .ok (.invokespecial 9, 3) := by decide +kernel
theorem dL_law_7 : decode cL_law 7 = .ok (.astore_n 1, 1) := by decide +kernel
theorem dL_law_8 : decode cL_law 8 = .ok (.new 10, 3) := by decide +kernel
theorem dL_law_11 : decode cL_law 11 = .ok (.dup, 1) := by decide +kernel
theorem dL_law_12 : decode cL_law 12 = .ok (.invokespecial 12, 3) := by decide +kernel
theorem dL_law_15 : decode cL_law 15 = .ok (.astore_n 2, 1) := by decide +kernel
theorem dL_law_16 : decode cL_law 16 = .ok (.iconst 0, 1) := by decide +kernel
theorem dL_law_17 : decode cL_law 17 = .ok (.istore_n 3, 1) := by decide +kernel
theorem dL_law_18 : decode cL_law 18 = .ok (.iload_n 3, 1) := by decide +kernel
theorem dL_law_19 : decode cL_law 19 = .ok (.aload_n 0, 1) := by decide +kernel
theorem dL_law_20 : decode cL_law 20 = .ok (.arraylength, 1) := by decide +kernel
theorem dL_law_21 : decode cL_law 21 = .ok (.bipush 6, 2) := by decide +kernel
theorem dL_law_23 : decode cL_law 23 = .ok (.isub, 1) := by decide +kernel
theorem dL_law_24 : decode cL_law 24 = .ok (.if_icmp .gt 1056, 3) := by decide +kernel
theorem dL_law_27 : decode cL_law 27 = .ok (.aload_n 0, 1) := by decide +kernel
theorem dL_law_28 : decode cL_law 28 = .ok (.iload_n 3, 1) := by decide +kernel
theorem dL_law_29 : decode cL_law 29 = .ok (.iaload, 1) := by decide +kernel
theorem dL_law_30 : decode cL_law 30 = .ok (.bipush 31, 2) := by decide +kernel
theorem dL_law_32 : decode cL_law 32 = .ok (.iand, 1) := by decide +kernel
theorem dL_law_33 : decode cL_law 33 = .ok (.tableswitch 1041 0 23 #[111, 154, 187, 210, 233, 256, 279, 342, 405, 448, 492, 563, 596, 639, 672, 715, 758, 801, 824, 857, 881, 932, 995, 1028], 111) := by decide +kernel
theorem dL_law_144 : decode cL_law 144 = .ok (.aload_n 1, 1) := by decide +kernel
theorem dL_law_145 : decode cL_law 145 = .ok (.aload_n 0, 1) := by decide +kernel
theorem dL_law_146 : decode cL_law 146 = .ok (.iload_n 3, 1) := by decide +kernel
theorem dL_law_147 : decode cL_law 147 = .ok (.iconst 1, 1) := by decide +kernel
theorem dL_law_148 : decode cL_law 148 = .ok (.iadd, 1) := by decide +kernel
theorem dL_law_149 : decode cL_law 149 = .ok (.iaload, 1) := by decide +kernel
theorem dL_law_150 : decode cL_law 150 = .ok (.aload_n 0, 1) := by decide +kernel
theorem dL_law_151 : decode cL_law 151 = .ok (.iload_n 3, 1) := by decide +kernel
theorem dL_law_152 : decode cL_law 152 = .ok (.iconst 2, 1) := by decide +kernel
theorem dL_law_153 : decode cL_law 153 = .ok (.iadd, 1) := by decide +kernel
theorem dL_law_154 : decode cL_law 154 = .ok (.iaload, 1) := by decide +kernel
theorem dL_law_155 : decode cL_law 155 = .ok (.aload_n 0, 1) := by decide +kernel
theorem dL_law_156 : decode cL_law 156 = .ok (.iload_n 3, 1) := by decide +kernel
theorem dL_law_157 : decode cL_law 157 = .ok (.iconst 3, 1) := by decide +kernel
theorem dL_law_158 : decode cL_law 158 = .ok (.iadd, 1) := by decide +kernel
theorem dL_law_159 : decode cL_law 159 = .ok (.iaload, 1) := by decide +kernel
theorem dL_law_160 : decode cL_law 160 = .ok (.invokevirtual 13, 3) := by decide +kernel
theorem dL_law_163 : decode cL_law 163 = .ok (.aload_n 2, 1) := by decide +kernel
theorem dL_law_164 : decode cL_law 164 = .ok (.aload_n 0, 1) := by decide +kernel
theorem dL_law_165 : decode cL_law 165 = .ok (.iload_n 3, 1) := by decide +kernel
theorem dL_law_166 : decode cL_law 166 = .ok (.iconst 1, 1) := by decide +kernel
theorem dL_law_167 : decode cL_law 167 = .ok (.iadd, 1) := by decide +kernel
theorem dL_law_168 : decode cL_law 168 = .ok (.iaload, 1) := by decide +kernel
theorem dL_law_169 : decode cL_law 169 = .ok (.aload_n 0, 1) := by decide +kernel
theorem dL_law_170 : decode cL_law 170 = .ok (.iload_n 3, 1) := by decide +kernel
theorem dL_law_171 : decode cL_law 171 = .ok (.iconst 2, 1) := by decide +kernel
theorem dL_law_172 : decode cL_law 172 = .ok (.iadd, 1) := by decide +kernel
theorem dL_law_173 : decode cL_law 173 = .ok (.iaload, 1) := by decide +kernel
theorem dL_law_174 : decode cL_law 174 = .ok (.aload_n 0, 1) := by decide +kernel
theorem dL_law_175 : decode cL_law 175 = .ok (.iload_n 3, 1) := by decide +kernel
theorem dL_law_176 : decode cL_law 176 = .ok (.iconst 3, 1) := by decide +kernel
theorem dL_law_177 : decode cL_law 177 = .ok (.iadd, 1) := by decide +kernel
theorem dL_law_178 : decode cL_law 178 = .ok (.iaload, 1) := by decide +kernel
theorem dL_law_179 : decode cL_law 179 = .ok (.invokevirtual 17, 3) := by decide +kernel
theorem dL_law_182 : decode cL_law 182 = .ok (.if_icmp .eq 892, 3) := by decide +kernel
theorem dL_law_185 : decode cL_law 185 = .ok (.iconst 0, 1) := by decide +kernel
theorem dL_law_186 : decode cL_law 186 = .ok (.ireturn, 1) := by decide +kernel
theorem dL_law_187 : decode cL_law 187 = .ok (.aload_n 1, 1) := by decide +kernel
theorem dL_law_188 : decode cL_law 188 = .ok (.aload_n 0, 1) := by decide +kernel
theorem dL_law_189 : decode cL_law 189 = .ok (.iload_n 3, 1) := by decide +kernel
theorem dL_law_190 : decode cL_law 190 = .ok (.iconst 1, 1) := by decide +kernel
theorem dL_law_191 : decode cL_law 191 = .ok (.iadd, 1) := by decide +kernel
theorem dL_law_192 : decode cL_law 192 = .ok (.iaload, 1) := by decide +kernel
theorem dL_law_193 : decode cL_law 193 = .ok (.aload_n 0, 1) := by decide +kernel
theorem dL_law_194 : decode cL_law 194 = .ok (.iload_n 3, 1) := by decide +kernel
theorem dL_law_195 : decode cL_law 195 = .ok (.iconst 2, 1) := by decide +kernel
theorem dL_law_196 : decode cL_law 196 = .ok (.iadd, 1) := by decide +kernel
theorem dL_law_197 : decode cL_law 197 = .ok (.iaload, 1) := by decide +kernel
theorem dL_law_198 : decode cL_law 198 = .ok (.invokevirtual 18, 3) := by decide +kernel
theorem dL_law_201 : decode cL_law 201 = .ok (.aload_n 2, 1) := by decide +kernel
theorem dL_law_202 : decode cL_law 202 = .ok (.aload_n 0, 1) := by decide +kernel
theorem dL_law_203 : decode cL_law 203 = .ok (.iload_n 3, 1) := by decide +kernel
theorem dL_law_204 : decode cL_law 204 = .ok (.iconst 1, 1) := by decide +kernel
theorem dL_law_205 : decode cL_law 205 = .ok (.iadd, 1) := by decide +kernel
theorem dL_law_206 : decode cL_law 206 = .ok (.iaload, 1) := by decide +kernel
theorem dL_law_207 : decode cL_law 207 = .ok (.aload_n 0, 1) := by decide +kernel
theorem dL_law_208 : decode cL_law 208 = .ok (.iload_n 3, 1) := by decide +kernel
theorem dL_law_209 : decode cL_law 209 = .ok (.iconst 2, 1) := by decide +kernel
theorem dL_law_210 : decode cL_law 210 = .ok (.iadd, 1) := by decide +kernel
theorem dL_law_211 : decode cL_law 211 = .ok (.iaload, 1) := by decide +kernel
theorem dL_law_212 : decode cL_law 212 = .ok (.invokevirtual 22, 3) := by decide +kernel
theorem dL_law_215 : decode cL_law 215 = .ok (.if_icmp .eq 859, 3) := by decide +kernel
theorem dL_law_218 : decode cL_law 218 = .ok (.iconst 0, 1) := by decide +kernel
theorem dL_law_219 : decode cL_law 219 = .ok (.ireturn, 1) := by decide +kernel
theorem dL_law_220 : decode cL_law 220 = .ok (.aload_n 1, 1) := by decide +kernel
theorem dL_law_221 : decode cL_law 221 = .ok (.aload_n 0, 1) := by decide +kernel
theorem dL_law_222 : decode cL_law 222 = .ok (.iload_n 3, 1) := by decide +kernel
theorem dL_law_223 : decode cL_law 223 = .ok (.iconst 1, 1) := by decide +kernel
theorem dL_law_224 : decode cL_law 224 = .ok (.iadd, 1) := by decide +kernel
theorem dL_law_225 : decode cL_law 225 = .ok (.iaload, 1) := by decide +kernel
theorem dL_law_226 : decode cL_law 226 = .ok (.invokevirtual 23, 3) := by decide +kernel
theorem dL_law_229 : decode cL_law 229 = .ok (.aload_n 2, 1) := by decide +kernel
theorem dL_law_230 : decode cL_law 230 = .ok (.aload_n 0, 1) := by decide +kernel
theorem dL_law_231 : decode cL_law 231 = .ok (.iload_n 3, 1) := by decide +kernel
theorem dL_law_232 : decode cL_law 232 = .ok (.iconst 1, 1) := by decide +kernel
theorem dL_law_233 : decode cL_law 233 = .ok (.iadd, 1) := by decide +kernel
theorem dL_law_234 : decode cL_law 234 = .ok (.iaload, 1) := by decide +kernel
theorem dL_law_235 : decode cL_law 235 = .ok (.invokevirtual 27, 3) := by decide +kernel
theorem dL_law_238 : decode cL_law 238 = .ok (.if_icmp .eq 836, 3) := by decide +kernel
theorem dL_law_241 : decode cL_law 241 = .ok (.iconst 0, 1) := by decide +kernel
theorem dL_law_242 : decode cL_law 242 = .ok (.ireturn, 1) := by decide +kernel
theorem dL_law_243 : decode cL_law 243 = .ok (.aload_n 1, 1) := by decide +kernel
theorem dL_law_244 : decode cL_law 244 = .ok (.aload_n 0, 1) := by decide +kernel
theorem dL_law_245 : decode cL_law 245 = .ok (.iload_n 3, 1) := by decide +kernel
theorem dL_law_246 : decode cL_law 246 = .ok (.iconst 1, 1) := by decide +kernel
theorem dL_law_247 : decode cL_law 247 = .ok (.iadd, 1) := by decide +kernel
theorem dL_law_248 : decode cL_law 248 = .ok (.iaload, 1) := by decide +kernel
theorem dL_law_249 : decode cL_law 249 = .ok (.invokevirtual 28, 3) := by decide +kernel
theorem dL_law_252 : decode cL_law 252 = .ok (.aload_n 2, 1) := by decide +kernel
theorem dL_law_253 : decode cL_law 253 = .ok (.aload_n 0, 1) := by decide +kernel
theorem dL_law_254 : decode cL_law 254 = .ok (.iload_n 3, 1) := by decide +kernel
theorem dL_law_255 : decode cL_law 255 = .ok (.iconst 1, 1) := by decide +kernel
theorem dL_law_256 : decode cL_law 256 = .ok (.iadd, 1) := by decide +kernel
theorem dL_law_257 : decode cL_law 257 = .ok (.iaload, 1) := by decide +kernel
theorem dL_law_258 : decode cL_law 258 = .ok (.invokevirtual 31, 3) := by decide +kernel
theorem dL_law_261 : decode cL_law 261 = .ok (.if_icmp .eq 813, 3) := by decide +kernel
theorem dL_law_264 : decode cL_law 264 = .ok (.iconst 0, 1) := by decide +kernel
theorem dL_law_265 : decode cL_law 265 = .ok (.ireturn, 1) := by decide +kernel
theorem dL_law_266 : decode cL_law 266 = .ok (.aload_n 1, 1) := by decide +kernel
theorem dL_law_267 : decode cL_law 267 = .ok (.aload_n 0, 1) := by decide +kernel
theorem dL_law_268 : decode cL_law 268 = .ok (.iload_n 3, 1) := by decide +kernel
theorem dL_law_269 : decode cL_law 269 = .ok (.iconst 1, 1) := by decide +kernel
theorem dL_law_270 : decode cL_law 270 = .ok (.iadd, 1) := by decide +kernel
theorem dL_law_271 : decode cL_law 271 = .ok (.iaload, 1) := by decide +kernel
theorem dL_law_272 : decode cL_law 272 = .ok (.invokevirtual 32, 3) := by decide +kernel
theorem dL_law_275 : decode cL_law 275 = .ok (.aload_n 2, 1) := by decide +kernel
theorem dL_law_276 : decode cL_law 276 = .ok (.aload_n 0, 1) := by decide +kernel
theorem dL_law_277 : decode cL_law 277 = .ok (.iload_n 3, 1) := by decide +kernel
theorem dL_law_278 : decode cL_law 278 = .ok (.iconst 1, 1) := by decide +kernel
theorem dL_law_279 : decode cL_law 279 = .ok (.iadd, 1) := by decide +kernel
theorem dL_law_280 : decode cL_law 280 = .ok (.iaload, 1) := by decide +kernel
theorem dL_law_281 : decode cL_law 281 = .ok (.invokevirtual 35, 3) := by decide +kernel
theorem dL_law_284 : decode cL_law 284 = .ok (.if_icmp .eq 790, 3) := by decide +kernel
theorem dL_law_287 : decode cL_law 287 = .ok (.iconst 0, 1) := by decide +kernel
theorem dL_law_288 : decode cL_law 288 = .ok (.ireturn, 1) := by decide +kernel
theorem dL_law_289 : decode cL_law 289 = .ok (.aload_n 1, 1) := by decide +kernel
theorem dL_law_290 : decode cL_law 290 = .ok (.aload_n 0, 1) := by decide +kernel
theorem dL_law_291 : decode cL_law 291 = .ok (.iload_n 3, 1) := by decide +kernel
theorem dL_law_292 : decode cL_law 292 = .ok (.iconst 1, 1) := by decide +kernel
theorem dL_law_293 : decode cL_law 293 = .ok (.iadd, 1) := by decide +kernel
theorem dL_law_294 : decode cL_law 294 = .ok (.iaload, 1) := by decide +kernel
theorem dL_law_295 : decode cL_law 295 = .ok (.invokevirtual 36, 3) := by decide +kernel
theorem dL_law_298 : decode cL_law 298 = .ok (.aload_n 2, 1) := by decide +kernel
theorem dL_law_299 : decode cL_law 299 = .ok (.aload_n 0, 1) := by decide +kernel
theorem dL_law_300 : decode cL_law 300 = .ok (.iload_n 3, 1) := by decide +kernel
theorem dL_law_301 : decode cL_law 301 = .ok (.iconst 1, 1) := by decide +kernel
theorem dL_law_302 : decode cL_law 302 = .ok (.iadd, 1) := by decide +kernel
theorem dL_law_303 : decode cL_law 303 = .ok (.iaload, 1) := by decide +kernel
theorem dL_law_304 : decode cL_law 304 = .ok (.invokevirtual 39, 3) := by decide +kernel
theorem dL_law_307 : decode cL_law 307 = .ok (.if_icmp .eq 767, 3) := by decide +kernel
theorem dL_law_310 : decode cL_law 310 = .ok (.iconst 0, 1) := by decide +kernel
theorem dL_law_311 : decode cL_law 311 = .ok (.ireturn, 1) := by decide +kernel
theorem dL_law_312 : decode cL_law 312 = .ok (.aload_n 1, 1) := by decide +kernel
theorem dL_law_313 : decode cL_law 313 = .ok (.aload_n 0, 1) := by decide +kernel
theorem dL_law_314 : decode cL_law 314 = .ok (.iload_n 3, 1) := by decide +kernel
theorem dL_law_315 : decode cL_law 315 = .ok (.iconst 1, 1) := by decide +kernel
theorem dL_law_316 : decode cL_law 316 = .ok (.iadd, 1) := by decide +kernel
theorem dL_law_317 : decode cL_law 317 = .ok (.iaload, 1) := by decide +kernel
theorem dL_law_318 : decode cL_law 318 = .ok (.aload_n 0, 1) := by decide +kernel
theorem dL_law_319 : decode cL_law 319 = .ok (.iload_n 3, 1) := by decide +kernel
theorem dL_law_320 : decode cL_law 320 = .ok (.iconst 2, 1) := by decide +kernel
theorem dL_law_321 : decode cL_law 321 = .ok (.iadd, 1) := by decide +kernel
theorem dL_law_322 : decode cL_law 322 = .ok (.iaload, 1) := by decide +kernel
theorem dL_law_323 : decode cL_law 323 = .ok (.aload_n 0, 1) := by decide +kernel
theorem dL_law_324 : decode cL_law 324 = .ok (.iload_n 3, 1) := by decide +kernel
theorem dL_law_325 : decode cL_law 325 = .ok (.iconst 3, 1) := by decide +kernel
theorem dL_law_326 : decode cL_law 326 = .ok (.iadd, 1) := by decide +kernel
theorem dL_law_327 : decode cL_law 327 = .ok (.iaload, 1) := by decide +kernel
theorem dL_law_328 : decode cL_law 328 = .ok (.aload_n 0, 1) := by decide +kernel
theorem dL_law_329 : decode cL_law 329 = .ok (.iload_n 3, 1) := by decide +kernel
theorem dL_law_330 : decode cL_law 330 = .ok (.iconst 4, 1) := by decide +kernel
theorem dL_law_331 : decode cL_law 331 = .ok (.iadd, 1) := by decide +kernel
theorem dL_law_332 : decode cL_law 332 = .ok (.iaload, 1) := by decide +kernel
theorem dL_law_333 : decode cL_law 333 = .ok (.aload_n 0, 1) := by decide +kernel
theorem dL_law_334 : decode cL_law 334 = .ok (.iload_n 3, 1) := by decide +kernel
theorem dL_law_335 : decode cL_law 335 = .ok (.iconst 5, 1) := by decide +kernel
theorem dL_law_336 : decode cL_law 336 = .ok (.iadd, 1) := by decide +kernel
theorem dL_law_337 : decode cL_law 337 = .ok (.iaload, 1) := by decide +kernel
theorem dL_law_338 : decode cL_law 338 = .ok (.invokevirtual 40, 3) := by decide +kernel
theorem dL_law_341 : decode cL_law 341 = .ok (.aload_n 2, 1) := by decide +kernel
theorem dL_law_342 : decode cL_law 342 = .ok (.aload_n 0, 1) := by decide +kernel
theorem dL_law_343 : decode cL_law 343 = .ok (.iload_n 3, 1) := by decide +kernel
theorem dL_law_344 : decode cL_law 344 = .ok (.iconst 1, 1) := by decide +kernel
theorem dL_law_345 : decode cL_law 345 = .ok (.iadd, 1) := by decide +kernel
theorem dL_law_346 : decode cL_law 346 = .ok (.iaload, 1) := by decide +kernel
theorem dL_law_347 : decode cL_law 347 = .ok (.aload_n 0, 1) := by decide +kernel
theorem dL_law_348 : decode cL_law 348 = .ok (.iload_n 3, 1) := by decide +kernel
theorem dL_law_349 : decode cL_law 349 = .ok (.iconst 2, 1) := by decide +kernel
theorem dL_law_350 : decode cL_law 350 = .ok (.iadd, 1) := by decide +kernel
theorem dL_law_351 : decode cL_law 351 = .ok (.iaload, 1) := by decide +kernel
theorem dL_law_352 : decode cL_law 352 = .ok (.aload_n 0, 1) := by decide +kernel
theorem dL_law_353 : decode cL_law 353 = .ok (.iload_n 3, 1) := by decide +kernel
theorem dL_law_354 : decode cL_law 354 = .ok (.iconst 3, 1) := by decide +kernel
theorem dL_law_355 : decode cL_law 355 = .ok (.iadd, 1) := by decide +kernel
theorem dL_law_356 : decode cL_law 356 = .ok (.iaload, 1) := by decide +kernel
theorem dL_law_357 : decode cL_law 357 = .ok (.aload_n 0, 1) := by decide +kernel
theorem dL_law_358 : decode cL_law 358 = .ok (.iload_n 3, 1) := by decide +kernel
theorem dL_law_359 : decode cL_law 359 = .ok (.iconst 4, 1) := by decide +kernel
theorem dL_law_360 : decode cL_law 360 = .ok (.iadd, 1) := by decide +kernel
theorem dL_law_361 : decode cL_law 361 = .ok (.iaload, 1) := by decide +kernel
theorem dL_law_362 : decode cL_law 362 = .ok (.aload_n 0, 1) := by decide +kernel
theorem dL_law_363 : decode cL_law 363 = .ok (.iload_n 3, 1) := by decide +kernel
theorem dL_law_364 : decode cL_law 364 = .ok (.iconst 5, 1) := by decide +kernel
theorem dL_law_365 : decode cL_law 365 = .ok (.iadd, 1) := by decide +kernel
theorem dL_law_366 : decode cL_law 366 = .ok (.iaload, 1) := by decide +kernel
theorem dL_law_367 : decode cL_law 367 = .ok (.invokevirtual 44, 3) := by decide +kernel
theorem dL_law_370 : decode cL_law 370 = .ok (.if_icmp .eq 704, 3) := by decide +kernel
theorem dL_law_373 : decode cL_law 373 = .ok (.iconst 0, 1) := by decide +kernel
theorem dL_law_374 : decode cL_law 374 = .ok (.ireturn, 1) := by decide +kernel
theorem dL_law_375 : decode cL_law 375 = .ok (.aload_n 1, 1) := by decide +kernel
theorem dL_law_376 : decode cL_law 376 = .ok (.aload_n 0, 1) := by decide +kernel
theorem dL_law_377 : decode cL_law 377 = .ok (.iload_n 3, 1) := by decide +kernel
theorem dL_law_378 : decode cL_law 378 = .ok (.iconst 1, 1) := by decide +kernel
theorem dL_law_379 : decode cL_law 379 = .ok (.iadd, 1) := by decide +kernel
theorem dL_law_380 : decode cL_law 380 = .ok (.iaload, 1) := by decide +kernel
theorem dL_law_381 : decode cL_law 381 = .ok (.aload_n 0, 1) := by decide +kernel
theorem dL_law_382 : decode cL_law 382 = .ok (.iload_n 3, 1) := by decide +kernel
theorem dL_law_383 : decode cL_law 383 = .ok (.iconst 2, 1) := by decide +kernel
theorem dL_law_384 : decode cL_law 384 = .ok (.iadd, 1) := by decide +kernel
theorem dL_law_385 : decode cL_law 385 = .ok (.iaload, 1) := by decide +kernel
theorem dL_law_386 : decode cL_law 386 = .ok (.aload_n 0, 1) := by decide +kernel
theorem dL_law_387 : decode cL_law 387 = .ok (.iload_n 3, 1) := by decide +kernel
theorem dL_law_388 : decode cL_law 388 = .ok (.iconst 3, 1) := by decide +kernel
theorem dL_law_389 : decode cL_law 389 = .ok (.iadd, 1) := by decide +kernel
theorem dL_law_390 : decode cL_law 390 = .ok (.iaload, 1) := by decide +kernel
theorem dL_law_391 : decode cL_law 391 = .ok (.aload_n 0, 1) := by decide +kernel
theorem dL_law_392 : decode cL_law 392 = .ok (.iload_n 3, 1) := by decide +kernel
theorem dL_law_393 : decode cL_law 393 = .ok (.iconst 4, 1) := by decide +kernel
theorem dL_law_394 : decode cL_law 394 = .ok (.iadd, 1) := by decide +kernel
theorem dL_law_395 : decode cL_law 395 = .ok (.iaload, 1) := by decide +kernel
theorem dL_law_396 : decode cL_law 396 = .ok (.aload_n 0, 1) := by decide +kernel
theorem dL_law_397 : decode cL_law 397 = .ok (.iload_n 3, 1) := by decide +kernel
theorem dL_law_398 : decode cL_law 398 = .ok (.iconst 5, 1) := by decide +kernel
theorem dL_law_399 : decode cL_law 399 = .ok (.iadd, 1) := by decide +kernel
theorem dL_law_400 : decode cL_law 400 = .ok (.iaload, 1) := by decide +kernel
theorem dL_law_401 : decode cL_law 401 = .ok (.invokevirtual 45, 3) := by decide +kernel
theorem dL_law_404 : decode cL_law 404 = .ok (.aload_n 2, 1) := by decide +kernel
theorem dL_law_405 : decode cL_law 405 = .ok (.aload_n 0, 1) := by decide +kernel
theorem dL_law_406 : decode cL_law 406 = .ok (.iload_n 3, 1) := by decide +kernel
theorem dL_law_407 : decode cL_law 407 = .ok (.iconst 1, 1) := by decide +kernel
theorem dL_law_408 : decode cL_law 408 = .ok (.iadd, 1) := by decide +kernel
theorem dL_law_409 : decode cL_law 409 = .ok (.iaload, 1) := by decide +kernel
theorem dL_law_410 : decode cL_law 410 = .ok (.aload_n 0, 1) := by decide +kernel
theorem dL_law_411 : decode cL_law 411 = .ok (.iload_n 3, 1) := by decide +kernel
theorem dL_law_412 : decode cL_law 412 = .ok (.iconst 2, 1) := by decide +kernel
theorem dL_law_413 : decode cL_law 413 = .ok (.iadd, 1) := by decide +kernel
theorem dL_law_414 : decode cL_law 414 = .ok (.iaload, 1) := by decide +kernel
theorem dL_law_415 : decode cL_law 415 = .ok (.aload_n 0, 1) := by decide +kernel
theorem dL_law_416 : decode cL_law 416 = .ok (.iload_n 3, 1) := by decide +kernel
theorem dL_law_417 : decode cL_law 417 = .ok (.iconst 3, 1) := by decide +kernel
theorem dL_law_418 : decode cL_law 418 = .ok (.iadd, 1) := by decide +kernel
theorem dL_law_419 : decode cL_law 419 = .ok (.iaload, 1) := by decide +kernel
theorem dL_law_420 : decode cL_law 420 = .ok (.aload_n 0, 1) := by decide +kernel
theorem dL_law_421 : decode cL_law 421 = .ok (.iload_n 3, 1) := by decide +kernel
theorem dL_law_422 : decode cL_law 422 = .ok (.iconst 4, 1) := by decide +kernel
theorem dL_law_423 : decode cL_law 423 = .ok (.iadd, 1) := by decide +kernel
theorem dL_law_424 : decode cL_law 424 = .ok (.iaload, 1) := by decide +kernel
theorem dL_law_425 : decode cL_law 425 = .ok (.aload_n 0, 1) := by decide +kernel
theorem dL_law_426 : decode cL_law 426 = .ok (.iload_n 3, 1) := by decide +kernel
theorem dL_law_427 : decode cL_law 427 = .ok (.iconst 5, 1) := by decide +kernel
theorem dL_law_428 : decode cL_law 428 = .ok (.iadd, 1) := by decide +kernel
theorem dL_law_429 : decode cL_law 429 = .ok (.iaload, 1) := by decide +kernel
theorem dL_law_430 : decode cL_law 430 = .ok (.invokevirtual 48, 3) := by decide +kernel
theorem dL_law_433 : decode cL_law 433 = .ok (.if_icmp .eq 641, 3) := by decide +kernel
theorem dL_law_436 : decode cL_law 436 = .ok (.iconst 0, 1) := by decide +kernel
theorem dL_law_437 : decode cL_law 437 = .ok (.ireturn, 1) := by decide +kernel
theorem dL_law_438 : decode cL_law 438 = .ok (.aload_n 1, 1) := by decide +kernel
theorem dL_law_439 : decode cL_law 439 = .ok (.aload_n 0, 1) := by decide +kernel
theorem dL_law_440 : decode cL_law 440 = .ok (.iload_n 3, 1) := by decide +kernel
theorem dL_law_441 : decode cL_law 441 = .ok (.iconst 1, 1) := by decide +kernel
theorem dL_law_442 : decode cL_law 442 = .ok (.iadd, 1) := by decide +kernel
theorem dL_law_443 : decode cL_law 443 = .ok (.iaload, 1) := by decide +kernel
theorem dL_law_444 : decode cL_law 444 = .ok (.aload_n 0, 1) := by decide +kernel
theorem dL_law_445 : decode cL_law 445 = .ok (.iload_n 3, 1) := by decide +kernel
theorem dL_law_446 : decode cL_law 446 = .ok (.iconst 2, 1) := by decide +kernel
theorem dL_law_447 : decode cL_law 447 = .ok (.iadd, 1) := by decide +kernel
theorem dL_law_448 : decode cL_law 448 = .ok (.iaload, 1) := by decide +kernel
theorem dL_law_449 : decode cL_law 449 = .ok (.aload_n 0, 1) := by decide +kernel
theorem dL_law_450 : decode cL_law 450 = .ok (.iload_n 3, 1) := by decide +kernel
theorem dL_law_451 : decode cL_law 451 = .ok (.iconst 3, 1) := by decide +kernel
theorem dL_law_452 : decode cL_law 452 = .ok (.iadd, 1) := by decide +kernel
theorem dL_law_453 : decode cL_law 453 = .ok (.iaload, 1) := by decide +kernel
theorem dL_law_454 : decode cL_law 454 = .ok (.invokevirtual 49, 3) := by decide +kernel
theorem dL_law_457 : decode cL_law 457 = .ok (.aload_n 2, 1) := by decide +kernel
theorem dL_law_458 : decode cL_law 458 = .ok (.aload_n 0, 1) := by decide +kernel
theorem dL_law_459 : decode cL_law 459 = .ok (.iload_n 3, 1) := by decide +kernel
theorem dL_law_460 : decode cL_law 460 = .ok (.iconst 1, 1) := by decide +kernel
theorem dL_law_461 : decode cL_law 461 = .ok (.iadd, 1) := by decide +kernel
theorem dL_law_462 : decode cL_law 462 = .ok (.iaload, 1) := by decide +kernel
theorem dL_law_463 : decode cL_law 463 = .ok (.aload_n 0, 1) := by decide +kernel
theorem dL_law_464 : decode cL_law 464 = .ok (.iload_n 3, 1) := by decide +kernel
theorem dL_law_465 : decode cL_law 465 = .ok (.iconst 2, 1) := by decide +kernel
theorem dL_law_466 : decode cL_law 466 = .ok (.iadd, 1) := by decide +kernel
theorem dL_law_467 : decode cL_law 467 = .ok (.iaload, 1) := by decide +kernel
theorem dL_law_468 : decode cL_law 468 = .ok (.aload_n 0, 1) := by decide +kernel
theorem dL_law_469 : decode cL_law 469 = .ok (.iload_n 3, 1) := by decide +kernel
theorem dL_law_470 : decode cL_law 470 = .ok (.iconst 3, 1) := by decide +kernel
theorem dL_law_471 : decode cL_law 471 = .ok (.iadd, 1) := by decide +kernel
theorem dL_law_472 : decode cL_law 472 = .ok (.iaload, 1) := by decide +kernel
theorem dL_law_473 : decode cL_law 473 = .ok (.invokevirtual 52, 3) := by decide +kernel
theorem dL_law_476 : decode cL_law 476 = .ok (.if_icmp .eq 598, 3) := by decide +kernel
theorem dL_law_479 : decode cL_law 479 = .ok (.iconst 0, 1) := by decide +kernel
theorem dL_law_480 : decode cL_law 480 = .ok (.ireturn, 1) := by decide +kernel
theorem dL_law_481 : decode cL_law 481 = .ok (.aload_n 1, 1) := by decide +kernel
theorem dL_law_482 : decode cL_law 482 = .ok (.aload_n 0, 1) := by decide +kernel
theorem dL_law_483 : decode cL_law 483 = .ok (.iload_n 3, 1) := by decide +kernel
theorem dL_law_484 : decode cL_law 484 = .ok (.iconst 1, 1) := by decide +kernel
theorem dL_law_485 : decode cL_law 485 = .ok (.iadd, 1) := by decide +kernel
theorem dL_law_486 : decode cL_law 486 = .ok (.iaload, 1) := by decide +kernel
theorem dL_law_487 : decode cL_law 487 = .ok (.aload_n 0, 1) := by decide +kernel
theorem dL_law_488 : decode cL_law 488 = .ok (.iload_n 3, 1) := by decide +kernel
theorem dL_law_489 : decode cL_law 489 = .ok (.iconst 2, 1) := by decide +kernel
theorem dL_law_490 : decode cL_law 490 = .ok (.iadd, 1) := by decide +kernel
theorem dL_law_491 : decode cL_law 491 = .ok (.iaload, 1) := by decide +kernel
theorem dL_law_492 : decode cL_law 492 = .ok (.aload_n 0, 1) := by decide +kernel
theorem dL_law_493 : decode cL_law 493 = .ok (.iload_n 3, 1) := by decide +kernel
theorem dL_law_494 : decode cL_law 494 = .ok (.iconst 3, 1) := by decide +kernel
theorem dL_law_495 : decode cL_law 495 = .ok (.iadd, 1) := by decide +kernel
theorem dL_law_496 : decode cL_law 496 = .ok (.iaload, 1) := by decide +kernel
theorem dL_law_497 : decode cL_law 497 = .ok (.invokevirtual 53, 3) := by decide +kernel
theorem dL_law_500 : decode cL_law 500 = .ok (.aload_n 2, 1) := by decide +kernel
theorem dL_law_501 : decode cL_law 501 = .ok (.aload_n 0, 1) := by decide +kernel
theorem dL_law_502 : decode cL_law 502 = .ok (.iload_n 3, 1) := by decide +kernel
theorem dL_law_503 : decode cL_law 503 = .ok (.iconst 1, 1) := by decide +kernel
theorem dL_law_504 : decode cL_law 504 = .ok (.iadd, 1) := by decide +kernel
theorem dL_law_505 : decode cL_law 505 = .ok (.iaload, 1) := by decide +kernel
theorem dL_law_506 : decode cL_law 506 = .ok (.aload_n 0, 1) := by decide +kernel
theorem dL_law_507 : decode cL_law 507 = .ok (.iload_n 3, 1) := by decide +kernel
theorem dL_law_508 : decode cL_law 508 = .ok (.iconst 2, 1) := by decide +kernel
theorem dL_law_509 : decode cL_law 509 = .ok (.iadd, 1) := by decide +kernel
theorem dL_law_510 : decode cL_law 510 = .ok (.iaload, 1) := by decide +kernel
theorem dL_law_511 : decode cL_law 511 = .ok (.aload_n 0, 1) := by decide +kernel
theorem dL_law_512 : decode cL_law 512 = .ok (.iload_n 3, 1) := by decide +kernel
theorem dL_law_513 : decode cL_law 513 = .ok (.iconst 3, 1) := by decide +kernel
theorem dL_law_514 : decode cL_law 514 = .ok (.iadd, 1) := by decide +kernel
theorem dL_law_515 : decode cL_law 515 = .ok (.iaload, 1) := by decide +kernel
theorem dL_law_516 : decode cL_law 516 = .ok (.invokevirtual 57, 3) := by decide +kernel
theorem dL_law_519 : decode cL_law 519 = .ok (.lcmp, 1) := by decide +kernel
theorem dL_law_520 : decode cL_law 520 = .ok (.ifCond .eq 554, 3) := by decide +kernel
theorem dL_law_523 : decode cL_law 523 = .ok (.iconst 0, 1) := by decide +kernel
theorem dL_law_524 : decode cL_law 524 = .ok (.ireturn, 1) := by decide +kernel
theorem dL_law_525 : decode cL_law 525 = .ok (.aload_n 1, 1) := by decide +kernel
theorem dL_law_526 : decode cL_law 526 = .ok (.aload_n 0, 1) := by decide +kernel
theorem dL_law_527 : decode cL_law 527 = .ok (.iload_n 3, 1) := by decide +kernel
theorem dL_law_528 : decode cL_law 528 = .ok (.iconst 1, 1) := by decide +kernel
theorem dL_law_529 : decode cL_law 529 = .ok (.iadd, 1) := by decide +kernel
theorem dL_law_530 : decode cL_law 530 = .ok (.iaload, 1) := by decide +kernel
theorem dL_law_531 : decode cL_law 531 = .ok (.aload_n 0, 1) := by decide +kernel
theorem dL_law_532 : decode cL_law 532 = .ok (.iload_n 3, 1) := by decide +kernel
theorem dL_law_533 : decode cL_law 533 = .ok (.iconst 2, 1) := by decide +kernel
theorem dL_law_534 : decode cL_law 534 = .ok (.iadd, 1) := by decide +kernel
theorem dL_law_535 : decode cL_law 535 = .ok (.iaload, 1) := by decide +kernel
theorem dL_law_536 : decode cL_law 536 = .ok (.aload_n 0, 1) := by decide +kernel
theorem dL_law_537 : decode cL_law 537 = .ok (.iload_n 3, 1) := by decide +kernel
theorem dL_law_538 : decode cL_law 538 = .ok (.iconst 3, 1) := by decide +kernel
theorem dL_law_539 : decode cL_law 539 = .ok (.iadd, 1) := by decide +kernel
theorem dL_law_540 : decode cL_law 540 = .ok (.iaload, 1) := by decide +kernel
theorem dL_law_541 : decode cL_law 541 = .ok (.invokevirtual 58, 3) := by decide +kernel
theorem dL_law_544 : decode cL_law 544 = .ok (.dstore 4, 2) := by decide +kernel
theorem dL_law_546 : decode cL_law 546 = .ok (.aload_n 2, 1) := by decide +kernel
theorem dL_law_547 : decode cL_law 547 = .ok (.aload_n 0, 1) := by decide +kernel
theorem dL_law_548 : decode cL_law 548 = .ok (.iload_n 3, 1) := by decide +kernel
theorem dL_law_549 : decode cL_law 549 = .ok (.iconst 1, 1) := by decide +kernel
theorem dL_law_550 : decode cL_law 550 = .ok (.iadd, 1) := by decide +kernel
theorem dL_law_551 : decode cL_law 551 = .ok (.iaload, 1) := by decide +kernel
theorem dL_law_552 : decode cL_law 552 = .ok (.aload_n 0, 1) := by decide +kernel
theorem dL_law_553 : decode cL_law 553 = .ok (.iload_n 3, 1) := by decide +kernel
theorem dL_law_554 : decode cL_law 554 = .ok (.iconst 2, 1) := by decide +kernel
theorem dL_law_555 : decode cL_law 555 = .ok (.iadd, 1) := by decide +kernel
theorem dL_law_556 : decode cL_law 556 = .ok (.iaload, 1) := by decide +kernel
theorem dL_law_557 : decode cL_law 557 = .ok (.aload_n 0, 1) := by decide +kernel
theorem dL_law_558 : decode cL_law 558 = .ok (.iload_n 3, 1) := by decide +kernel
theorem dL_law_559 : decode cL_law 559 = .ok (.iconst 3, 1) := by decide +kernel
theorem dL_law_560 : decode cL_law 560 = .ok (.iadd, 1) := by decide +kernel
theorem dL_law_561 : decode cL_law 561 = .ok (.iaload, 1) := by decide +kernel
theorem dL_law_562 : decode cL_law 562 = .ok (.invokevirtual 62, 3) := by decide +kernel
theorem dL_law_565 : decode cL_law 565 = .ok (.dstore 6, 2) := by decide +kernel
theorem dL_law_567 : decode cL_law 567 = .ok (.dload 4, 2) := by decide +kernel
theorem dL_law_569 : decode cL_law 569 = .ok (.dload 6, 2) := by decide +kernel
theorem dL_law_571 : decode cL_law 571 = .ok (.dcmp .l, 1) := by decide +kernel
theorem dL_law_572 : decode cL_law 572 = .ok (.ifCond .eq 21, 3) := by decide +kernel
theorem dL_law_575 : decode cL_law 575 = .ok (.dload 4, 2) := by decide +kernel
theorem dL_law_577 : decode cL_law 577 = .ok (.dload 4, 2) := by decide +kernel
theorem dL_law_579 : decode cL_law 579 = .ok (.dcmp .l, 1) := by decide +kernel
theorem dL_law_580 : decode cL_law 580 = .ok (.ifCond .eq 11, 3) := by decide +kernel
theorem dL_law_583 : decode cL_law 583 = .ok (.dload 6, 2) := by decide +kernel
theorem dL_law_585 : decode cL_law 585 = .ok (.dload 6, 2) := by decide +kernel
theorem dL_law_587 : decode cL_law 587 = .ok (.dcmp .l, 1) := by decide +kernel
theorem dL_law_588 : decode cL_law 588 = .ok (.ifCond .ne 5, 3) := by decide +kernel
theorem dL_law_591 : decode cL_law 591 = .ok (.iconst 0, 1) := by decide +kernel
theorem dL_law_592 : decode cL_law 592 = .ok (.ireturn, 1) := by decide +kernel
theorem dL_law_593 : decode cL_law 593 = .ok (.goto 481, 3) := by decide +kernel
theorem dL_law_596 : decode cL_law 596 = .ok (.aload_n 1, 1) := by decide +kernel
theorem dL_law_597 : decode cL_law 597 = .ok (.aload_n 0, 1) := by decide +kernel
theorem dL_law_598 : decode cL_law 598 = .ok (.iload_n 3, 1) := by decide +kernel
theorem dL_law_599 : decode cL_law 599 = .ok (.iconst 1, 1) := by decide +kernel
theorem dL_law_600 : decode cL_law 600 = .ok (.iadd, 1) := by decide +kernel
theorem dL_law_601 : decode cL_law 601 = .ok (.iaload, 1) := by decide +kernel
theorem dL_law_602 : decode cL_law 602 = .ok (.aload_n 0, 1) := by decide +kernel
theorem dL_law_603 : decode cL_law 603 = .ok (.iload_n 3, 1) := by decide +kernel
theorem dL_law_604 : decode cL_law 604 = .ok (.iconst 2, 1) := by decide +kernel
theorem dL_law_605 : decode cL_law 605 = .ok (.iadd, 1) := by decide +kernel
theorem dL_law_606 : decode cL_law 606 = .ok (.iaload, 1) := by decide +kernel
theorem dL_law_607 : decode cL_law 607 = .ok (.invokevirtual 63, 3) := by decide +kernel
theorem dL_law_610 : decode cL_law 610 = .ok (.aload_n 2, 1) := by decide +kernel
theorem dL_law_611 : decode cL_law 611 = .ok (.aload_n 0, 1) := by decide +kernel
theorem dL_law_612 : decode cL_law 612 = .ok (.iload_n 3, 1) := by decide +kernel
theorem dL_law_613 : decode cL_law 613 = .ok (.iconst 1, 1) := by decide +kernel
theorem dL_law_614 : decode cL_law 614 = .ok (.iadd, 1) := by decide +kernel
theorem dL_law_615 : decode cL_law 615 = .ok (.iaload, 1) := by decide +kernel
theorem dL_law_616 : decode cL_law 616 = .ok (.aload_n 0, 1) := by decide +kernel
theorem dL_law_617 : decode cL_law 617 = .ok (.iload_n 3, 1) := by decide +kernel
theorem dL_law_618 : decode cL_law 618 = .ok (.iconst 2, 1) := by decide +kernel
theorem dL_law_619 : decode cL_law 619 = .ok (.iadd, 1) := by decide +kernel
theorem dL_law_620 : decode cL_law 620 = .ok (.iaload, 1) := by decide +kernel
theorem dL_law_621 : decode cL_law 621 = .ok (.invokevirtual 66, 3) := by decide +kernel
theorem dL_law_624 : decode cL_law 624 = .ok (.if_icmp .eq 450, 3) := by decide +kernel
theorem dL_law_627 : decode cL_law 627 = .ok (.iconst 0, 1) := by decide +kernel
theorem dL_law_628 : decode cL_law 628 = .ok (.ireturn, 1) := by decide +kernel
theorem dL_law_629 : decode cL_law 629 = .ok (.aload_n 1, 1) := by decide +kernel
theorem dL_law_630 : decode cL_law 630 = .ok (.aload_n 0, 1) := by decide +kernel
theorem dL_law_631 : decode cL_law 631 = .ok (.iload_n 3, 1) := by decide +kernel
theorem dL_law_632 : decode cL_law 632 = .ok (.iconst 1, 1) := by decide +kernel
theorem dL_law_633 : decode cL_law 633 = .ok (.iadd, 1) := by decide +kernel
theorem dL_law_634 : decode cL_law 634 = .ok (.iaload, 1) := by decide +kernel
theorem dL_law_635 : decode cL_law 635 = .ok (.aload_n 0, 1) := by decide +kernel
theorem dL_law_636 : decode cL_law 636 = .ok (.iload_n 3, 1) := by decide +kernel
theorem dL_law_637 : decode cL_law 637 = .ok (.iconst 2, 1) := by decide +kernel
theorem dL_law_638 : decode cL_law 638 = .ok (.iadd, 1) := by decide +kernel
theorem dL_law_639 : decode cL_law 639 = .ok (.iaload, 1) := by decide +kernel
theorem dL_law_640 : decode cL_law 640 = .ok (.aload_n 0, 1) := by decide +kernel
theorem dL_law_641 : decode cL_law 641 = .ok (.iload_n 3, 1) := by decide +kernel
theorem dL_law_642 : decode cL_law 642 = .ok (.iconst 3, 1) := by decide +kernel
theorem dL_law_643 : decode cL_law 643 = .ok (.iadd, 1) := by decide +kernel
theorem dL_law_644 : decode cL_law 644 = .ok (.iaload, 1) := by decide +kernel
theorem dL_law_645 : decode cL_law 645 = .ok (.invokevirtual 67, 3) := by decide +kernel
theorem dL_law_648 : decode cL_law 648 = .ok (.aload_n 2, 1) := by decide +kernel
theorem dL_law_649 : decode cL_law 649 = .ok (.aload_n 0, 1) := by decide +kernel
theorem dL_law_650 : decode cL_law 650 = .ok (.iload_n 3, 1) := by decide +kernel
theorem dL_law_651 : decode cL_law 651 = .ok (.iconst 1, 1) := by decide +kernel
theorem dL_law_652 : decode cL_law 652 = .ok (.iadd, 1) := by decide +kernel
theorem dL_law_653 : decode cL_law 653 = .ok (.iaload, 1) := by decide +kernel
theorem dL_law_654 : decode cL_law 654 = .ok (.aload_n 0, 1) := by decide +kernel
theorem dL_law_655 : decode cL_law 655 = .ok (.iload_n 3, 1) := by decide +kernel
theorem dL_law_656 : decode cL_law 656 = .ok (.iconst 2, 1) := by decide +kernel
theorem dL_law_657 : decode cL_law 657 = .ok (.iadd, 1) := by decide +kernel
theorem dL_law_658 : decode cL_law 658 = .ok (.iaload, 1) := by decide +kernel
theorem dL_law_659 : decode cL_law 659 = .ok (.aload_n 0, 1) := by decide +kernel
theorem dL_law_660 : decode cL_law 660 = .ok (.iload_n 3, 1) := by decide +kernel
theorem dL_law_661 : decode cL_law 661 = .ok (.iconst 3, 1) := by decide +kernel
theorem dL_law_662 : decode cL_law 662 = .ok (.iadd, 1) := by decide +kernel
theorem dL_law_663 : decode cL_law 663 = .ok (.iaload, 1) := by decide +kernel
theorem dL_law_664 : decode cL_law 664 = .ok (.invokevirtual 70, 3) := by decide +kernel
theorem dL_law_667 : decode cL_law 667 = .ok (.if_icmp .eq 407, 3) := by decide +kernel
theorem dL_law_670 : decode cL_law 670 = .ok (.iconst 0, 1) := by decide +kernel
theorem dL_law_671 : decode cL_law 671 = .ok (.ireturn, 1) := by decide +kernel
theorem dL_law_672 : decode cL_law 672 = .ok (.aload_n 1, 1) := by decide +kernel
theorem dL_law_673 : decode cL_law 673 = .ok (.aload_n 0, 1) := by decide +kernel
theorem dL_law_674 : decode cL_law 674 = .ok (.iload_n 3, 1) := by decide +kernel
theorem dL_law_675 : decode cL_law 675 = .ok (.iconst 1, 1) := by decide +kernel
theorem dL_law_676 : decode cL_law 676 = .ok (.iadd, 1) := by decide +kernel
theorem dL_law_677 : decode cL_law 677 = .ok (.iaload, 1) := by decide +kernel
theorem dL_law_678 : decode cL_law 678 = .ok (.aload_n 0, 1) := by decide +kernel
theorem dL_law_679 : decode cL_law 679 = .ok (.iload_n 3, 1) := by decide +kernel
theorem dL_law_680 : decode cL_law 680 = .ok (.iconst 2, 1) := by decide +kernel
theorem dL_law_681 : decode cL_law 681 = .ok (.iadd, 1) := by decide +kernel
theorem dL_law_682 : decode cL_law 682 = .ok (.iaload, 1) := by decide +kernel
theorem dL_law_683 : decode cL_law 683 = .ok (.invokevirtual 71, 3) := by decide +kernel
theorem dL_law_686 : decode cL_law 686 = .ok (.aload_n 2, 1) := by decide +kernel
theorem dL_law_687 : decode cL_law 687 = .ok (.aload_n 0, 1) := by decide +kernel
theorem dL_law_688 : decode cL_law 688 = .ok (.iload_n 3, 1) := by decide +kernel
theorem dL_law_689 : decode cL_law 689 = .ok (.iconst 1, 1) := by decide +kernel
theorem dL_law_690 : decode cL_law 690 = .ok (.iadd, 1) := by decide +kernel
theorem dL_law_691 : decode cL_law 691 = .ok (.iaload, 1) := by decide +kernel
theorem dL_law_692 : decode cL_law 692 = .ok (.aload_n 0, 1) := by decide +kernel
theorem dL_law_693 : decode cL_law 693 = .ok (.iload_n 3, 1) := by decide +kernel
theorem dL_law_694 : decode cL_law 694 = .ok (.iconst 2, 1) := by decide +kernel
theorem dL_law_695 : decode cL_law 695 = .ok (.iadd, 1) := by decide +kernel
theorem dL_law_696 : decode cL_law 696 = .ok (.iaload, 1) := by decide +kernel
theorem dL_law_697 : decode cL_law 697 = .ok (.invokevirtual 74, 3) := by decide +kernel
theorem dL_law_700 : decode cL_law 700 = .ok (.if_icmp .eq 374, 3) := by decide +kernel
theorem dL_law_703 : decode cL_law 703 = .ok (.iconst 0, 1) := by decide +kernel
theorem dL_law_704 : decode cL_law 704 = .ok (.ireturn, 1) := by decide +kernel
theorem dL_law_705 : decode cL_law 705 = .ok (.aload_n 1, 1) := by decide +kernel
theorem dL_law_706 : decode cL_law 706 = .ok (.aload_n 0, 1) := by decide +kernel
theorem dL_law_707 : decode cL_law 707 = .ok (.iload_n 3, 1) := by decide +kernel
theorem dL_law_708 : decode cL_law 708 = .ok (.iconst 1, 1) := by decide +kernel
theorem dL_law_709 : decode cL_law 709 = .ok (.iadd, 1) := by decide +kernel
theorem dL_law_710 : decode cL_law 710 = .ok (.iaload, 1) := by decide +kernel
theorem dL_law_711 : decode cL_law 711 = .ok (.aload_n 0, 1) := by decide +kernel
theorem dL_law_712 : decode cL_law 712 = .ok (.iload_n 3, 1) := by decide +kernel
theorem dL_law_713 : decode cL_law 713 = .ok (.iconst 2, 1) := by decide +kernel
theorem dL_law_714 : decode cL_law 714 = .ok (.iadd, 1) := by decide +kernel
theorem dL_law_715 : decode cL_law 715 = .ok (.iaload, 1) := by decide +kernel
theorem dL_law_716 : decode cL_law 716 = .ok (.aload_n 0, 1) := by decide +kernel
theorem dL_law_717 : decode cL_law 717 = .ok (.iload_n 3, 1) := by decide +kernel
theorem dL_law_718 : decode cL_law 718 = .ok (.iconst 3, 1) := by decide +kernel
theorem dL_law_719 : decode cL_law 719 = .ok (.iadd, 1) := by decide +kernel
theorem dL_law_720 : decode cL_law 720 = .ok (.iaload, 1) := by decide +kernel
theorem dL_law_721 : decode cL_law 721 = .ok (.invokevirtual 75, 3) := by decide +kernel
theorem dL_law_724 : decode cL_law 724 = .ok (.aload_n 2, 1) := by decide +kernel
theorem dL_law_725 : decode cL_law 725 = .ok (.aload_n 0, 1) := by decide +kernel
theorem dL_law_726 : decode cL_law 726 = .ok (.iload_n 3, 1) := by decide +kernel
theorem dL_law_727 : decode cL_law 727 = .ok (.iconst 1, 1) := by decide +kernel
theorem dL_law_728 : decode cL_law 728 = .ok (.iadd, 1) := by decide +kernel
theorem dL_law_729 : decode cL_law 729 = .ok (.iaload, 1) := by decide +kernel
theorem dL_law_730 : decode cL_law 730 = .ok (.aload_n 0, 1) := by decide +kernel
theorem dL_law_731 : decode cL_law 731 = .ok (.iload_n 3, 1) := by decide +kernel
theorem dL_law_732 : decode cL_law 732 = .ok (.iconst 2, 1) := by decide +kernel
theorem dL_law_733 : decode cL_law 733 = .ok (.iadd, 1) := by decide +kernel
theorem dL_law_734 : decode cL_law 734 = .ok (.iaload, 1) := by decide +kernel
theorem dL_law_735 : decode cL_law 735 = .ok (.aload_n 0, 1) := by decide +kernel
theorem dL_law_736 : decode cL_law 736 = .ok (.iload_n 3, 1) := by decide +kernel
theorem dL_law_737 : decode cL_law 737 = .ok (.iconst 3, 1) := by decide +kernel
theorem dL_law_738 : decode cL_law 738 = .ok (.iadd, 1) := by decide +kernel
theorem dL_law_739 : decode cL_law 739 = .ok (.iaload, 1) := by decide +kernel
theorem dL_law_740 : decode cL_law 740 = .ok (.invokevirtual 78, 3) := by decide +kernel
theorem dL_law_743 : decode cL_law 743 = .ok (.if_icmp .eq 331, 3) := by decide +kernel
theorem dL_law_746 : decode cL_law 746 = .ok (.iconst 0, 1) := by decide +kernel
theorem dL_law_747 : decode cL_law 747 = .ok (.ireturn, 1) := by decide +kernel
theorem dL_law_748 : decode cL_law 748 = .ok (.aload_n 1, 1) := by decide +kernel
theorem dL_law_749 : decode cL_law 749 = .ok (.aload_n 0, 1) := by decide +kernel
theorem dL_law_750 : decode cL_law 750 = .ok (.iload_n 3, 1) := by decide +kernel
theorem dL_law_751 : decode cL_law 751 = .ok (.iconst 1, 1) := by decide +kernel
theorem dL_law_752 : decode cL_law 752 = .ok (.iadd, 1) := by decide +kernel
theorem dL_law_753 : decode cL_law 753 = .ok (.iaload, 1) := by decide +kernel
theorem dL_law_754 : decode cL_law 754 = .ok (.aload_n 0, 1) := by decide +kernel
theorem dL_law_755 : decode cL_law 755 = .ok (.iload_n 3, 1) := by decide +kernel
theorem dL_law_756 : decode cL_law 756 = .ok (.iconst 2, 1) := by decide +kernel
theorem dL_law_757 : decode cL_law 757 = .ok (.iadd, 1) := by decide +kernel
theorem dL_law_758 : decode cL_law 758 = .ok (.iaload, 1) := by decide +kernel
theorem dL_law_759 : decode cL_law 759 = .ok (.aload_n 0, 1) := by decide +kernel
theorem dL_law_760 : decode cL_law 760 = .ok (.iload_n 3, 1) := by decide +kernel
theorem dL_law_761 : decode cL_law 761 = .ok (.iconst 3, 1) := by decide +kernel
theorem dL_law_762 : decode cL_law 762 = .ok (.iadd, 1) := by decide +kernel
theorem dL_law_763 : decode cL_law 763 = .ok (.iaload, 1) := by decide +kernel
theorem dL_law_764 : decode cL_law 764 = .ok (.invokevirtual 79, 3) := by decide +kernel
theorem dL_law_767 : decode cL_law 767 = .ok (.aload_n 2, 1) := by decide +kernel
theorem dL_law_768 : decode cL_law 768 = .ok (.aload_n 0, 1) := by decide +kernel
theorem dL_law_769 : decode cL_law 769 = .ok (.iload_n 3, 1) := by decide +kernel
theorem dL_law_770 : decode cL_law 770 = .ok (.iconst 1, 1) := by decide +kernel
theorem dL_law_771 : decode cL_law 771 = .ok (.iadd, 1) := by decide +kernel
theorem dL_law_772 : decode cL_law 772 = .ok (.iaload, 1) := by decide +kernel
theorem dL_law_773 : decode cL_law 773 = .ok (.aload_n 0, 1) := by decide +kernel
theorem dL_law_774 : decode cL_law 774 = .ok (.iload_n 3, 1) := by decide +kernel
theorem dL_law_775 : decode cL_law 775 = .ok (.iconst 2, 1) := by decide +kernel
theorem dL_law_776 : decode cL_law 776 = .ok (.iadd, 1) := by decide +kernel
theorem dL_law_777 : decode cL_law 777 = .ok (.iaload, 1) := by decide +kernel
theorem dL_law_778 : decode cL_law 778 = .ok (.aload_n 0, 1) := by decide +kernel
theorem dL_law_779 : decode cL_law 779 = .ok (.iload_n 3, 1) := by decide +kernel
theorem dL_law_780 : decode cL_law 780 = .ok (.iconst 3, 1) := by decide +kernel
theorem dL_law_781 : decode cL_law 781 = .ok (.iadd, 1) := by decide +kernel
theorem dL_law_782 : decode cL_law 782 = .ok (.iaload, 1) := by decide +kernel
theorem dL_law_783 : decode cL_law 783 = .ok (.invokevirtual 82, 3) := by decide +kernel
theorem dL_law_786 : decode cL_law 786 = .ok (.if_icmp .eq 288, 3) := by decide +kernel
theorem dL_law_789 : decode cL_law 789 = .ok (.iconst 0, 1) := by decide +kernel
theorem dL_law_790 : decode cL_law 790 = .ok (.ireturn, 1) := by decide +kernel
theorem dL_law_791 : decode cL_law 791 = .ok (.aload_n 1, 1) := by decide +kernel
theorem dL_law_792 : decode cL_law 792 = .ok (.aload_n 0, 1) := by decide +kernel
theorem dL_law_793 : decode cL_law 793 = .ok (.iload_n 3, 1) := by decide +kernel
theorem dL_law_794 : decode cL_law 794 = .ok (.iconst 1, 1) := by decide +kernel
theorem dL_law_795 : decode cL_law 795 = .ok (.iadd, 1) := by decide +kernel
theorem dL_law_796 : decode cL_law 796 = .ok (.iaload, 1) := by decide +kernel
theorem dL_law_797 : decode cL_law 797 = .ok (.aload_n 0, 1) := by decide +kernel
theorem dL_law_798 : decode cL_law 798 = .ok (.iload_n 3, 1) := by decide +kernel
theorem dL_law_799 : decode cL_law 799 = .ok (.iconst 2, 1) := by decide +kernel
theorem dL_law_800 : decode cL_law 800 = .ok (.iadd, 1) := by decide +kernel
theorem dL_law_801 : decode cL_law 801 = .ok (.iaload, 1) := by decide +kernel
theorem dL_law_802 : decode cL_law 802 = .ok (.aload_n 0, 1) := by decide +kernel
theorem dL_law_803 : decode cL_law 803 = .ok (.iload_n 3, 1) := by decide +kernel
theorem dL_law_804 : decode cL_law 804 = .ok (.iconst 3, 1) := by decide +kernel
theorem dL_law_805 : decode cL_law 805 = .ok (.iadd, 1) := by decide +kernel
theorem dL_law_806 : decode cL_law 806 = .ok (.iaload, 1) := by decide +kernel
theorem dL_law_807 : decode cL_law 807 = .ok (.invokevirtual 83, 3) := by decide +kernel
theorem dL_law_810 : decode cL_law 810 = .ok (.aload_n 2, 1) := by decide +kernel
theorem dL_law_811 : decode cL_law 811 = .ok (.aload_n 0, 1) := by decide +kernel
theorem dL_law_812 : decode cL_law 812 = .ok (.iload_n 3, 1) := by decide +kernel
theorem dL_law_813 : decode cL_law 813 = .ok (.iconst 1, 1) := by decide +kernel
theorem dL_law_814 : decode cL_law 814 = .ok (.iadd, 1) := by decide +kernel
theorem dL_law_815 : decode cL_law 815 = .ok (.iaload, 1) := by decide +kernel
theorem dL_law_816 : decode cL_law 816 = .ok (.aload_n 0, 1) := by decide +kernel
theorem dL_law_817 : decode cL_law 817 = .ok (.iload_n 3, 1) := by decide +kernel
theorem dL_law_818 : decode cL_law 818 = .ok (.iconst 2, 1) := by decide +kernel
theorem dL_law_819 : decode cL_law 819 = .ok (.iadd, 1) := by decide +kernel
theorem dL_law_820 : decode cL_law 820 = .ok (.iaload, 1) := by decide +kernel
theorem dL_law_821 : decode cL_law 821 = .ok (.aload_n 0, 1) := by decide +kernel
theorem dL_law_822 : decode cL_law 822 = .ok (.iload_n 3, 1) := by decide +kernel
theorem dL_law_823 : decode cL_law 823 = .ok (.iconst 3, 1) := by decide +kernel
theorem dL_law_824 : decode cL_law 824 = .ok (.iadd, 1) := by decide +kernel
theorem dL_law_825 : decode cL_law 825 = .ok (.iaload, 1) := by decide +kernel
theorem dL_law_826 : decode cL_law 826 = .ok (.invokevirtual 86, 3) := by decide +kernel
theorem dL_law_829 : decode cL_law 829 = .ok (.if_icmp .eq 245, 3) := by decide +kernel
theorem dL_law_832 : decode cL_law 832 = .ok (.iconst 0, 1) := by decide +kernel
theorem dL_law_833 : decode cL_law 833 = .ok (.ireturn, 1) := by decide +kernel
theorem dL_law_834 : decode cL_law 834 = .ok (.aload_n 1, 1) := by decide +kernel
theorem dL_law_835 : decode cL_law 835 = .ok (.aload_n 0, 1) := by decide +kernel
theorem dL_law_836 : decode cL_law 836 = .ok (.iload_n 3, 1) := by decide +kernel
theorem dL_law_837 : decode cL_law 837 = .ok (.iconst 1, 1) := by decide +kernel
theorem dL_law_838 : decode cL_law 838 = .ok (.iadd, 1) := by decide +kernel
theorem dL_law_839 : decode cL_law 839 = .ok (.iaload, 1) := by decide +kernel
theorem dL_law_840 : decode cL_law 840 = .ok (.invokevirtual 87, 3) := by decide +kernel
theorem dL_law_843 : decode cL_law 843 = .ok (.aload_n 2, 1) := by decide +kernel
theorem dL_law_844 : decode cL_law 844 = .ok (.aload_n 0, 1) := by decide +kernel
theorem dL_law_845 : decode cL_law 845 = .ok (.iload_n 3, 1) := by decide +kernel
theorem dL_law_846 : decode cL_law 846 = .ok (.iconst 1, 1) := by decide +kernel
theorem dL_law_847 : decode cL_law 847 = .ok (.iadd, 1) := by decide +kernel
theorem dL_law_848 : decode cL_law 848 = .ok (.iaload, 1) := by decide +kernel
theorem dL_law_849 : decode cL_law 849 = .ok (.invokevirtual 90, 3) := by decide +kernel
theorem dL_law_852 : decode cL_law 852 = .ok (.if_icmp .eq 222, 3) := by decide +kernel
theorem dL_law_855 : decode cL_law 855 = .ok (.iconst 0, 1) := by decide +kernel
theorem dL_law_856 : decode cL_law 856 = .ok (.ireturn, 1) := by decide +kernel
theorem dL_law_857 : decode cL_law 857 = .ok (.aload_n 1, 1) := by decide +kernel
theorem dL_law_858 : decode cL_law 858 = .ok (.aload_n 0, 1) := by decide +kernel
theorem dL_law_859 : decode cL_law 859 = .ok (.iload_n 3, 1) := by decide +kernel
theorem dL_law_860 : decode cL_law 860 = .ok (.iconst 1, 1) := by decide +kernel
theorem dL_law_861 : decode cL_law 861 = .ok (.iadd, 1) := by decide +kernel
theorem dL_law_862 : decode cL_law 862 = .ok (.iaload, 1) := by decide +kernel
theorem dL_law_863 : decode cL_law 863 = .ok (.aload_n 0, 1) := by decide +kernel
theorem dL_law_864 : decode cL_law 864 = .ok (.iload_n 3, 1) := by decide +kernel
theorem dL_law_865 : decode cL_law 865 = .ok (.iconst 2, 1) := by decide +kernel
theorem dL_law_866 : decode cL_law 866 = .ok (.iadd, 1) := by decide +kernel
theorem dL_law_867 : decode cL_law 867 = .ok (.iaload, 1) := by decide +kernel
theorem dL_law_868 : decode cL_law 868 = .ok (.invokevirtual 91, 3) := by decide +kernel
theorem dL_law_871 : decode cL_law 871 = .ok (.aload_n 2, 1) := by decide +kernel
theorem dL_law_872 : decode cL_law 872 = .ok (.aload_n 0, 1) := by decide +kernel
theorem dL_law_873 : decode cL_law 873 = .ok (.iload_n 3, 1) := by decide +kernel
theorem dL_law_874 : decode cL_law 874 = .ok (.iconst 1, 1) := by decide +kernel
theorem dL_law_875 : decode cL_law 875 = .ok (.iadd, 1) := by decide +kernel
theorem dL_law_876 : decode cL_law 876 = .ok (.iaload, 1) := by decide +kernel
theorem dL_law_877 : decode cL_law 877 = .ok (.aload_n 0, 1) := by decide +kernel
theorem dL_law_878 : decode cL_law 878 = .ok (.iload_n 3, 1) := by decide +kernel
theorem dL_law_879 : decode cL_law 879 = .ok (.iconst 2, 1) := by decide +kernel
theorem dL_law_880 : decode cL_law 880 = .ok (.iadd, 1) := by decide +kernel
theorem dL_law_881 : decode cL_law 881 = .ok (.iaload, 1) := by decide +kernel
theorem dL_law_882 : decode cL_law 882 = .ok (.invokevirtual 94, 3) := by decide +kernel
theorem dL_law_885 : decode cL_law 885 = .ok (.if_icmp .eq 189, 3) := by decide +kernel
theorem dL_law_888 : decode cL_law 888 = .ok (.iconst 0, 1) := by decide +kernel
theorem dL_law_889 : decode cL_law 889 = .ok (.ireturn, 1) := by decide +kernel
theorem dL_law_890 : decode cL_law 890 = .ok (.aload_n 1, 1) := by decide +kernel
theorem dL_law_891 : decode cL_law 891 = .ok (.aload_n 0, 1) := by decide +kernel
theorem dL_law_892 : decode cL_law 892 = .ok (.iload_n 3, 1) := by decide +kernel
theorem dL_law_893 : decode cL_law 893 = .ok (.iconst 1, 1) := by decide +kernel
theorem dL_law_894 : decode cL_law 894 = .ok (.iadd, 1) := by decide +kernel
theorem dL_law_895 : decode cL_law 895 = .ok (.iaload, 1) := by decide +kernel
theorem dL_law_896 : decode cL_law 896 = .ok (.invokevirtual 95, 3) := by decide +kernel
theorem dL_law_899 : decode cL_law 899 = .ok (.aload_n 2, 1) := by decide +kernel
theorem dL_law_900 : decode cL_law 900 = .ok (.aload_n 0, 1) := by decide +kernel
theorem dL_law_901 : decode cL_law 901 = .ok (.iload_n 3, 1) := by decide +kernel
theorem dL_law_902 : decode cL_law 902 = .ok (.iconst 1, 1) := by decide +kernel
theorem dL_law_903 : decode cL_law 903 = .ok (.iadd, 1) := by decide +kernel
theorem dL_law_904 : decode cL_law 904 = .ok (.iaload, 1) := by decide +kernel
theorem dL_law_905 : decode cL_law 905 = .ok (.invokevirtual 99, 3) := by decide +kernel
theorem dL_law_908 : decode cL_law 908 = .ok (.lcmp, 1) := by decide +kernel
theorem dL_law_909 : decode cL_law 909 = .ok (.ifCond .eq 165, 3) := by decide +kernel
theorem dL_law_912 : decode cL_law 912 = .ok (.iconst 0, 1) := by decide +kernel
theorem dL_law_913 : decode cL_law 913 = .ok (.ireturn, 1) := by decide +kernel
theorem dL_law_914 : decode cL_law 914 = .ok (.aload_n 1, 1) := by decide +kernel
theorem dL_law_915 : decode cL_law 915 = .ok (.aload_n 0, 1) := by decide +kernel
theorem dL_law_916 : decode cL_law 916 = .ok (.iload_n 3, 1) := by decide +kernel
theorem dL_law_917 : decode cL_law 917 = .ok (.iconst 1, 1) := by decide +kernel
theorem dL_law_918 : decode cL_law 918 = .ok (.iadd, 1) := by decide +kernel
theorem dL_law_919 : decode cL_law 919 = .ok (.iaload, 1) := by decide +kernel
theorem dL_law_920 : decode cL_law 920 = .ok (.invokevirtual 100, 3) := by decide +kernel
theorem dL_law_923 : decode cL_law 923 = .ok (.dstore 4, 2) := by decide +kernel
theorem dL_law_925 : decode cL_law 925 = .ok (.aload_n 2, 1) := by decide +kernel
theorem dL_law_926 : decode cL_law 926 = .ok (.aload_n 0, 1) := by decide +kernel
theorem dL_law_927 : decode cL_law 927 = .ok (.iload_n 3, 1) := by decide +kernel
theorem dL_law_928 : decode cL_law 928 = .ok (.iconst 1, 1) := by decide +kernel
theorem dL_law_929 : decode cL_law 929 = .ok (.iadd, 1) := by decide +kernel
theorem dL_law_930 : decode cL_law 930 = .ok (.iaload, 1) := by decide +kernel
theorem dL_law_931 : decode cL_law 931 = .ok (.invokevirtual 104, 3) := by decide +kernel
theorem dL_law_934 : decode cL_law 934 = .ok (.dstore 6, 2) := by decide +kernel
theorem dL_law_936 : decode cL_law 936 = .ok (.dload 4, 2) := by decide +kernel
theorem dL_law_938 : decode cL_law 938 = .ok (.dload 6, 2) := by decide +kernel
theorem dL_law_940 : decode cL_law 940 = .ok (.dcmp .l, 1) := by decide +kernel
theorem dL_law_941 : decode cL_law 941 = .ok (.ifCond .eq 21, 3) := by decide +kernel
theorem dL_law_944 : decode cL_law 944 = .ok (.dload 4, 2) := by decide +kernel
theorem dL_law_946 : decode cL_law 946 = .ok (.dload 4, 2) := by decide +kernel
theorem dL_law_948 : decode cL_law 948 = .ok (.dcmp .l, 1) := by decide +kernel
theorem dL_law_949 : decode cL_law 949 = .ok (.ifCond .eq 11, 3) := by decide +kernel
theorem dL_law_952 : decode cL_law 952 = .ok (.dload 6, 2) := by decide +kernel
theorem dL_law_954 : decode cL_law 954 = .ok (.dload 6, 2) := by decide +kernel
theorem dL_law_956 : decode cL_law 956 = .ok (.dcmp .l, 1) := by decide +kernel
theorem dL_law_957 : decode cL_law 957 = .ok (.ifCond .ne 5, 3) := by decide +kernel
theorem dL_law_960 : decode cL_law 960 = .ok (.iconst 0, 1) := by decide +kernel
theorem dL_law_961 : decode cL_law 961 = .ok (.ireturn, 1) := by decide +kernel
theorem dL_law_962 : decode cL_law 962 = .ok (.goto 112, 3) := by decide +kernel
theorem dL_law_965 : decode cL_law 965 = .ok (.aload_n 1, 1) := by decide +kernel
theorem dL_law_966 : decode cL_law 966 = .ok (.aload_n 0, 1) := by decide +kernel
theorem dL_law_967 : decode cL_law 967 = .ok (.iload_n 3, 1) := by decide +kernel
theorem dL_law_968 : decode cL_law 968 = .ok (.iconst 1, 1) := by decide +kernel
theorem dL_law_969 : decode cL_law 969 = .ok (.iadd, 1) := by decide +kernel
theorem dL_law_970 : decode cL_law 970 = .ok (.iaload, 1) := by decide +kernel
theorem dL_law_971 : decode cL_law 971 = .ok (.aload_n 0, 1) := by decide +kernel
theorem dL_law_972 : decode cL_law 972 = .ok (.iload_n 3, 1) := by decide +kernel
theorem dL_law_973 : decode cL_law 973 = .ok (.iconst 2, 1) := by decide +kernel
theorem dL_law_974 : decode cL_law 974 = .ok (.iadd, 1) := by decide +kernel
theorem dL_law_975 : decode cL_law 975 = .ok (.iaload, 1) := by decide +kernel
theorem dL_law_976 : decode cL_law 976 = .ok (.aload_n 0, 1) := by decide +kernel
theorem dL_law_977 : decode cL_law 977 = .ok (.iload_n 3, 1) := by decide +kernel
theorem dL_law_978 : decode cL_law 978 = .ok (.iconst 3, 1) := by decide +kernel
theorem dL_law_979 : decode cL_law 979 = .ok (.iadd, 1) := by decide +kernel
theorem dL_law_980 : decode cL_law 980 = .ok (.iaload, 1) := by decide +kernel
theorem dL_law_981 : decode cL_law 981 = .ok (.aload_n 0, 1) := by decide +kernel
theorem dL_law_982 : decode cL_law 982 = .ok (.iload_n 3, 1) := by decide +kernel
theorem dL_law_983 : decode cL_law 983 = .ok (.iconst 4, 1) := by decide +kernel
theorem dL_law_984 : decode cL_law 984 = .ok (.iadd, 1) := by decide +kernel
theorem dL_law_985 : decode cL_law 985 = .ok (.iaload, 1) := by decide +kernel
theorem dL_law_986 : decode cL_law 986 = .ok (.aload_n 0, 1) := by decide +kernel
theorem dL_law_987 : decode cL_law 987 = .ok (.iload_n 3, 1) := by decide +kernel
theorem dL_law_988 : decode cL_law 988 = .ok (.iconst 5, 1) := by decide +kernel
theorem dL_law_989 : decode cL_law 989 = .ok (.iadd, 1) := by decide +kernel
theorem dL_law_990 : decode cL_law 990 = .ok (.iaload, 1) := by decide +kernel
theorem dL_law_991 : decode cL_law 991 = .ok (.invokevirtual 105, 3) := by decide +kernel
theorem dL_law_994 : decode cL_law 994 = .ok (.aload_n 2, 1) := by decide +kernel
theorem dL_law_995 : decode cL_law 995 = .ok (.aload_n 0, 1) := by decide +kernel
theorem dL_law_996 : decode cL_law 996 = .ok (.iload_n 3, 1) := by decide +kernel
theorem dL_law_997 : decode cL_law 997 = .ok (.iconst 1, 1) := by decide +kernel
theorem dL_law_998 : decode cL_law 998 = .ok (.iadd, 1) := by decide +kernel
theorem dL_law_999 : decode cL_law 999 = .ok (.iaload, 1) := by decide +kernel
theorem dL_law_1000 : decode cL_law 1000 = .ok (.aload_n 0, 1) := by decide +kernel
theorem dL_law_1001 : decode cL_law 1001 = .ok (.iload_n 3, 1) := by decide +kernel
theorem dL_law_1002 : decode cL_law 1002 = .ok (.iconst 2, 1) := by decide +kernel
theorem dL_law_1003 : decode cL_law 1003 = .ok (.iadd, 1) := by decide +kernel
theorem dL_law_1004 : decode cL_law 1004 = .ok (.iaload, 1) := by decide +kernel
theorem dL_law_1005 : decode cL_law 1005 = .ok (.aload_n 0, 1) := by decide +kernel
theorem dL_law_1006 : decode cL_law 1006 = .ok (.iload_n 3, 1) := by decide +kernel
theorem dL_law_1007 : decode cL_law 1007 = .ok (.iconst 3, 1) := by decide +kernel
theorem dL_law_1008 : decode cL_law 1008 = .ok (.iadd, 1) := by decide +kernel
theorem dL_law_1009 : decode cL_law 1009 = .ok (.iaload, 1) := by decide +kernel
theorem dL_law_1010 : decode cL_law 1010 = .ok (.aload_n 0, 1) := by decide +kernel
theorem dL_law_1011 : decode cL_law 1011 = .ok (.iload_n 3, 1) := by decide +kernel
theorem dL_law_1012 : decode cL_law 1012 = .ok (.iconst 4, 1) := by decide +kernel
theorem dL_law_1013 : decode cL_law 1013 = .ok (.iadd, 1) := by decide +kernel
theorem dL_law_1014 : decode cL_law 1014 = .ok (.iaload, 1) := by decide +kernel
theorem dL_law_1015 : decode cL_law 1015 = .ok (.aload_n 0, 1) := by decide +kernel
theorem dL_law_1016 : decode cL_law 1016 = .ok (.iload_n 3, 1) := by decide +kernel
theorem dL_law_1017 : decode cL_law 1017 = .ok (.iconst 5, 1) := by decide +kernel
theorem dL_law_1018 : decode cL_law 1018 = .ok (.iadd, 1) := by decide +kernel
theorem dL_law_1019 : decode cL_law 1019 = .ok (.iaload, 1) := by decide +kernel
theorem dL_law_1020 : decode cL_law 1020 = .ok (.invokevirtual 108, 3) := by decide +kernel
theorem dL_law_1023 : decode cL_law 1023 = .ok (.if_icmp .eq 51, 3) := by decide +kernel
theorem dL_law_1026 : decode cL_law 1026 = .ok (.iconst 0, 1) := by decide +kernel
theorem dL_law_1027 : decode cL_law 1027 = .ok (.ireturn, 1) := by decide +kernel
theorem dL_law_1028 : decode cL_law 1028 = .ok (.aload_n 1, 1) := by decide +kernel
theorem dL_law_1029 : decode cL_law 1029 = .ok (.aload_n 0, 1) := by decide +kernel
theorem dL_law_1030 : decode cL_law 1030 = .ok (.iload_n 3, 1) := by decide +kernel
theorem dL_law_1031 : decode cL_law 1031 = .ok (.iconst 1, 1) := by decide +kernel
theorem dL_law_1032 : decode cL_law 1032 = .ok (.iadd, 1) := by decide +kernel
theorem dL_law_1033 : decode cL_law 1033 = .ok (.iaload, 1) := by decide +kernel
theorem dL_law_1034 : decode cL_law 1034 = .ok (.aload_n 0, 1) := by decide +kernel
theorem dL_law_1035 : decode cL_law 1035 = .ok (.iload_n 3, 1) := by decide +kernel
theorem dL_law_1036 : decode cL_law 1036 = .ok (.iconst 2, 1) := by decide +kernel
theorem dL_law_1037 : decode cL_law 1037 = .ok (.iadd, 1) := by decide +kernel
theorem dL_law_1038 : decode cL_law 1038 = .ok (.iaload, 1) := by decide +kernel
theorem dL_law_1039 : decode cL_law 1039 = .ok (.invokevirtual 109, 3) := by decide +kernel
theorem dL_law_1042 : decode cL_law 1042 = .ok (.aload_n 2, 1) := by decide +kernel
theorem dL_law_1043 : decode cL_law 1043 = .ok (.aload_n 0, 1) := by decide +kernel
theorem dL_law_1044 : decode cL_law 1044 = .ok (.iload_n 3, 1) := by decide +kernel
theorem dL_law_1045 : decode cL_law 1045 = .ok (.iconst 1, 1) := by decide +kernel
theorem dL_law_1046 : decode cL_law 1046 = .ok (.iadd, 1) := by decide +kernel
theorem dL_law_1047 : decode cL_law 1047 = .ok (.iaload, 1) := by decide +kernel
theorem dL_law_1048 : decode cL_law 1048 = .ok (.aload_n 0, 1) := by decide +kernel
theorem dL_law_1049 : decode cL_law 1049 = .ok (.iload_n 3, 1) := by decide +kernel
theorem dL_law_1050 : decode cL_law 1050 = .ok (.iconst 2, 1) := by decide +kernel
theorem dL_law_1051 : decode cL_law 1051 = .ok (.iadd, 1) := by decide +kernel
theorem dL_law_1052 : decode cL_law 1052 = .ok (.iaload, 1) := by decide +kernel
theorem dL_law_1053 : decode cL_law 1053 = .ok (.invokevirtual 112, 3) := by decide +kernel
theorem dL_law_1056 : decode cL_law 1056 = .ok (.if_icmp .eq 18, 3) := by decide +kernel
theorem dL_law_1059 : decode cL_law 1059 = .ok (.iconst 0, 1) := by decide +kernel
theorem dL_law_1060 : decode cL_law 1060 = .ok (.ireturn, 1) := by decide +kernel
theorem dL_law_1061 : decode cL_law 1061 = .ok (.aload_n 1, 1) := by decide +kernel
theorem dL_law_1062 : decode cL_law 1062 = .ok (.invokevirtual 113, 3) := by decide +kernel
theorem dL_law_1065 : decode cL_law 1065 = .ok (.aload_n 2, 1) := by decide +kernel
theorem dL_law_1066 : decode cL_law 1066 = .ok (.invokevirtual 117, 3) := by decide +kernel
theorem dL_law_1069 : decode cL_law 1069 = .ok (.if_icmp .eq 5, 3) := by decide +kernel
theorem dL_law_1072 : decode cL_law 1072 = .ok (.iconst 0, 1) := by decide +kernel
theorem dL_law_1073 : decode cL_law 1073 = .ok (.ireturn, 1) := by decide +kernel
theorem dL_law_1074 : decode cL_law 1074 = .ok (.iinc 3 6, 3) := by decide +kernel
theorem dL_law_1077 : decode cL_law 1077 = .ok (.goto (-1059), 3) := by decide +kernel
theorem dL_law_1080 : decode cL_law 1080 = .ok (.iconst 1, 1) := by decide +kernel
theorem dL_law_1081 : decode cL_law 1081 = .ok (.ireturn, 1) := by decide +kernel
end
section
/-! OWN ROWS: a world is a numbered family of cells: number i lies at address ad i and holds ct i -/
def gtbl : List Cond := lw_tbl.filter goodWord
theorem gt_good : GoodIn gtbl gtbl := fun _ hw => ⟨hw, good_of_word (List.mem_filter.mp hw).2⟩
theorem gt_in {w : Cond} (h : w ∈ lw_tbl) (hg : goodWord w = true) : w ∈ gtbl := List.mem_filter.mpr ⟨h, hg⟩
theorem gt_sub {args : Array Value} {s : State} (h : ∀ w ∈ lw_tbl, w.before args s = true) : ∀ w ∈ gtbl, w.before args s = true := fun w hw => h w (List.mem_filter.mp hw).1
end
section
theorem qSel_X7_X7_refuse : (.selects "ColumnHouse" ⟨"ColumnHouse", "refuse", "(I)I"⟩ ⟨"ColumnHouse", "refuse", "(I)I"⟩ : Cond) ∈ gtbl := gt_in (List.mem_of_getElem? (i := 0) (by decide +kernel)) (by decide +kernel)
theorem qSel_X7_X7_done : (.selects "ColumnHouse" ⟨"ColumnHouse", "done", "(I)I"⟩ ⟨"ColumnHouse", "done", "(I)I"⟩ : Cond) ∈ gtbl := gt_in (List.mem_of_getElem? (i := 1) (by decide +kernel)) (by decide +kernel)
theorem qSel_X7_X7_rowIn : (.selects "ColumnHouse" ⟨"ColumnHouse", "rowIn", "(I)LColumnHouse$Row;"⟩ ⟨"ColumnHouse", "rowIn", "(I)LColumnHouse$Row;"⟩ : Cond) ∈ gtbl := gt_in (List.mem_of_getElem? (i := 2) (by decide +kernel)) (by decide +kernel)
theorem qSel_X7_X7_rowAmiss : (.selects "ColumnHouse" ⟨"ColumnHouse", "rowAmiss", "(I)I"⟩ ⟨"ColumnHouse", "rowAmiss", "(I)I"⟩ : Cond) ∈ gtbl := gt_in (List.mem_of_getElem? (i := 3) (by decide +kernel)) (by decide +kernel)
theorem qSel_X7_X7_cardIn : (.selects "ColumnHouse" ⟨"ColumnHouse", "cardIn", "(I)LColumnHouse$Card;"⟩ ⟨"ColumnHouse", "cardIn", "(I)LColumnHouse$Card;"⟩ : Cond) ∈ gtbl := gt_in (List.mem_of_getElem? (i := 4) (by decide +kernel)) (by decide +kernel)
theorem qSel_X7_X7_cardAmiss : (.selects "ColumnHouse" ⟨"ColumnHouse", "cardAmiss", "(I)I"⟩ ⟨"ColumnHouse", "cardAmiss", "(I)I"⟩ : Cond) ∈ gtbl := gt_in (List.mem_of_getElem? (i := 5) (by decide +kernel)) (by decide +kernel)
theorem qSel_X7_X7_putTold : (.selects "ColumnHouse" ⟨"ColumnHouse", "putTold", "(IIIII)I"⟩ ⟨"ColumnHouse", "putTold", "(IIIII)I"⟩ : Cond) ∈ gtbl := gt_in (List.mem_of_getElem? (i := 6) (by decide +kernel)) (by decide +kernel)
theorem qSel_X7_X7_placeOne : (.selects "ColumnHouse" ⟨"ColumnHouse", "placeOne", "(LColumnHouse$Row;II)I"⟩ ⟨"ColumnHouse", "placeOne", "(LColumnHouse$Row;II)I"⟩ : Cond) ∈ gtbl := gt_in (List.mem_of_getElem? (i := 7) (by decide +kernel)) (by decide +kernel)
theorem qSel_X7_X7_readOneAs : (.selects "ColumnHouse" ⟨"ColumnHouse", "readOneAs", "(III)Z"⟩ ⟨"ColumnHouse", "readOneAs", "(III)Z"⟩ : Cond) ∈ gtbl := gt_in (List.mem_of_getElem? (i := 8) (by decide +kernel)) (by decide +kernel)
theorem qSel_X7_X7_writeStage : (.selects "ColumnHouse" ⟨"ColumnHouse", "writeStage", "(LColumnHouse$Row;)I"⟩ ⟨"ColumnHouse", "writeStage", "(LColumnHouse$Row;)I"⟩ : Cond) ∈ gtbl := gt_in (List.mem_of_getElem? (i := 9) (by decide +kernel)) (by decide +kernel)
theorem qSel_X7_X7_moveByIndex : (.selects "ColumnHouse" ⟨"ColumnHouse", "moveByIndex", "(IIIZ)I"⟩ ⟨"ColumnHouse", "moveByIndex", "(IIIZ)I"⟩ : Cond) ∈ gtbl := gt_in (List.mem_of_getElem? (i := 10) (by decide +kernel)) (by decide +kernel)
theorem qSel_X7_X7_rowsAmiss : (.selects "ColumnHouse" ⟨"ColumnHouse", "rowsAmiss", "(III)I"⟩ ⟨"ColumnHouse", "rowsAmiss", "(III)I"⟩ : Cond) ∈ gtbl := gt_in (List.mem_of_getElem? (i := 11) (by decide +kernel)) (by decide +kernel)
theorem qSel_X7_X7_indexAt : (.selects "ColumnHouse" ⟨"ColumnHouse", "indexAt", "(LColumnHouse$Row;I)I"⟩ ⟨"ColumnHouse", "indexAt", "(LColumnHouse$Row;I)I"⟩ : Cond) ∈ gtbl := gt_in (List.mem_of_getElem? (i := 12) (by decide +kernel)) (by decide +kernel)
theorem qSel_X7_X7_stageMove : (.selects "ColumnHouse" ⟨"ColumnHouse", "stageMove", "(LColumnHouse$Row;ILColumnHouse$Row;I)I"⟩ ⟨"ColumnHouse", "stageMove", "(LColumnHouse$Row;ILColumnHouse$Row;I)I"⟩ : Cond) ∈ gtbl := gt_in (List.mem_of_getElem? (i := 13) (by decide +kernel)) (by decide +kernel)
theorem qSel_X7_X7_comesFromRight : (.selects "ColumnHouse" ⟨"ColumnHouse", "comesFromRight", "(LColumnHouse$Row;ILColumnHouse$Row;I)Z"⟩ ⟨"ColumnHouse", "comesFromRight", "(LColumnHouse$Row;ILColumnHouse$Row;I)Z"⟩ : Cond) ∈ gtbl := gt_in (List.mem_of_getElem? (i := 14) (by decide +kernel)) (by decide +kernel)
theorem qSel_X7_X7_sinkIntoOrder : (.selects "ColumnHouse" ⟨"ColumnHouse", "sinkIntoOrder", "(I)V"⟩ ⟨"ColumnHouse", "sinkIntoOrder", "(I)V"⟩ : Cond) ∈ gtbl := gt_in (List.mem_of_getElem? (i := 15) (by decide +kernel)) (by decide +kernel)
theorem qSel_X7_X7_placesUnlikeStage : (.selects "ColumnHouse" ⟨"ColumnHouse", "placesUnlikeStage", "(LColumnHouse$Row;)I"⟩ ⟨"ColumnHouse", "placesUnlikeStage", "(LColumnHouse$Row;)I"⟩ : Cond) ∈ gtbl := gt_in (List.mem_of_getElem? (i := 16) (by decide +kernel)) (by decide +kernel)
theorem qSel_X8_X8_refuse : (.selects "ColumnHouseModel" ⟨"ColumnHouseModel", "refuse", "(I)I"⟩ ⟨"ColumnHouseModel", "refuse", "(I)I"⟩ : Cond) ∈ gtbl := gt_in (List.mem_of_getElem? (i := 17) (by decide +kernel)) (by decide +kernel)
theorem qSel_X8_X8_reasonOfRow : (.selects "ColumnHouseModel" ⟨"ColumnHouseModel", "reasonOfRow", "(I)I"⟩ ⟨"ColumnHouseModel", "reasonOfRow", "(I)I"⟩ : Cond) ∈ gtbl := gt_in (List.mem_of_getElem? (i := 18) (by decide +kernel)) (by decide +kernel)
theorem qSel_X8_X8_in : (.selects "ColumnHouseModel" ⟨"ColumnHouseModel", "in", "(I)I"⟩ ⟨"ColumnHouseModel", "in", "(I)I"⟩ : Cond) ∈ gtbl := gt_in (List.mem_of_getElem? (i := 19) (by decide +kernel)) (by decide +kernel)
theorem qSel_X8_X8_isRow : (.selects "ColumnHouseModel" ⟨"ColumnHouseModel", "isRow", "(I)Z"⟩ ⟨"ColumnHouseModel", "isRow", "(I)Z"⟩ : Cond) ∈ gtbl := gt_in (List.mem_of_getElem? (i := 20) (by decide +kernel)) (by decide +kernel)
theorem qSel_X8_X8_isCard : (.selects "ColumnHouseModel" ⟨"ColumnHouseModel", "isCard", "(I)Z"⟩ ⟨"ColumnHouseModel", "isCard", "(I)Z"⟩ : Cond) ∈ gtbl := gt_in (List.mem_of_getElem? (i := 21) (by decide +kernel)) (by decide +kernel)
theorem qSel_X8_X8_reasonOfPlace : (.selects "ColumnHouseModel" ⟨"ColumnHouseModel", "reasonOfPlace", "(II)I"⟩ ⟨"ColumnHouseModel", "reasonOfPlace", "(II)I"⟩ : Cond) ∈ gtbl := gt_in (List.mem_of_getElem? (i := 22) (by decide +kernel)) (by decide +kernel)
theorem qSel_X8_X8_hasPlace : (.selects "ColumnHouseModel" ⟨"ColumnHouseModel", "hasPlace", "(II)Z"⟩ ⟨"ColumnHouseModel", "hasPlace", "(II)Z"⟩ : Cond) ∈ gtbl := gt_in (List.mem_of_getElem? (i := 23) (by decide +kernel)) (by decide +kernel)
theorem qSel_X8_X8_tell : (.selects "ColumnHouseModel" ⟨"ColumnHouseModel", "tell", "(III)V"⟩ ⟨"ColumnHouseModel", "tell", "(III)V"⟩ : Cond) ∈ gtbl := gt_in (List.mem_of_getElem? (i := 24) (by decide +kernel)) (by decide +kernel)
theorem qSel_X8_X8_goesIn : (.selects "ColumnHouseModel" ⟨"ColumnHouseModel", "goesIn", "(I)Z"⟩ ⟨"ColumnHouseModel", "goesIn", "(I)Z"⟩ : Cond) ∈ gtbl := gt_in (List.mem_of_getElem? (i := 25) (by decide +kernel)) (by decide +kernel)
theorem qSel_X8_X8_isPlain : (.selects "ColumnHouseModel" ⟨"ColumnHouseModel", "isPlain", "(I)Z"⟩ ⟨"ColumnHouseModel", "isPlain", "(I)Z"⟩ : Cond) ∈ gtbl := gt_in (List.mem_of_getElem? (i := 26) (by decide +kernel)) (by decide +kernel)
theorem qSel_X8_X8_goesInto : (.selects "ColumnHouseModel" ⟨"ColumnHouseModel", "goesInto", "(II)Z"⟩ ⟨"ColumnHouseModel", "goesInto", "(II)Z"⟩ : Cond) ∈ gtbl := gt_in (List.mem_of_getElem? (i := 27) (by decide +kernel)) (by decide +kernel)
theorem qSel_X8_X8_fits : (.selects "ColumnHouseModel" ⟨"ColumnHouseModel", "fits", "(IJ)Z"⟩ ⟨"ColumnHouseModel", "fits", "(IJ)Z"⟩ : Cond) ∈ gtbl := gt_in (List.mem_of_getElem? (i := 28) (by decide +kernel)) (by decide +kernel)
theorem qSel_X8_X8_widen : (.selects "ColumnHouseModel" ⟨"ColumnHouseModel", "widen", "(I)V"⟩ ⟨"ColumnHouseModel", "widen", "(I)V"⟩ : Cond) ∈ gtbl := gt_in (List.mem_of_getElem? (i := 29) (by decide +kernel)) (by decide +kernel)
theorem qSel_X8_X8_set : (.selects "ColumnHouseModel" ⟨"ColumnHouseModel", "set", "(II)V"⟩ ⟨"ColumnHouseModel", "set", "(II)V"⟩ : Cond) ∈ gtbl := gt_in (List.mem_of_getElem? (i := 30) (by decide +kernel)) (by decide +kernel)
theorem qSel_X8_X8_reasonOfValue : (.selects "ColumnHouseModel" ⟨"ColumnHouseModel", "reasonOfValue", "(III)I"⟩ ⟨"ColumnHouseModel", "reasonOfValue", "(III)I"⟩ : Cond) ∈ gtbl := gt_in (List.mem_of_getElem? (i := 31) (by decide +kernel)) (by decide +kernel)
theorem qSel_X8_X8_get : (.selects "ColumnHouseModel" ⟨"ColumnHouseModel", "get", "(II)V"⟩ ⟨"ColumnHouseModel", "get", "(II)V"⟩ : Cond) ∈ gtbl := gt_in (List.mem_of_getElem? (i := 32) (by decide +kernel)) (by decide +kernel)
theorem qSel_X8_X8_kindOf : (.selects "ColumnHouseModel" ⟨"ColumnHouseModel", "kindOf", "(J)I"⟩ ⟨"ColumnHouseModel", "kindOf", "(J)I"⟩ : Cond) ∈ gtbl := gt_in (List.mem_of_getElem? (i := 33) (by decide +kernel)) (by decide +kernel)
theorem qSel_X8_X8_reasonOfRows : (.selects "ColumnHouseModel" ⟨"ColumnHouseModel", "reasonOfRows", "(III)I"⟩ ⟨"ColumnHouseModel", "reasonOfRows", "(III)I"⟩ : Cond) ∈ gtbl := gt_in (List.mem_of_getElem? (i := 34) (by decide +kernel)) (by decide +kernel)
theorem qSel_X8_X8_carry : (.selects "ColumnHouseModel" ⟨"ColumnHouseModel", "carry", "(III)I"⟩ ⟨"ColumnHouseModel", "carry", "(III)I"⟩ : Cond) ∈ gtbl := gt_in (List.mem_of_getElem? (i := 35) (by decide +kernel)) (by decide +kernel)
theorem qSel_X8_X8_tellsPlaces : (.selects "ColumnHouseModel" ⟨"ColumnHouseModel", "tellsPlaces", "(I)Z"⟩ ⟨"ColumnHouseModel", "tellsPlaces", "(I)Z"⟩ : Cond) ∈ gtbl := gt_in (List.mem_of_getElem? (i := 36) (by decide +kernel)) (by decide +kernel)
theorem qSel_X8_X8_mergeAll : (.selects "ColumnHouseModel" ⟨"ColumnHouseModel", "mergeAll", "(II)V"⟩ ⟨"ColumnHouseModel", "mergeAll", "(II)V"⟩ : Cond) ∈ gtbl := gt_in (List.mem_of_getElem? (i := 37) (by decide +kernel)) (by decide +kernel)
theorem qSel_X8_X8_against : (.selects "ColumnHouseModel" ⟨"ColumnHouseModel", "against", "(IJD)I"⟩ ⟨"ColumnHouseModel", "against", "(IJD)I"⟩ : Cond) ∈ gtbl := gt_in (List.mem_of_getElem? (i := 38) (by decide +kernel)) (by decide +kernel)
theorem qSel_X8_X8_takeOut : (.selects "ColumnHouseModel" ⟨"ColumnHouseModel", "takeOut", "(I)V"⟩ ⟨"ColumnHouseModel", "takeOut", "(I)V"⟩ : Cond) ∈ gtbl := gt_in (List.mem_of_getElem? (i := 39) (by decide +kernel)) (by decide +kernel)
theorem qSel_X8_X8_isBefore : (.selects "ColumnHouseModel" ⟨"ColumnHouseModel", "isBefore", "(III)Z"⟩ ⟨"ColumnHouseModel", "isBefore", "(III)Z"⟩ : Cond) ∈ gtbl := gt_in (List.mem_of_getElem? (i := 40) (by decide +kernel)) (by decide +kernel)
theorem qSel_X8_X8_rankOf : (.selects "ColumnHouseModel" ⟨"ColumnHouseModel", "rankOf", "(J)J"⟩ ⟨"ColumnHouseModel", "rankOf", "(J)J"⟩ : Cond) ∈ gtbl := gt_in (List.mem_of_getElem? (i := 41) (by decide +kernel)) (by decide +kernel)
theorem qSel_X8_X8_swap : (.selects "ColumnHouseModel" ⟨"ColumnHouseModel", "swap", "(III)V"⟩ ⟨"ColumnHouseModel", "swap", "(III)V"⟩ : Cond) ∈ gtbl := gt_in (List.mem_of_getElem? (i := 42) (by decide +kernel)) (by decide +kernel)
theorem qSel_X8_X8_others : (.selects "ColumnHouseModel" ⟨"ColumnHouseModel", "others", "(I)I"⟩ ⟨"ColumnHouseModel", "others", "(I)I"⟩ : Cond) ∈ gtbl := gt_in (List.mem_of_getElem? (i := 43) (by decide +kernel)) (by decide +kernel)
theorem qSel_X8_X8_areAlike : (.selects "ColumnHouseModel" ⟨"ColumnHouseModel", "areAlike", "(III)Z"⟩ ⟨"ColumnHouseModel", "areAlike", "(III)Z"⟩ : Cond) ∈ gtbl := gt_in (List.mem_of_getElem? (i := 44) (by decide +kernel)) (by decide +kernel)
theorem qInit_L : (Cond.initialized "ColumnHouseLaw" : Cond) ∈ gtbl := gt_in (List.mem_of_getElem? (i := 45) (by decide +kernel)) (by decide +kernel)
theorem qInit_X7 : (Cond.initialized "ColumnHouse" : Cond) ∈ gtbl := gt_in (List.mem_of_getElem? (i := 46) (by decide +kernel)) (by decide +kernel)
theorem qInit_X1 : (Cond.initialized "ColumnHouse$Cell" : Cond) ∈ gtbl := gt_in (List.mem_of_getElem? (i := 47) (by decide +kernel)) (by decide +kernel)
theorem qInit_X8 : (Cond.initialized "ColumnHouseModel" : Cond) ∈ gtbl := gt_in (List.mem_of_getElem? (i := 48) (by decide +kernel)) (by decide +kernel)
theorem qInit_X4 : (Cond.initialized "ColumnHouse$Thing" : Cond) ∈ gtbl := gt_in (List.mem_of_getElem? (i := 49) (by decide +kernel)) (by decide +kernel)
theorem qInit_X0 : (Cond.initialized "ColumnHouse$Card" : Cond) ∈ gtbl := gt_in (List.mem_of_getElem? (i := 50) (by decide +kernel)) (by decide +kernel)
theorem qInit_X3 : (Cond.initialized "ColumnHouse$Row" : Cond) ∈ gtbl := gt_in (List.mem_of_getElem? (i := 51) (by decide +kernel)) (by decide +kernel)
theorem qInit_X6 : (Cond.initialized "ColumnHouse$WholeRow" : Cond) ∈ gtbl := gt_in (List.mem_of_getElem? (i := 52) (by decide +kernel)) (by decide +kernel)
theorem qInit_X2 : (Cond.initialized "ColumnHouse$PointRow" : Cond) ∈ gtbl := gt_in (List.mem_of_getElem? (i := 53) (by decide +kernel)) (by decide +kernel)
theorem qInit_X5 : (Cond.initialized "ColumnHouse$ThingRow" : Cond) ∈ gtbl := gt_in (List.mem_of_getElem? (i := 54) (by decide +kernel)) (by decide +kernel)
theorem qInit_J9 : (Cond.initialized "java/lang/Math" : Cond) ∈ gtbl := gt_in (List.mem_of_getElem? (i := 55) (by decide +kernel)) (by decide +kernel)
theorem qC_L_7 : (Cond.classLink "ColumnHouseLaw" (7 : Nat) "ColumnHouse" : Cond) ∈ gtbl := gt_in (List.mem_of_getElem? (i := 56) (by decide +kernel)) (by decide +kernel)
theorem qNew_X7 : (Cond.instantiable "ColumnHouse" (6 : Nat) : Cond) ∈ gtbl := gt_in (List.mem_of_getElem? (i := 57) (by decide +kernel)) (by decide +kernel)
theorem qM_L_9 : (Cond.methodLink "ColumnHouseLaw" (9 : Nat) ({ cls := "ColumnHouse", name := "<init>", desc := "()V" } : MethodName) : Cond) ∈ gtbl := gt_in (List.mem_of_getElem? (i := 58) (by decide +kernel)) (by decide +kernel)
theorem qI_X7_init : (Cond.instanceMethod ({ cls := "ColumnHouse", name := "<init>", desc := "()V" } : MethodName) : Cond) ∈ gtbl := gt_in (List.mem_of_getElem? (i := 59) (by decide +kernel)) (by decide +kernel)
theorem qK_X7_init : (Cond.code ({ cls := "ColumnHouse", name := "<init>", desc := "()V" } : MethodName) prog_1_method_1_code (2 : Nat) (Option.none : Option FieldType) : Cond) ∈ gtbl := gt_in (List.mem_of_getElem? (i := 60) (by decide +kernel)) (by decide +kernel)
theorem qM_X7_1 : (Cond.methodLink "ColumnHouse" (1 : Nat) ({ cls := "java/lang/Object", name := "<init>", desc := "()V" } : MethodName) : Cond) ∈ gtbl := gt_in (List.mem_of_getElem? (i := 61) (by decide +kernel)) (by decide +kernel)
theorem qI_OB_init : (Cond.instanceMethod ({ cls := "java/lang/Object", name := "<init>", desc := "()V" } : MethodName) : Cond) ∈ gtbl := gt_in (List.mem_of_getElem? (i := 62) (by decide +kernel)) (by decide +kernel)
theorem qK_OB_init : (Cond.code ({ cls := "java/lang/Object", name := "<init>", desc := "()V" } : MethodName) object_method_1_code (1 : Nat) (Option.none : Option FieldType) : Cond) ∈ gtbl := gt_in (List.mem_of_getElem? (i := 63) (by decide +kernel)) (by decide +kernel)
theorem qC_X7_9 : (Cond.classLink "ColumnHouse" (9 : Nat) "ColumnHouse$Thing" : Cond) ∈ gtbl := gt_in (List.mem_of_getElem? (i := 64) (by decide +kernel)) (by decide +kernel)
theorem qC_X7_15 : (Cond.classLink "ColumnHouse" (15 : Nat) "ColumnHouse$Cell" : Cond) ∈ gtbl := gt_in (List.mem_of_getElem? (i := 66) (by decide +kernel)) (by decide +kernel)
theorem qNew_X1 : (Cond.instantiable "ColumnHouse$Cell" (4 : Nat) : Cond) ∈ gtbl := gt_in (List.mem_of_getElem? (i := 68) (by decide +kernel)) (by decide +kernel)
theorem qI_X1_init : (Cond.instanceMethod ({ cls := "ColumnHouse$Cell", name := "<init>", desc := "()V" } : MethodName) : Cond) ∈ gtbl := gt_in (List.mem_of_getElem? (i := 70) (by decide +kernel)) (by decide +kernel)
theorem qK_X1_init : (Cond.code ({ cls := "ColumnHouse$Cell", name := "<init>", desc := "()V" } : MethodName) prog_3_method_1_code (1 : Nat) (Option.none : Option FieldType) : Cond) ∈ gtbl := gt_in (List.mem_of_getElem? (i := 71) (by decide +kernel)) (by decide +kernel)
theorem qM_X1_3 : (Cond.methodLink "ColumnHouse$Cell" (3 : Nat) ({ cls := "java/lang/Object", name := "<init>", desc := "()V" } : MethodName) : Cond) ∈ gtbl := gt_in (List.mem_of_getElem? (i := 72) (by decide +kernel)) (by decide +kernel)
theorem qF_X1_9 : (Cond.fieldLink "ColumnHouse$Cell" (9 : Nat) "ColumnHouse$Cell" "sort" "I" : Cond) ∈ gtbl := gt_in (List.mem_of_getElem? (i := 73) (by decide +kernel)) (by decide +kernel)
theorem qF_X3_32 : (Cond.fieldLink "ColumnHouse$Row" (32 : Nat) "ColumnHouse$Cell" "sort" "I" : Cond) ∈ gtbl := gt_in (List.mem_of_getElem? (i := 74) (by decide +kernel)) (by decide +kernel)
theorem qF_X7_125 : (Cond.fieldLink "ColumnHouse" (125 : Nat) "ColumnHouse$Cell" "sort" "I" : Cond) ∈ gtbl := gt_in (List.mem_of_getElem? (i := 75) (by decide +kernel)) (by decide +kernel)
theorem qF_X1_15 : (Cond.fieldLink "ColumnHouse$Cell" (15 : Nat) "ColumnHouse$Cell" "whole" "J" : Cond) ∈ gtbl := gt_in (List.mem_of_getElem? (i := 76) (by decide +kernel)) (by decide +kernel)
theorem qF_X6_23 : (Cond.fieldLink "ColumnHouse$WholeRow" (23 : Nat) "ColumnHouse$Cell" "whole" "J" : Cond) ∈ gtbl := gt_in (List.mem_of_getElem? (i := 77) (by decide +kernel)) (by decide +kernel)
theorem qF_X7_106 : (Cond.fieldLink "ColumnHouse" (106 : Nat) "ColumnHouse$Cell" "whole" "J" : Cond) ∈ gtbl := gt_in (List.mem_of_getElem? (i := 78) (by decide +kernel)) (by decide +kernel)
theorem qF_X1_19 : (Cond.fieldLink "ColumnHouse$Cell" (19 : Nat) "ColumnHouse$Cell" "point" "D" : Cond) ∈ gtbl := gt_in (List.mem_of_getElem? (i := 79) (by decide +kernel)) (by decide +kernel)
theorem qF_X5_21 : (Cond.fieldLink "ColumnHouse$ThingRow" (21 : Nat) "ColumnHouse$Cell" "thing" "LColumnHouse$Thing;" : Cond) ∈ gtbl := gt_in (List.mem_of_getElem? (i := 80) (by decide +kernel)) (by decide +kernel)
theorem qF_X1_23 : (Cond.fieldLink "ColumnHouse$Cell" (23 : Nat) "ColumnHouse$Cell" "thing" "LColumnHouse$Thing;" : Cond) ∈ gtbl := gt_in (List.mem_of_getElem? (i := 81) (by decide +kernel)) (by decide +kernel)
theorem qF_X3_35 : (Cond.fieldLink "ColumnHouse$Row" (35 : Nat) "ColumnHouse$Cell" "thing" "LColumnHouse$Thing;" : Cond) ∈ gtbl := gt_in (List.mem_of_getElem? (i := 82) (by decide +kernel)) (by decide +kernel)
theorem qF_X7_128 : (Cond.fieldLink "ColumnHouse" (128 : Nat) "ColumnHouse$Cell" "thing" "LColumnHouse$Thing;" : Cond) ∈ gtbl := gt_in (List.mem_of_getElem? (i := 83) (by decide +kernel)) (by decide +kernel)
theorem qF_X7_11 : (Cond.fieldLink "ColumnHouse" (11 : Nat) "ColumnHouse" "columns" "[LColumnHouse$Thing;" : Cond) ∈ gtbl := gt_in (List.mem_of_getElem? (i := 93) (by decide +kernel)) (by decide +kernel)
theorem qF_X7_17 : (Cond.fieldLink "ColumnHouse" (17 : Nat) "ColumnHouse" "stage" "[LColumnHouse$Cell;" : Cond) ∈ gtbl := gt_in (List.mem_of_getElem? (i := 94) (by decide +kernel)) (by decide +kernel)
theorem qF_X7_22 : (Cond.fieldLink "ColumnHouse" (22 : Nat) "ColumnHouse" "targets" "[I" : Cond) ∈ gtbl := gt_in (List.mem_of_getElem? (i := 95) (by decide +kernel)) (by decide +kernel)
theorem qF_X7_26 : (Cond.fieldLink "ColumnHouse" (26 : Nat) "ColumnHouse" "one" "LColumnHouse$Cell;" : Cond) ∈ gtbl := gt_in (List.mem_of_getElem? (i := 96) (by decide +kernel)) (by decide +kernel)
theorem qF_X7_30 : (Cond.fieldLink "ColumnHouse" (30 : Nat) "ColumnHouse" "other" "LColumnHouse$Cell;" : Cond) ∈ gtbl := gt_in (List.mem_of_getElem? (i := 97) (by decide +kernel)) (by decide +kernel)
theorem qF_X7_33 : (Cond.fieldLink "ColumnHouse" (33 : Nat) "ColumnHouse" "why" "I" : Cond) ∈ gtbl := gt_in (List.mem_of_getElem? (i := 98) (by decide +kernel)) (by decide +kernel)
theorem qA_int : (Cond.arrayClass FieldType.int : Cond) ∈ gtbl := gt_in (List.mem_of_getElem? (i := 112) (by decide +kernel)) (by decide +kernel)
theorem qM_L_13 : (Cond.methodLink "ColumnHouseLaw" (13 : Nat) ({ cls := "ColumnHouse", name := "make", desc := "(III)I" } : MethodName) : Cond) ∈ gtbl := gt_in (List.mem_of_getElem? (i := 113) (by decide +kernel)) (by decide +kernel)
theorem qI_X7_make : (Cond.instanceMethod ({ cls := "ColumnHouse", name := "make", desc := "(III)I" } : MethodName) : Cond) ∈ gtbl := gt_in (List.mem_of_getElem? (i := 114) (by decide +kernel)) (by decide +kernel)
theorem qSel_X7_X7_make : (Cond.selects "ColumnHouse" ({ cls := "ColumnHouse", name := "make", desc := "(III)I" } : MethodName) ({ cls := "ColumnHouse", name := "make", desc := "(III)I" } : MethodName) : Cond) ∈ gtbl := gt_in (List.mem_of_getElem? (i := 115) (by decide +kernel)) (by decide +kernel)
theorem qK_X7_make : (Cond.code ({ cls := "ColumnHouse", name := "make", desc := "(III)I" } : MethodName) prog_1_method_2_code (4 : Nat) (Option.some FieldType.int) : Cond) ∈ gtbl := gt_in (List.mem_of_getElem? (i := 116) (by decide +kernel)) (by decide +kernel)
theorem qM_X7_37 : (Cond.methodLink "ColumnHouse" (37 : Nat) ({ cls := "ColumnHouse", name := "isColumn", desc := "(I)Z" } : MethodName) : Cond) ∈ gtbl := gt_in (List.mem_of_getElem? (i := 117) (by decide +kernel)) (by decide +kernel)
theorem qSt_X7_isColumn : (Cond.static ({ cls := "ColumnHouse", name := "isColumn", desc := "(I)Z" } : MethodName) : Cond) ∈ gtbl := gt_in (List.mem_of_getElem? (i := 118) (by decide +kernel)) (by decide +kernel)
theorem qK_X7_isColumn : (Cond.code ({ cls := "ColumnHouse", name := "isColumn", desc := "(I)Z" } : MethodName) prog_1_method_28_code (1 : Nat) (Option.some FieldType.boolean) : Cond) ∈ gtbl := gt_in (List.mem_of_getElem? (i := 119) (by decide +kernel)) (by decide +kernel)
theorem qM_X7_41 : (Cond.methodLink "ColumnHouse" (41 : Nat) ({ cls := "ColumnHouse", name := "refuse", desc := "(I)I" } : MethodName) : Cond) ∈ gtbl := gt_in (List.mem_of_getElem? (i := 120) (by decide +kernel)) (by decide +kernel)
theorem qI_X7_refuse : (Cond.instanceMethod ({ cls := "ColumnHouse", name := "refuse", desc := "(I)I" } : MethodName) : Cond) ∈ gtbl := gt_in (List.mem_of_getElem? (i := 122) (by decide +kernel)) (by decide +kernel)
theorem qK_X7_refuse : (Cond.code ({ cls := "ColumnHouse", name := "refuse", desc := "(I)I" } : MethodName) prog_1_method_27_code (2 : Nat) (Option.some FieldType.int) : Cond) ∈ gtbl := gt_in (List.mem_of_getElem? (i := 123) (by decide +kernel)) (by decide +kernel)
theorem qC_X7_45 : (Cond.classLink "ColumnHouse" (45 : Nat) "ColumnHouse$Card" : Cond) ∈ gtbl := gt_in (List.mem_of_getElem? (i := 124) (by decide +kernel)) (by decide +kernel)
theorem qNew_X0 : (Cond.instantiable "ColumnHouse$Card" (2 : Nat) : Cond) ∈ gtbl := gt_in (List.mem_of_getElem? (i := 125) (by decide +kernel)) (by decide +kernel)
theorem qM_X7_47 : (Cond.methodLink "ColumnHouse" (47 : Nat) ({ cls := "ColumnHouse$Card", name := "<init>", desc := "(II)V" } : MethodName) : Cond) ∈ gtbl := gt_in (List.mem_of_getElem? (i := 126) (by decide +kernel)) (by decide +kernel)
theorem qI_X0_init : (Cond.instanceMethod ({ cls := "ColumnHouse$Card", name := "<init>", desc := "(II)V" } : MethodName) : Cond) ∈ gtbl := gt_in (List.mem_of_getElem? (i := 127) (by decide +kernel)) (by decide +kernel)
theorem qK_X0_init : (Cond.code ({ cls := "ColumnHouse$Card", name := "<init>", desc := "(II)V" } : MethodName) prog_2_method_1_code (3 : Nat) (Option.none : Option FieldType) : Cond) ∈ gtbl := gt_in (List.mem_of_getElem? (i := 128) (by decide +kernel)) (by decide +kernel)
theorem qM_X0_1 : (Cond.methodLink "ColumnHouse$Card" (1 : Nat) ({ cls := "ColumnHouse$Thing", name := "<init>", desc := "(I)V" } : MethodName) : Cond) ∈ gtbl := gt_in (List.mem_of_getElem? (i := 129) (by decide +kernel)) (by decide +kernel)
theorem qI_X4_init : (Cond.instanceMethod ({ cls := "ColumnHouse$Thing", name := "<init>", desc := "(I)V" } : MethodName) : Cond) ∈ gtbl := gt_in (List.mem_of_getElem? (i := 130) (by decide +kernel)) (by decide +kernel)
theorem qK_X4_init : (Cond.code ({ cls := "ColumnHouse$Thing", name := "<init>", desc := "(I)V" } : MethodName) prog_6_method_1_code (2 : Nat) (Option.none : Option FieldType) : Cond) ∈ gtbl := gt_in (List.mem_of_getElem? (i := 131) (by decide +kernel)) (by decide +kernel)
theorem qM_X4_1 : (Cond.methodLink "ColumnHouse$Thing" (1 : Nat) ({ cls := "java/lang/Object", name := "<init>", desc := "()V" } : MethodName) : Cond) ∈ gtbl := gt_in (List.mem_of_getElem? (i := 132) (by decide +kernel)) (by decide +kernel)
theorem qF_X0_7 : (Cond.fieldLink "ColumnHouse$Card" (7 : Nat) "ColumnHouse$Card" "tag" "I" : Cond) ∈ gtbl := gt_in (List.mem_of_getElem? (i := 133) (by decide +kernel)) (by decide +kernel)
theorem qF_X7_84 : (Cond.fieldLink "ColumnHouse" (84 : Nat) "ColumnHouse$Card" "tag" "I" : Cond) ∈ gtbl := gt_in (List.mem_of_getElem? (i := 134) (by decide +kernel)) (by decide +kernel)
theorem qF_X4_7 : (Cond.fieldLink "ColumnHouse$Thing" (7 : Nat) "ColumnHouse$Thing" "kind" "I" : Cond) ∈ gtbl := gt_in (List.mem_of_getElem? (i := 135) (by decide +kernel)) (by decide +kernel)
theorem qF_X2_13 : (Cond.fieldLink "ColumnHouse$PointRow" (13 : Nat) "ColumnHouse$PointRow" "kind" "I" : Cond) ∈ gtbl := gt_in (List.mem_of_getElem? (i := 136) (by decide +kernel)) (by decide +kernel)
theorem qSF_X2 : (Cond.sameField "ColumnHouse$PointRow" "ColumnHouse$Thing" "kind" "I" : Cond) ∈ gtbl := gt_in (List.mem_of_getElem? (i := 137) (by decide +kernel)) (by decide +kernel)
theorem qF_X6_13 : (Cond.fieldLink "ColumnHouse$WholeRow" (13 : Nat) "ColumnHouse$WholeRow" "kind" "I" : Cond) ∈ gtbl := gt_in (List.mem_of_getElem? (i := 138) (by decide +kernel)) (by decide +kernel)
theorem qSF_X6 : (Cond.sameField "ColumnHouse$WholeRow" "ColumnHouse$Thing" "kind" "I" : Cond) ∈ gtbl := gt_in (List.mem_of_getElem? (i := 139) (by decide +kernel)) (by decide +kernel)
theorem qF_X3_15 : (Cond.fieldLink "ColumnHouse$Row" (15 : Nat) "ColumnHouse$Row" "kind" "I" : Cond) ∈ gtbl := gt_in (List.mem_of_getElem? (i := 140) (by decide +kernel)) (by decide +kernel)
theorem qSF_X3 : (Cond.sameField "ColumnHouse$Row" "ColumnHouse$Thing" "kind" "I" : Cond) ∈ gtbl := gt_in (List.mem_of_getElem? (i := 141) (by decide +kernel)) (by decide +kernel)
theorem qF_X7_87 : (Cond.fieldLink "ColumnHouse" (87 : Nat) "ColumnHouse$Card" "kind" "I" : Cond) ∈ gtbl := gt_in (List.mem_of_getElem? (i := 142) (by decide +kernel)) (by decide +kernel)
theorem qSF_X0 : (Cond.sameField "ColumnHouse$Card" "ColumnHouse$Thing" "kind" "I" : Cond) ∈ gtbl := gt_in (List.mem_of_getElem? (i := 143) (by decide +kernel)) (by decide +kernel)
theorem qF_X3_39 : (Cond.fieldLink "ColumnHouse$Row" (39 : Nat) "ColumnHouse$Thing" "kind" "I" : Cond) ∈ gtbl := gt_in (List.mem_of_getElem? (i := 144) (by decide +kernel)) (by decide +kernel)
theorem qF_X7_155 : (Cond.fieldLink "ColumnHouse" (155 : Nat) "ColumnHouse$Row" "kind" "I" : Cond) ∈ gtbl := gt_in (List.mem_of_getElem? (i := 145) (by decide +kernel)) (by decide +kernel)
theorem qF_X7_185 : (Cond.fieldLink "ColumnHouse" (185 : Nat) "ColumnHouse$Thing" "kind" "I" : Cond) ∈ gtbl := gt_in (List.mem_of_getElem? (i := 146) (by decide +kernel)) (by decide +kernel)
theorem qM_X7_50 : (Cond.methodLink "ColumnHouse" (50 : Nat) ({ cls := "ColumnHouse", name := "done", desc := "(I)I" } : MethodName) : Cond) ∈ gtbl := gt_in (List.mem_of_getElem? (i := 152) (by decide +kernel)) (by decide +kernel)
theorem qI_X7_done : (Cond.instanceMethod ({ cls := "ColumnHouse", name := "done", desc := "(I)I" } : MethodName) : Cond) ∈ gtbl := gt_in (List.mem_of_getElem? (i := 154) (by decide +kernel)) (by decide +kernel)
theorem qK_X7_done : (Cond.code ({ cls := "ColumnHouse", name := "done", desc := "(I)I" } : MethodName) prog_1_method_26_code (2 : Nat) (Option.some FieldType.int) : Cond) ∈ gtbl := gt_in (List.mem_of_getElem? (i := 155) (by decide +kernel)) (by decide +kernel)
theorem qM_X7_53 : (Cond.methodLink "ColumnHouse" (53 : Nat) ({ cls := "ColumnHouse", name := "newRow", desc := "(II)LColumnHouse$Row;" } : MethodName) : Cond) ∈ gtbl := gt_in (List.mem_of_getElem? (i := 156) (by decide +kernel)) (by decide +kernel)
theorem qSt_X7_newRow : (Cond.static ({ cls := "ColumnHouse", name := "newRow", desc := "(II)LColumnHouse$Row;" } : MethodName) : Cond) ∈ gtbl := gt_in (List.mem_of_getElem? (i := 157) (by decide +kernel)) (by decide +kernel)
theorem qK_X7_newRow : (Cond.code ({ cls := "ColumnHouse", name := "newRow", desc := "(II)LColumnHouse$Row;" } : MethodName) prog_1_method_32_code (2 : Nat) (Option.some (FieldType.object "ColumnHouse$Row")) : Cond) ∈ gtbl := gt_in (List.mem_of_getElem? (i := 158) (by decide +kernel)) (by decide +kernel)
theorem qC_X7_186 : (Cond.classLink "ColumnHouse" (186 : Nat) "ColumnHouse$WholeRow" : Cond) ∈ gtbl := gt_in (List.mem_of_getElem? (i := 159) (by decide +kernel)) (by decide +kernel)
theorem qNew_X6 : (Cond.instantiable "ColumnHouse$WholeRow" (2 : Nat) : Cond) ∈ gtbl := gt_in (List.mem_of_getElem? (i := 160) (by decide +kernel)) (by decide +kernel)
theorem qM_X7_188 : (Cond.methodLink "ColumnHouse" (188 : Nat) ({ cls := "ColumnHouse$WholeRow", name := "<init>", desc := "(II)V" } : MethodName) : Cond) ∈ gtbl := gt_in (List.mem_of_getElem? (i := 161) (by decide +kernel)) (by decide +kernel)
theorem qI_X6_init : (Cond.instanceMethod ({ cls := "ColumnHouse$WholeRow", name := "<init>", desc := "(II)V" } : MethodName) : Cond) ∈ gtbl := gt_in (List.mem_of_getElem? (i := 162) (by decide +kernel)) (by decide +kernel)
theorem qK_X6_init : (Cond.code ({ cls := "ColumnHouse$WholeRow", name := "<init>", desc := "(II)V" } : MethodName) prog_8_method_1_code (3 : Nat) (Option.none : Option FieldType) : Cond) ∈ gtbl := gt_in (List.mem_of_getElem? (i := 163) (by decide +kernel)) (by decide +kernel)
theorem qM_X6_1 : (Cond.methodLink "ColumnHouse$WholeRow" (1 : Nat) ({ cls := "ColumnHouse$Row", name := "<init>", desc := "(I)V" } : MethodName) : Cond) ∈ gtbl := gt_in (List.mem_of_getElem? (i := 164) (by decide +kernel)) (by decide +kernel)
theorem qI_X3_init : (Cond.instanceMethod ({ cls := "ColumnHouse$Row", name := "<init>", desc := "(I)V" } : MethodName) : Cond) ∈ gtbl := gt_in (List.mem_of_getElem? (i := 165) (by decide +kernel)) (by decide +kernel)
theorem qK_X3_init : (Cond.code ({ cls := "ColumnHouse$Row", name := "<init>", desc := "(I)V" } : MethodName) prog_5_method_1_code (2 : Nat) (Option.none : Option FieldType) : Cond) ∈ gtbl := gt_in (List.mem_of_getElem? (i := 166) (by decide +kernel)) (by decide +kernel)
theorem qM_X3_3 : (Cond.methodLink "ColumnHouse$Row" (3 : Nat) ({ cls := "ColumnHouse$Thing", name := "<init>", desc := "(I)V" } : MethodName) : Cond) ∈ gtbl := gt_in (List.mem_of_getElem? (i := 167) (by decide +kernel)) (by decide +kernel)
theorem qF_X6_7 : (Cond.fieldLink "ColumnHouse$WholeRow" (7 : Nat) "ColumnHouse$WholeRow" "wholes" "[J" : Cond) ∈ gtbl := gt_in (List.mem_of_getElem? (i := 168) (by decide +kernel)) (by decide +kernel)
theorem qA_long : (Cond.arrayClass FieldType.long : Cond) ∈ gtbl := gt_in (List.mem_of_getElem? (i := 173) (by decide +kernel)) (by decide +kernel)
theorem qC_X7_189 : (Cond.classLink "ColumnHouse" (189 : Nat) "ColumnHouse$PointRow" : Cond) ∈ gtbl := gt_in (List.mem_of_getElem? (i := 174) (by decide +kernel)) (by decide +kernel)
theorem qNew_X2 : (Cond.instantiable "ColumnHouse$PointRow" (2 : Nat) : Cond) ∈ gtbl := gt_in (List.mem_of_getElem? (i := 175) (by decide +kernel)) (by decide +kernel)
theorem qM_X7_191 : (Cond.methodLink "ColumnHouse" (191 : Nat) ({ cls := "ColumnHouse$PointRow", name := "<init>", desc := "(II)V" } : MethodName) : Cond) ∈ gtbl := gt_in (List.mem_of_getElem? (i := 176) (by decide +kernel)) (by decide +kernel)
theorem qI_X2_init : (Cond.instanceMethod ({ cls := "ColumnHouse$PointRow", name := "<init>", desc := "(II)V" } : MethodName) : Cond) ∈ gtbl := gt_in (List.mem_of_getElem? (i := 177) (by decide +kernel)) (by decide +kernel)
theorem qK_X2_init : (Cond.code ({ cls := "ColumnHouse$PointRow", name := "<init>", desc := "(II)V" } : MethodName) prog_4_method_1_code (3 : Nat) (Option.none : Option FieldType) : Cond) ∈ gtbl := gt_in (List.mem_of_getElem? (i := 178) (by decide +kernel)) (by decide +kernel)
theorem qM_X2_1 : (Cond.methodLink "ColumnHouse$PointRow" (1 : Nat) ({ cls := "ColumnHouse$Row", name := "<init>", desc := "(I)V" } : MethodName) : Cond) ∈ gtbl := gt_in (List.mem_of_getElem? (i := 179) (by decide +kernel)) (by decide +kernel)
theorem qF_X2_7 : (Cond.fieldLink "ColumnHouse$PointRow" (7 : Nat) "ColumnHouse$PointRow" "points" "[D" : Cond) ∈ gtbl := gt_in (List.mem_of_getElem? (i := 180) (by decide +kernel)) (by decide +kernel)
theorem qA_double : (Cond.arrayClass FieldType.double : Cond) ∈ gtbl := gt_in (List.mem_of_getElem? (i := 185) (by decide +kernel)) (by decide +kernel)
theorem qC_X7_192 : (Cond.classLink "ColumnHouse" (192 : Nat) "ColumnHouse$ThingRow" : Cond) ∈ gtbl := gt_in (List.mem_of_getElem? (i := 186) (by decide +kernel)) (by decide +kernel)
theorem qNew_X5 : (Cond.instantiable "ColumnHouse$ThingRow" (2 : Nat) : Cond) ∈ gtbl := gt_in (List.mem_of_getElem? (i := 187) (by decide +kernel)) (by decide +kernel)
theorem qM_X7_194 : (Cond.methodLink "ColumnHouse" (194 : Nat) ({ cls := "ColumnHouse$ThingRow", name := "<init>", desc := "(II)V" } : MethodName) : Cond) ∈ gtbl := gt_in (List.mem_of_getElem? (i := 188) (by decide +kernel)) (by decide +kernel)
theorem qI_X5_init : (Cond.instanceMethod ({ cls := "ColumnHouse$ThingRow", name := "<init>", desc := "(II)V" } : MethodName) : Cond) ∈ gtbl := gt_in (List.mem_of_getElem? (i := 189) (by decide +kernel)) (by decide +kernel)
theorem qK_X5_init : (Cond.code ({ cls := "ColumnHouse$ThingRow", name := "<init>", desc := "(II)V" } : MethodName) prog_7_method_1_code (3 : Nat) (Option.none : Option FieldType) : Cond) ∈ gtbl := gt_in (List.mem_of_getElem? (i := 190) (by decide +kernel)) (by decide +kernel)
theorem qM_X5_1 : (Cond.methodLink "ColumnHouse$ThingRow" (1 : Nat) ({ cls := "ColumnHouse$Row", name := "<init>", desc := "(I)V" } : MethodName) : Cond) ∈ gtbl := gt_in (List.mem_of_getElem? (i := 191) (by decide +kernel)) (by decide +kernel)
theorem qC_X5_7 : (Cond.classLink "ColumnHouse$ThingRow" (7 : Nat) "ColumnHouse$Thing" : Cond) ∈ gtbl := gt_in (List.mem_of_getElem? (i := 192) (by decide +kernel)) (by decide +kernel)
theorem qF_X5_9 : (Cond.fieldLink "ColumnHouse$ThingRow" (9 : Nat) "ColumnHouse$ThingRow" "things" "[LColumnHouse$Thing;" : Cond) ∈ gtbl := gt_in (List.mem_of_getElem? (i := 193) (by decide +kernel)) (by decide +kernel)
theorem qM_L_18 : (Cond.methodLink "ColumnHouseLaw" (18 : Nat) ({ cls := "ColumnHouse", name := "lay", desc := "(II)I" } : MethodName) : Cond) ∈ gtbl := gt_in (List.mem_of_getElem? (i := 198) (by decide +kernel)) (by decide +kernel)
theorem qI_X7_lay : (Cond.instanceMethod ({ cls := "ColumnHouse", name := "lay", desc := "(II)I" } : MethodName) : Cond) ∈ gtbl := gt_in (List.mem_of_getElem? (i := 199) (by decide +kernel)) (by decide +kernel)
theorem qSel_X7_X7_lay : (Cond.selects "ColumnHouse" ({ cls := "ColumnHouse", name := "lay", desc := "(II)I" } : MethodName) ({ cls := "ColumnHouse", name := "lay", desc := "(II)I" } : MethodName) : Cond) ∈ gtbl := gt_in (List.mem_of_getElem? (i := 200) (by decide +kernel)) (by decide +kernel)
theorem qK_X7_lay : (Cond.code ({ cls := "ColumnHouse", name := "lay", desc := "(II)I" } : MethodName) prog_1_method_3_code (3 : Nat) (Option.some FieldType.int) : Cond) ∈ gtbl := gt_in (List.mem_of_getElem? (i := 201) (by decide +kernel)) (by decide +kernel)
theorem qM_X7_57 : (Cond.methodLink "ColumnHouse" (57 : Nat) ({ cls := "ColumnHouse", name := "oneIfThing", desc := "(LColumnHouse$Thing;)I" } : MethodName) : Cond) ∈ gtbl := gt_in (List.mem_of_getElem? (i := 202) (by decide +kernel)) (by decide +kernel)
theorem qSt_X7_oneIfThing : (Cond.static ({ cls := "ColumnHouse", name := "oneIfThing", desc := "(LColumnHouse$Thing;)I" } : MethodName) : Cond) ∈ gtbl := gt_in (List.mem_of_getElem? (i := 203) (by decide +kernel)) (by decide +kernel)
theorem qK_X7_oneIfThing : (Cond.code ({ cls := "ColumnHouse", name := "oneIfThing", desc := "(LColumnHouse$Thing;)I" } : MethodName) prog_1_method_31_code (1 : Nat) (Option.some FieldType.int) : Cond) ∈ gtbl := gt_in (List.mem_of_getElem? (i := 204) (by decide +kernel)) (by decide +kernel)
theorem qM_L_23 : (Cond.methodLink "ColumnHouseLaw" (23 : Nat) ({ cls := "ColumnHouse", name := "places", desc := "(I)I" } : MethodName) : Cond) ∈ gtbl := gt_in (List.mem_of_getElem? (i := 205) (by decide +kernel)) (by decide +kernel)
theorem qI_X7_places : (Cond.instanceMethod ({ cls := "ColumnHouse", name := "places", desc := "(I)I" } : MethodName) : Cond) ∈ gtbl := gt_in (List.mem_of_getElem? (i := 206) (by decide +kernel)) (by decide +kernel)
theorem qSel_X7_X7_places : (Cond.selects "ColumnHouse" ({ cls := "ColumnHouse", name := "places", desc := "(I)I" } : MethodName) ({ cls := "ColumnHouse", name := "places", desc := "(I)I" } : MethodName) : Cond) ∈ gtbl := gt_in (List.mem_of_getElem? (i := 207) (by decide +kernel)) (by decide +kernel)
theorem qK_X7_places : (Cond.code ({ cls := "ColumnHouse", name := "places", desc := "(I)I" } : MethodName) prog_1_method_4_code (3 : Nat) (Option.some FieldType.int) : Cond) ∈ gtbl := gt_in (List.mem_of_getElem? (i := 208) (by decide +kernel)) (by decide +kernel)
theorem qM_X7_61 : (Cond.methodLink "ColumnHouse" (61 : Nat) ({ cls := "ColumnHouse", name := "rowIn", desc := "(I)LColumnHouse$Row;" } : MethodName) : Cond) ∈ gtbl := gt_in (List.mem_of_getElem? (i := 209) (by decide +kernel)) (by decide +kernel)
theorem qI_X7_rowIn : (Cond.instanceMethod ({ cls := "ColumnHouse", name := "rowIn", desc := "(I)LColumnHouse$Row;" } : MethodName) : Cond) ∈ gtbl := gt_in (List.mem_of_getElem? (i := 211) (by decide +kernel)) (by decide +kernel)
theorem qK_X7_rowIn : (Cond.code ({ cls := "ColumnHouse", name := "rowIn", desc := "(I)LColumnHouse$Row;" } : MethodName) prog_1_method_33_code (4 : Nat) (Option.some (FieldType.object "ColumnHouse$Row")) : Cond) ∈ gtbl := gt_in (List.mem_of_getElem? (i := 212) (by decide +kernel)) (by decide +kernel)
theorem qC_X7_69 : (Cond.classLink "ColumnHouse" (69 : Nat) "ColumnHouse$Row" : Cond) ∈ gtbl := gt_in (List.mem_of_getElem? (i := 213) (by decide +kernel)) (by decide +kernel)
theorem qM_X7_65 : (Cond.methodLink "ColumnHouse" (65 : Nat) ({ cls := "ColumnHouse", name := "rowAmiss", desc := "(I)I" } : MethodName) : Cond) ∈ gtbl := gt_in (List.mem_of_getElem? (i := 214) (by decide +kernel)) (by decide +kernel)
theorem qI_X7_rowAmiss : (Cond.instanceMethod ({ cls := "ColumnHouse", name := "rowAmiss", desc := "(I)I" } : MethodName) : Cond) ∈ gtbl := gt_in (List.mem_of_getElem? (i := 216) (by decide +kernel)) (by decide +kernel)
theorem qK_X7_rowAmiss : (Cond.code ({ cls := "ColumnHouse", name := "rowAmiss", desc := "(I)I" } : MethodName) prog_1_method_34_code (2 : Nat) (Option.some FieldType.int) : Cond) ∈ gtbl := gt_in (List.mem_of_getElem? (i := 217) (by decide +kernel)) (by decide +kernel)
theorem qM_X7_68 : (Cond.methodLink "ColumnHouse" (68 : Nat) ({ cls := "ColumnHouse$Row", name := "length", desc := "()I" } : MethodName) : Cond) ∈ gtbl := gt_in (List.mem_of_getElem? (i := 218) (by decide +kernel)) (by decide +kernel)
theorem qSM_X3_length : (Cond.sameMethod "ColumnHouse$Row" "ColumnHouse$Row" "length" "()I" : Cond) ∈ gtbl := gt_in (List.mem_of_getElem? (i := 220) (by decide +kernel)) (by decide +kernel)
theorem qSel_X2_X2_length_via_X3_length : (Cond.selects "ColumnHouse$PointRow" ({ cls := "ColumnHouse$Row", name := "length", desc := "()I" } : MethodName) ({ cls := "ColumnHouse$PointRow", name := "length", desc := "()I" } : MethodName) : Cond) ∈ gtbl := gt_in (List.mem_of_getElem? (i := 221) (by decide +kernel)) (by decide +kernel)
theorem qI_X2_length : (Cond.instanceMethod ({ cls := "ColumnHouse$PointRow", name := "length", desc := "()I" } : MethodName) : Cond) ∈ gtbl := gt_in (List.mem_of_getElem? (i := 222) (by decide +kernel)) (by decide +kernel)
theorem qK_X2_length : (Cond.code ({ cls := "ColumnHouse$PointRow", name := "length", desc := "()I" } : MethodName) prog_4_method_2_code (1 : Nat) (Option.some FieldType.int) : Cond) ∈ gtbl := gt_in (List.mem_of_getElem? (i := 223) (by decide +kernel)) (by decide +kernel)
theorem qSel_X5_X5_length_via_X3_length : (Cond.selects "ColumnHouse$ThingRow" ({ cls := "ColumnHouse$Row", name := "length", desc := "()I" } : MethodName) ({ cls := "ColumnHouse$ThingRow", name := "length", desc := "()I" } : MethodName) : Cond) ∈ gtbl := gt_in (List.mem_of_getElem? (i := 224) (by decide +kernel)) (by decide +kernel)
theorem qI_X5_length : (Cond.instanceMethod ({ cls := "ColumnHouse$ThingRow", name := "length", desc := "()I" } : MethodName) : Cond) ∈ gtbl := gt_in (List.mem_of_getElem? (i := 225) (by decide +kernel)) (by decide +kernel)
theorem qK_X5_length : (Cond.code ({ cls := "ColumnHouse$ThingRow", name := "length", desc := "()I" } : MethodName) prog_7_method_2_code (1 : Nat) (Option.some FieldType.int) : Cond) ∈ gtbl := gt_in (List.mem_of_getElem? (i := 226) (by decide +kernel)) (by decide +kernel)
theorem qSel_X6_X6_length_via_X3_length : (Cond.selects "ColumnHouse$WholeRow" ({ cls := "ColumnHouse$Row", name := "length", desc := "()I" } : MethodName) ({ cls := "ColumnHouse$WholeRow", name := "length", desc := "()I" } : MethodName) : Cond) ∈ gtbl := gt_in (List.mem_of_getElem? (i := 227) (by decide +kernel)) (by decide +kernel)
theorem qI_X6_length : (Cond.instanceMethod ({ cls := "ColumnHouse$WholeRow", name := "length", desc := "()I" } : MethodName) : Cond) ∈ gtbl := gt_in (List.mem_of_getElem? (i := 228) (by decide +kernel)) (by decide +kernel)
theorem qK_X6_length : (Cond.code ({ cls := "ColumnHouse$WholeRow", name := "length", desc := "()I" } : MethodName) prog_8_method_2_code (1 : Nat) (Option.some FieldType.int) : Cond) ∈ gtbl := gt_in (List.mem_of_getElem? (i := 229) (by decide +kernel)) (by decide +kernel)
theorem qM_L_28 : (Cond.methodLink "ColumnHouseLaw" (28 : Nat) ({ cls := "ColumnHouse", name := "kind", desc := "(I)I" } : MethodName) : Cond) ∈ gtbl := gt_in (List.mem_of_getElem? (i := 230) (by decide +kernel)) (by decide +kernel)
theorem qI_X7_kind : (Cond.instanceMethod ({ cls := "ColumnHouse", name := "kind", desc := "(I)I" } : MethodName) : Cond) ∈ gtbl := gt_in (List.mem_of_getElem? (i := 231) (by decide +kernel)) (by decide +kernel)
theorem qSel_X7_X7_kind : (Cond.selects "ColumnHouse" ({ cls := "ColumnHouse", name := "kind", desc := "(I)I" } : MethodName) ({ cls := "ColumnHouse", name := "kind", desc := "(I)I" } : MethodName) : Cond) ∈ gtbl := gt_in (List.mem_of_getElem? (i := 232) (by decide +kernel)) (by decide +kernel)
theorem qK_X7_kind : (Cond.code ({ cls := "ColumnHouse", name := "kind", desc := "(I)I" } : MethodName) prog_1_method_5_code (2 : Nat) (Option.some FieldType.int) : Cond) ∈ gtbl := gt_in (List.mem_of_getElem? (i := 233) (by decide +kernel)) (by decide +kernel)
theorem qM_X7_74 : (Cond.methodLink "ColumnHouse" (74 : Nat) ({ cls := "ColumnHouse", name := "kindOf", desc := "(LColumnHouse$Thing;)I" } : MethodName) : Cond) ∈ gtbl := gt_in (List.mem_of_getElem? (i := 234) (by decide +kernel)) (by decide +kernel)
theorem qSt_X7_kindOf : (Cond.static ({ cls := "ColumnHouse", name := "kindOf", desc := "(LColumnHouse$Thing;)I" } : MethodName) : Cond) ∈ gtbl := gt_in (List.mem_of_getElem? (i := 235) (by decide +kernel)) (by decide +kernel)
theorem qK_X7_kindOf : (Cond.code ({ cls := "ColumnHouse", name := "kindOf", desc := "(LColumnHouse$Thing;)I" } : MethodName) prog_1_method_30_code (1 : Nat) (Option.some FieldType.int) : Cond) ∈ gtbl := gt_in (List.mem_of_getElem? (i := 236) (by decide +kernel)) (by decide +kernel)
theorem qM_L_32 : (Cond.methodLink "ColumnHouseLaw" (32 : Nat) ({ cls := "ColumnHouse", name := "tag", desc := "(I)I" } : MethodName) : Cond) ∈ gtbl := gt_in (List.mem_of_getElem? (i := 237) (by decide +kernel)) (by decide +kernel)
theorem qI_X7_tag : (Cond.instanceMethod ({ cls := "ColumnHouse", name := "tag", desc := "(I)I" } : MethodName) : Cond) ∈ gtbl := gt_in (List.mem_of_getElem? (i := 238) (by decide +kernel)) (by decide +kernel)
theorem qSel_X7_X7_tag : (Cond.selects "ColumnHouse" ({ cls := "ColumnHouse", name := "tag", desc := "(I)I" } : MethodName) ({ cls := "ColumnHouse", name := "tag", desc := "(I)I" } : MethodName) : Cond) ∈ gtbl := gt_in (List.mem_of_getElem? (i := 239) (by decide +kernel)) (by decide +kernel)
theorem qK_X7_tag : (Cond.code ({ cls := "ColumnHouse", name := "tag", desc := "(I)I" } : MethodName) prog_1_method_6_code (3 : Nat) (Option.some FieldType.int) : Cond) ∈ gtbl := gt_in (List.mem_of_getElem? (i := 240) (by decide +kernel)) (by decide +kernel)
theorem qM_X7_77 : (Cond.methodLink "ColumnHouse" (77 : Nat) ({ cls := "ColumnHouse", name := "cardIn", desc := "(I)LColumnHouse$Card;" } : MethodName) : Cond) ∈ gtbl := gt_in (List.mem_of_getElem? (i := 241) (by decide +kernel)) (by decide +kernel)
theorem qI_X7_cardIn : (Cond.instanceMethod ({ cls := "ColumnHouse", name := "cardIn", desc := "(I)LColumnHouse$Card;" } : MethodName) : Cond) ∈ gtbl := gt_in (List.mem_of_getElem? (i := 243) (by decide +kernel)) (by decide +kernel)
theorem qK_X7_cardIn : (Cond.code ({ cls := "ColumnHouse", name := "cardIn", desc := "(I)LColumnHouse$Card;" } : MethodName) prog_1_method_37_code (4 : Nat) (Option.some (FieldType.object "ColumnHouse$Card")) : Cond) ∈ gtbl := gt_in (List.mem_of_getElem? (i := 244) (by decide +kernel)) (by decide +kernel)
theorem qM_X7_81 : (Cond.methodLink "ColumnHouse" (81 : Nat) ({ cls := "ColumnHouse", name := "cardAmiss", desc := "(I)I" } : MethodName) : Cond) ∈ gtbl := gt_in (List.mem_of_getElem? (i := 245) (by decide +kernel)) (by decide +kernel)
theorem qI_X7_cardAmiss : (Cond.instanceMethod ({ cls := "ColumnHouse", name := "cardAmiss", desc := "(I)I" } : MethodName) : Cond) ∈ gtbl := gt_in (List.mem_of_getElem? (i := 247) (by decide +kernel)) (by decide +kernel)
theorem qK_X7_cardAmiss : (Cond.code ({ cls := "ColumnHouse", name := "cardAmiss", desc := "(I)I" } : MethodName) prog_1_method_38_code (2 : Nat) (Option.some FieldType.int) : Cond) ∈ gtbl := gt_in (List.mem_of_getElem? (i := 248) (by decide +kernel)) (by decide +kernel)
theorem qM_L_36 : (Cond.methodLink "ColumnHouseLaw" (36 : Nat) ({ cls := "ColumnHouse", name := "load", desc := "(I)I" } : MethodName) : Cond) ∈ gtbl := gt_in (List.mem_of_getElem? (i := 249) (by decide +kernel)) (by decide +kernel)
theorem qI_X7_load : (Cond.instanceMethod ({ cls := "ColumnHouse", name := "load", desc := "(I)I" } : MethodName) : Cond) ∈ gtbl := gt_in (List.mem_of_getElem? (i := 250) (by decide +kernel)) (by decide +kernel)
theorem qSel_X7_X7_load : (Cond.selects "ColumnHouse" ({ cls := "ColumnHouse", name := "load", desc := "(I)I" } : MethodName) ({ cls := "ColumnHouse", name := "load", desc := "(I)I" } : MethodName) : Cond) ∈ gtbl := gt_in (List.mem_of_getElem? (i := 251) (by decide +kernel)) (by decide +kernel)
theorem qK_X7_load : (Cond.code ({ cls := "ColumnHouse", name := "load", desc := "(I)I" } : MethodName) prog_1_method_7_code (3 : Nat) (Option.some FieldType.int) : Cond) ∈ gtbl := gt_in (List.mem_of_getElem? (i := 252) (by decide +kernel)) (by decide +kernel)
theorem qM_L_40 : (Cond.methodLink "ColumnHouseLaw" (40 : Nat) ({ cls := "ColumnHouse", name := "put", desc := "(IIIII)I" } : MethodName) : Cond) ∈ gtbl := gt_in (List.mem_of_getElem? (i := 253) (by decide +kernel)) (by decide +kernel)
theorem qI_X7_put : (Cond.instanceMethod ({ cls := "ColumnHouse", name := "put", desc := "(IIIII)I" } : MethodName) : Cond) ∈ gtbl := gt_in (List.mem_of_getElem? (i := 254) (by decide +kernel)) (by decide +kernel)
theorem qSel_X7_X7_put : (Cond.selects "ColumnHouse" ({ cls := "ColumnHouse", name := "put", desc := "(IIIII)I" } : MethodName) ({ cls := "ColumnHouse", name := "put", desc := "(IIIII)I" } : MethodName) : Cond) ∈ gtbl := gt_in (List.mem_of_getElem? (i := 255) (by decide +kernel)) (by decide +kernel)
theorem qK_X7_put : (Cond.code ({ cls := "ColumnHouse", name := "put", desc := "(IIIII)I" } : MethodName) prog_1_method_8_code (6 : Nat) (Option.some FieldType.int) : Cond) ∈ gtbl := gt_in (List.mem_of_getElem? (i := 256) (by decide +kernel)) (by decide +kernel)
theorem qM_X7_90 : (Cond.methodLink "ColumnHouse" (90 : Nat) ({ cls := "ColumnHouse", name := "putTold", desc := "(IIIII)I" } : MethodName) : Cond) ∈ gtbl := gt_in (List.mem_of_getElem? (i := 257) (by decide +kernel)) (by decide +kernel)
theorem qI_X7_putTold : (Cond.instanceMethod ({ cls := "ColumnHouse", name := "putTold", desc := "(IIIII)I" } : MethodName) : Cond) ∈ gtbl := gt_in (List.mem_of_getElem? (i := 259) (by decide +kernel)) (by decide +kernel)
theorem qK_X7_putTold : (Cond.code ({ cls := "ColumnHouse", name := "putTold", desc := "(IIIII)I" } : MethodName) prog_1_method_39_code (7 : Nat) (Option.some FieldType.int) : Cond) ∈ gtbl := gt_in (List.mem_of_getElem? (i := 260) (by decide +kernel)) (by decide +kernel)
theorem qM_X7_172 : (Cond.methodLink "ColumnHouse" (172 : Nat) ({ cls := "ColumnHouse", name := "isSort", desc := "(I)Z" } : MethodName) : Cond) ∈ gtbl := gt_in (List.mem_of_getElem? (i := 261) (by decide +kernel)) (by decide +kernel)
theorem qSt_X7_isSort : (Cond.static ({ cls := "ColumnHouse", name := "isSort", desc := "(I)Z" } : MethodName) : Cond) ∈ gtbl := gt_in (List.mem_of_getElem? (i := 262) (by decide +kernel)) (by decide +kernel)
theorem qK_X7_isSort : (Cond.code ({ cls := "ColumnHouse", name := "isSort", desc := "(I)Z" } : MethodName) prog_1_method_29_code (1 : Nat) (Option.some FieldType.boolean) : Cond) ∈ gtbl := gt_in (List.mem_of_getElem? (i := 263) (by decide +kernel)) (by decide +kernel)
theorem qM_X7_175 : (Cond.methodLink "ColumnHouse" (175 : Nat) ({ cls := "ColumnHouse$Cell", name := "holdTold", desc := "(III)V" } : MethodName) : Cond) ∈ gtbl := gt_in (List.mem_of_getElem? (i := 264) (by decide +kernel)) (by decide +kernel)
theorem qI_X1_holdTold : (Cond.instanceMethod ({ cls := "ColumnHouse$Cell", name := "holdTold", desc := "(III)V" } : MethodName) : Cond) ∈ gtbl := gt_in (List.mem_of_getElem? (i := 265) (by decide +kernel)) (by decide +kernel)
theorem qSel_X1_X1_holdTold : (Cond.selects "ColumnHouse$Cell" ({ cls := "ColumnHouse$Cell", name := "holdTold", desc := "(III)V" } : MethodName) ({ cls := "ColumnHouse$Cell", name := "holdTold", desc := "(III)V" } : MethodName) : Cond) ∈ gtbl := gt_in (List.mem_of_getElem? (i := 266) (by decide +kernel)) (by decide +kernel)
theorem qK_X1_holdTold : (Cond.code ({ cls := "ColumnHouse$Cell", name := "holdTold", desc := "(III)V" } : MethodName) prog_3_method_5_code (6 : Nat) (Option.none : Option FieldType) : Cond) ∈ gtbl := gt_in (List.mem_of_getElem? (i := 267) (by decide +kernel)) (by decide +kernel)
theorem qKL_X1_27 : (Cond.constantLong "ColumnHouse$Cell" (27 : Nat) (4294967295 : Int64) : Cond) ∈ gtbl := gt_in (List.mem_of_getElem? (i := 268) (by decide +kernel)) (by decide +kernel)
theorem qM_X1_29 : (Cond.methodLink "ColumnHouse$Cell" (29 : Nat) ({ cls := "ColumnHouse$Cell", name := "holdWhole", desc := "(IJ)V" } : MethodName) : Cond) ∈ gtbl := gt_in (List.mem_of_getElem? (i := 269) (by decide +kernel)) (by decide +kernel)
theorem qI_X1_holdWhole : (Cond.instanceMethod ({ cls := "ColumnHouse$Cell", name := "holdWhole", desc := "(IJ)V" } : MethodName) : Cond) ∈ gtbl := gt_in (List.mem_of_getElem? (i := 270) (by decide +kernel)) (by decide +kernel)
theorem qSel_X1_X1_holdWhole : (Cond.selects "ColumnHouse$Cell" ({ cls := "ColumnHouse$Cell", name := "holdWhole", desc := "(IJ)V" } : MethodName) ({ cls := "ColumnHouse$Cell", name := "holdWhole", desc := "(IJ)V" } : MethodName) : Cond) ∈ gtbl := gt_in (List.mem_of_getElem? (i := 271) (by decide +kernel)) (by decide +kernel)
theorem qK_X1_holdWhole : (Cond.code ({ cls := "ColumnHouse$Cell", name := "holdWhole", desc := "(IJ)V" } : MethodName) prog_3_method_2_code (4 : Nat) (Option.none : Option FieldType) : Cond) ∈ gtbl := gt_in (List.mem_of_getElem? (i := 272) (by decide +kernel)) (by decide +kernel)
theorem qKF_X1_33 : (Cond.constantFloat "ColumnHouse$Cell" (33 : Nat) (1090519040 : UInt32) : Cond) ∈ gtbl := gt_in (List.mem_of_getElem? (i := 273) (by decide +kernel)) (by decide +kernel)
theorem qM_X1_34 : (Cond.methodLink "ColumnHouse$Cell" (34 : Nat) ({ cls := "ColumnHouse$Cell", name := "holdPoint", desc := "(ID)V" } : MethodName) : Cond) ∈ gtbl := gt_in (List.mem_of_getElem? (i := 274) (by decide +kernel)) (by decide +kernel)
theorem qI_X1_holdPoint : (Cond.instanceMethod ({ cls := "ColumnHouse$Cell", name := "holdPoint", desc := "(ID)V" } : MethodName) : Cond) ∈ gtbl := gt_in (List.mem_of_getElem? (i := 275) (by decide +kernel)) (by decide +kernel)
theorem qSel_X1_X1_holdPoint : (Cond.selects "ColumnHouse$Cell" ({ cls := "ColumnHouse$Cell", name := "holdPoint", desc := "(ID)V" } : MethodName) ({ cls := "ColumnHouse$Cell", name := "holdPoint", desc := "(ID)V" } : MethodName) : Cond) ∈ gtbl := gt_in (List.mem_of_getElem? (i := 276) (by decide +kernel)) (by decide +kernel)
theorem qK_X1_holdPoint : (Cond.code ({ cls := "ColumnHouse$Cell", name := "holdPoint", desc := "(ID)V" } : MethodName) prog_3_method_3_code (4 : Nat) (Option.none : Option FieldType) : Cond) ∈ gtbl := gt_in (List.mem_of_getElem? (i := 277) (by decide +kernel)) (by decide +kernel)
theorem qKD_X1_38 : (Cond.constantDouble "ColumnHouse$Cell" (38 : Nat) (4620693217682128896 : UInt64) : Cond) ∈ gtbl := gt_in (List.mem_of_getElem? (i := 278) (by decide +kernel)) (by decide +kernel)
theorem qM_X7_98 : (Cond.methodLink "ColumnHouse" (98 : Nat) ({ cls := "ColumnHouse", name := "placeOne", desc := "(LColumnHouse$Row;II)I" } : MethodName) : Cond) ∈ gtbl := gt_in (List.mem_of_getElem? (i := 279) (by decide +kernel)) (by decide +kernel)
theorem qI_X7_placeOne : (Cond.instanceMethod ({ cls := "ColumnHouse", name := "placeOne", desc := "(LColumnHouse$Row;II)I" } : MethodName) : Cond) ∈ gtbl := gt_in (List.mem_of_getElem? (i := 281) (by decide +kernel)) (by decide +kernel)
theorem qK_X7_placeOne : (Cond.code ({ cls := "ColumnHouse", name := "placeOne", desc := "(LColumnHouse$Row;II)I" } : MethodName) prog_1_method_40_code (4 : Nat) (Option.some FieldType.int) : Cond) ∈ gtbl := gt_in (List.mem_of_getElem? (i := 282) (by decide +kernel)) (by decide +kernel)
theorem qM_X7_114 : (Cond.methodLink "ColumnHouse" (114 : Nat) ({ cls := "ColumnHouse$Row", name := "has", desc := "(I)Z" } : MethodName) : Cond) ∈ gtbl := gt_in (List.mem_of_getElem? (i := 283) (by decide +kernel)) (by decide +kernel)
theorem qI_X3_has : (Cond.instanceMethod ({ cls := "ColumnHouse$Row", name := "has", desc := "(I)Z" } : MethodName) : Cond) ∈ gtbl := gt_in (List.mem_of_getElem? (i := 284) (by decide +kernel)) (by decide +kernel)
theorem qSM_X3_has : (Cond.sameMethod "ColumnHouse$Row" "ColumnHouse$Row" "has" "(I)Z" : Cond) ∈ gtbl := gt_in (List.mem_of_getElem? (i := 285) (by decide +kernel)) (by decide +kernel)
theorem qSel_X2_X3_has : (Cond.selects "ColumnHouse$PointRow" ({ cls := "ColumnHouse$Row", name := "has", desc := "(I)Z" } : MethodName) ({ cls := "ColumnHouse$Row", name := "has", desc := "(I)Z" } : MethodName) : Cond) ∈ gtbl := gt_in (List.mem_of_getElem? (i := 286) (by decide +kernel)) (by decide +kernel)
theorem qSel_X5_X3_has : (Cond.selects "ColumnHouse$ThingRow" ({ cls := "ColumnHouse$Row", name := "has", desc := "(I)Z" } : MethodName) ({ cls := "ColumnHouse$Row", name := "has", desc := "(I)Z" } : MethodName) : Cond) ∈ gtbl := gt_in (List.mem_of_getElem? (i := 287) (by decide +kernel)) (by decide +kernel)
theorem qSel_X6_X3_has : (Cond.selects "ColumnHouse$WholeRow" ({ cls := "ColumnHouse$Row", name := "has", desc := "(I)Z" } : MethodName) ({ cls := "ColumnHouse$Row", name := "has", desc := "(I)Z" } : MethodName) : Cond) ∈ gtbl := gt_in (List.mem_of_getElem? (i := 288) (by decide +kernel)) (by decide +kernel)
theorem qK_X3_has : (Cond.code ({ cls := "ColumnHouse$Row", name := "has", desc := "(I)Z" } : MethodName) prog_5_method_6_code (2 : Nat) (Option.some FieldType.boolean) : Cond) ∈ gtbl := gt_in (List.mem_of_getElem? (i := 289) (by decide +kernel)) (by decide +kernel)
theorem qM_X3_9 : (Cond.methodLink "ColumnHouse$Row" (9 : Nat) ({ cls := "ColumnHouse$Row", name := "length", desc := "()I" } : MethodName) : Cond) ∈ gtbl := gt_in (List.mem_of_getElem? (i := 290) (by decide +kernel)) (by decide +kernel)
theorem qM_X7_139 : (Cond.methodLink "ColumnHouse" (139 : Nat) ({ cls := "ColumnHouse$Row", name := "takes", desc := "(LColumnHouse$Cell;)Z" } : MethodName) : Cond) ∈ gtbl := gt_in (List.mem_of_getElem? (i := 291) (by decide +kernel)) (by decide +kernel)
theorem qI_X3_takes : (Cond.instanceMethod ({ cls := "ColumnHouse$Row", name := "takes", desc := "(LColumnHouse$Cell;)Z" } : MethodName) : Cond) ∈ gtbl := gt_in (List.mem_of_getElem? (i := 292) (by decide +kernel)) (by decide +kernel)
theorem qSM_X3_takes : (Cond.sameMethod "ColumnHouse$Row" "ColumnHouse$Row" "takes" "(LColumnHouse$Cell;)Z" : Cond) ∈ gtbl := gt_in (List.mem_of_getElem? (i := 293) (by decide +kernel)) (by decide +kernel)
theorem qSel_X2_X3_takes : (Cond.selects "ColumnHouse$PointRow" ({ cls := "ColumnHouse$Row", name := "takes", desc := "(LColumnHouse$Cell;)Z" } : MethodName) ({ cls := "ColumnHouse$Row", name := "takes", desc := "(LColumnHouse$Cell;)Z" } : MethodName) : Cond) ∈ gtbl := gt_in (List.mem_of_getElem? (i := 294) (by decide +kernel)) (by decide +kernel)
theorem qSel_X5_X3_takes : (Cond.selects "ColumnHouse$ThingRow" ({ cls := "ColumnHouse$Row", name := "takes", desc := "(LColumnHouse$Cell;)Z" } : MethodName) ({ cls := "ColumnHouse$Row", name := "takes", desc := "(LColumnHouse$Cell;)Z" } : MethodName) : Cond) ∈ gtbl := gt_in (List.mem_of_getElem? (i := 295) (by decide +kernel)) (by decide +kernel)
theorem qSel_X6_X3_takes : (Cond.selects "ColumnHouse$WholeRow" ({ cls := "ColumnHouse$Row", name := "takes", desc := "(LColumnHouse$Cell;)Z" } : MethodName) ({ cls := "ColumnHouse$Row", name := "takes", desc := "(LColumnHouse$Cell;)Z" } : MethodName) : Cond) ∈ gtbl := gt_in (List.mem_of_getElem? (i := 296) (by decide +kernel)) (by decide +kernel)
theorem qK_X3_takes : (Cond.code ({ cls := "ColumnHouse$Row", name := "takes", desc := "(LColumnHouse$Cell;)Z" } : MethodName) prog_5_method_9_code (2 : Nat) (Option.some FieldType.boolean) : Cond) ∈ gtbl := gt_in (List.mem_of_getElem? (i := 297) (by decide +kernel)) (by decide +kernel)
theorem qM_X3_27 : (Cond.methodLink "ColumnHouse$Row" (27 : Nat) ({ cls := "ColumnHouse$Cell", name := "isValue", desc := "()Z" } : MethodName) : Cond) ∈ gtbl := gt_in (List.mem_of_getElem? (i := 298) (by decide +kernel)) (by decide +kernel)
theorem qI_X1_isValue : (Cond.instanceMethod ({ cls := "ColumnHouse$Cell", name := "isValue", desc := "()Z" } : MethodName) : Cond) ∈ gtbl := gt_in (List.mem_of_getElem? (i := 299) (by decide +kernel)) (by decide +kernel)
theorem qSel_X1_X1_isValue : (Cond.selects "ColumnHouse$Cell" ({ cls := "ColumnHouse$Cell", name := "isValue", desc := "()Z" } : MethodName) ({ cls := "ColumnHouse$Cell", name := "isValue", desc := "()Z" } : MethodName) : Cond) ∈ gtbl := gt_in (List.mem_of_getElem? (i := 300) (by decide +kernel)) (by decide +kernel)
theorem qK_X1_isValue : (Cond.code ({ cls := "ColumnHouse$Cell", name := "isValue", desc := "()Z" } : MethodName) prog_3_method_6_code (1 : Nat) (Option.some FieldType.boolean) : Cond) ∈ gtbl := gt_in (List.mem_of_getElem? (i := 301) (by decide +kernel)) (by decide +kernel)
theorem qM_X3_19 : (Cond.methodLink "ColumnHouse$Row" (19 : Nat) ({ cls := "ColumnHouse$Row", name := "isPlain", desc := "()Z" } : MethodName) : Cond) ∈ gtbl := gt_in (List.mem_of_getElem? (i := 302) (by decide +kernel)) (by decide +kernel)
theorem qI_X3_isPlain : (Cond.instanceMethod ({ cls := "ColumnHouse$Row", name := "isPlain", desc := "()Z" } : MethodName) : Cond) ∈ gtbl := gt_in (List.mem_of_getElem? (i := 303) (by decide +kernel)) (by decide +kernel)
theorem qSM_X3_isPlain : (Cond.sameMethod "ColumnHouse$Row" "ColumnHouse$Row" "isPlain" "()Z" : Cond) ∈ gtbl := gt_in (List.mem_of_getElem? (i := 304) (by decide +kernel)) (by decide +kernel)
theorem qSel_X2_X3_isPlain : (Cond.selects "ColumnHouse$PointRow" ({ cls := "ColumnHouse$Row", name := "isPlain", desc := "()Z" } : MethodName) ({ cls := "ColumnHouse$Row", name := "isPlain", desc := "()Z" } : MethodName) : Cond) ∈ gtbl := gt_in (List.mem_of_getElem? (i := 305) (by decide +kernel)) (by decide +kernel)
theorem qSel_X5_X3_isPlain : (Cond.selects "ColumnHouse$ThingRow" ({ cls := "ColumnHouse$Row", name := "isPlain", desc := "()Z" } : MethodName) ({ cls := "ColumnHouse$Row", name := "isPlain", desc := "()Z" } : MethodName) : Cond) ∈ gtbl := gt_in (List.mem_of_getElem? (i := 306) (by decide +kernel)) (by decide +kernel)
theorem qSel_X6_X3_isPlain : (Cond.selects "ColumnHouse$WholeRow" ({ cls := "ColumnHouse$Row", name := "isPlain", desc := "()Z" } : MethodName) ({ cls := "ColumnHouse$Row", name := "isPlain", desc := "()Z" } : MethodName) : Cond) ∈ gtbl := gt_in (List.mem_of_getElem? (i := 307) (by decide +kernel)) (by decide +kernel)
theorem qK_X3_isPlain : (Cond.code ({ cls := "ColumnHouse$Row", name := "isPlain", desc := "()Z" } : MethodName) prog_5_method_7_code (1 : Nat) (Option.some FieldType.boolean) : Cond) ∈ gtbl := gt_in (List.mem_of_getElem? (i := 308) (by decide +kernel)) (by decide +kernel)
theorem qSt_X7_goesInto : (Cond.static ({ cls := "ColumnHouse", name := "goesInto", desc := "(II)Z" } : MethodName) : Cond) ∈ gtbl := gt_in (List.mem_of_getElem? (i := 310) (by decide +kernel)) (by decide +kernel)
theorem qK_X7_goesInto : (Cond.code ({ cls := "ColumnHouse", name := "goesInto", desc := "(II)Z" } : MethodName) prog_1_method_49_code (2 : Nat) (Option.some FieldType.boolean) : Cond) ∈ gtbl := gt_in (List.mem_of_getElem? (i := 311) (by decide +kernel)) (by decide +kernel)
theorem qSt_X7_fits : (Cond.static ({ cls := "ColumnHouse", name := "fits", desc := "(II)Z" } : MethodName) : Cond) ∈ gtbl := gt_in (List.mem_of_getElem? (i := 313) (by decide +kernel)) (by decide +kernel)
theorem qK_X7_fits : (Cond.code ({ cls := "ColumnHouse", name := "fits", desc := "(II)Z" } : MethodName) prog_1_method_50_code (2 : Nat) (Option.some FieldType.boolean) : Cond) ∈ gtbl := gt_in (List.mem_of_getElem? (i := 314) (by decide +kernel)) (by decide +kernel)
theorem qM_X7_198 : (Cond.methodLink "ColumnHouse" (198 : Nat) ({ cls := "ColumnHouse$Row", name := "write", desc := "(ILColumnHouse$Cell;)V" } : MethodName) : Cond) ∈ gtbl := gt_in (List.mem_of_getElem? (i := 315) (by decide +kernel)) (by decide +kernel)
theorem qSM_X3_write : (Cond.sameMethod "ColumnHouse$Row" "ColumnHouse$Row" "write" "(ILColumnHouse$Cell;)V" : Cond) ∈ gtbl := gt_in (List.mem_of_getElem? (i := 317) (by decide +kernel)) (by decide +kernel)
theorem qSel_X2_X2_write_via_X3_write : (Cond.selects "ColumnHouse$PointRow" ({ cls := "ColumnHouse$Row", name := "write", desc := "(ILColumnHouse$Cell;)V" } : MethodName) ({ cls := "ColumnHouse$PointRow", name := "write", desc := "(ILColumnHouse$Cell;)V" } : MethodName) : Cond) ∈ gtbl := gt_in (List.mem_of_getElem? (i := 318) (by decide +kernel)) (by decide +kernel)
theorem qI_X2_write : (Cond.instanceMethod ({ cls := "ColumnHouse$PointRow", name := "write", desc := "(ILColumnHouse$Cell;)V" } : MethodName) : Cond) ∈ gtbl := gt_in (List.mem_of_getElem? (i := 319) (by decide +kernel)) (by decide +kernel)
theorem qK_X2_write : (Cond.code ({ cls := "ColumnHouse$PointRow", name := "write", desc := "(ILColumnHouse$Cell;)V" } : MethodName) prog_4_method_4_code (3 : Nat) (Option.none : Option FieldType) : Cond) ∈ gtbl := gt_in (List.mem_of_getElem? (i := 320) (by decide +kernel)) (by decide +kernel)
theorem qM_X2_23 : (Cond.methodLink "ColumnHouse$PointRow" (23 : Nat) ({ cls := "ColumnHouse$Cell", name := "pointAs", desc := "(I)D" } : MethodName) : Cond) ∈ gtbl := gt_in (List.mem_of_getElem? (i := 321) (by decide +kernel)) (by decide +kernel)
theorem qI_X1_pointAs : (Cond.instanceMethod ({ cls := "ColumnHouse$Cell", name := "pointAs", desc := "(I)D" } : MethodName) : Cond) ∈ gtbl := gt_in (List.mem_of_getElem? (i := 322) (by decide +kernel)) (by decide +kernel)
theorem qSel_X1_X1_pointAs : (Cond.selects "ColumnHouse$Cell" ({ cls := "ColumnHouse$Cell", name := "pointAs", desc := "(I)D" } : MethodName) ({ cls := "ColumnHouse$Cell", name := "pointAs", desc := "(I)D" } : MethodName) : Cond) ∈ gtbl := gt_in (List.mem_of_getElem? (i := 323) (by decide +kernel)) (by decide +kernel)
theorem qK_X1_pointAs : (Cond.code ({ cls := "ColumnHouse$Cell", name := "pointAs", desc := "(I)D" } : MethodName) prog_3_method_8_code (2 : Nat) (Option.some FieldType.double) : Cond) ∈ gtbl := gt_in (List.mem_of_getElem? (i := 324) (by decide +kernel)) (by decide +kernel)
theorem qM_X1_40 : (Cond.methodLink "ColumnHouse$Cell" (40 : Nat) ({ cls := "ColumnHouse$Cell", name := "isWhole", desc := "()Z" } : MethodName) : Cond) ∈ gtbl := gt_in (List.mem_of_getElem? (i := 325) (by decide +kernel)) (by decide +kernel)
theorem qI_X1_isWhole : (Cond.instanceMethod ({ cls := "ColumnHouse$Cell", name := "isWhole", desc := "()Z" } : MethodName) : Cond) ∈ gtbl := gt_in (List.mem_of_getElem? (i := 326) (by decide +kernel)) (by decide +kernel)
theorem qSel_X1_X1_isWhole : (Cond.selects "ColumnHouse$Cell" ({ cls := "ColumnHouse$Cell", name := "isWhole", desc := "()Z" } : MethodName) ({ cls := "ColumnHouse$Cell", name := "isWhole", desc := "()Z" } : MethodName) : Cond) ∈ gtbl := gt_in (List.mem_of_getElem? (i := 327) (by decide +kernel)) (by decide +kernel)
theorem qK_X1_isWhole : (Cond.code ({ cls := "ColumnHouse$Cell", name := "isWhole", desc := "()Z" } : MethodName) prog_3_method_7_code (1 : Nat) (Option.some FieldType.boolean) : Cond) ∈ gtbl := gt_in (List.mem_of_getElem? (i := 328) (by decide +kernel)) (by decide +kernel)
theorem qSel_X5_X5_write_via_X3_write : (Cond.selects "ColumnHouse$ThingRow" ({ cls := "ColumnHouse$Row", name := "write", desc := "(ILColumnHouse$Cell;)V" } : MethodName) ({ cls := "ColumnHouse$ThingRow", name := "write", desc := "(ILColumnHouse$Cell;)V" } : MethodName) : Cond) ∈ gtbl := gt_in (List.mem_of_getElem? (i := 329) (by decide +kernel)) (by decide +kernel)
theorem qI_X5_write : (Cond.instanceMethod ({ cls := "ColumnHouse$ThingRow", name := "write", desc := "(ILColumnHouse$Cell;)V" } : MethodName) : Cond) ∈ gtbl := gt_in (List.mem_of_getElem? (i := 330) (by decide +kernel)) (by decide +kernel)
theorem qK_X5_write : (Cond.code ({ cls := "ColumnHouse$ThingRow", name := "write", desc := "(ILColumnHouse$Cell;)V" } : MethodName) prog_7_method_4_code (3 : Nat) (Option.none : Option FieldType) : Cond) ∈ gtbl := gt_in (List.mem_of_getElem? (i := 331) (by decide +kernel)) (by decide +kernel)
theorem qSel_X6_X6_write_via_X3_write : (Cond.selects "ColumnHouse$WholeRow" ({ cls := "ColumnHouse$Row", name := "write", desc := "(ILColumnHouse$Cell;)V" } : MethodName) ({ cls := "ColumnHouse$WholeRow", name := "write", desc := "(ILColumnHouse$Cell;)V" } : MethodName) : Cond) ∈ gtbl := gt_in (List.mem_of_getElem? (i := 332) (by decide +kernel)) (by decide +kernel)
theorem qI_X6_write : (Cond.instanceMethod ({ cls := "ColumnHouse$WholeRow", name := "write", desc := "(ILColumnHouse$Cell;)V" } : MethodName) : Cond) ∈ gtbl := gt_in (List.mem_of_getElem? (i := 333) (by decide +kernel)) (by decide +kernel)
theorem qK_X6_write : (Cond.code ({ cls := "ColumnHouse$WholeRow", name := "write", desc := "(ILColumnHouse$Cell;)V" } : MethodName) prog_8_method_4_code (3 : Nat) (Option.none : Option FieldType) : Cond) ∈ gtbl := gt_in (List.mem_of_getElem? (i := 334) (by decide +kernel)) (by decide +kernel)
theorem qM_L_45 : (Cond.methodLink "ColumnHouseLaw" (45 : Nat) ({ cls := "ColumnHouse", name := "putBoxed", desc := "(IIIII)I" } : MethodName) : Cond) ∈ gtbl := gt_in (List.mem_of_getElem? (i := 335) (by decide +kernel)) (by decide +kernel)
theorem qI_X7_putBoxed : (Cond.instanceMethod ({ cls := "ColumnHouse", name := "putBoxed", desc := "(IIIII)I" } : MethodName) : Cond) ∈ gtbl := gt_in (List.mem_of_getElem? (i := 336) (by decide +kernel)) (by decide +kernel)
theorem qSel_X7_X7_putBoxed : (Cond.selects "ColumnHouse" ({ cls := "ColumnHouse", name := "putBoxed", desc := "(IIIII)I" } : MethodName) ({ cls := "ColumnHouse", name := "putBoxed", desc := "(IIIII)I" } : MethodName) : Cond) ∈ gtbl := gt_in (List.mem_of_getElem? (i := 337) (by decide +kernel)) (by decide +kernel)
theorem qK_X7_putBoxed : (Cond.code ({ cls := "ColumnHouse", name := "putBoxed", desc := "(IIIII)I" } : MethodName) prog_1_method_9_code (6 : Nat) (Option.some FieldType.int) : Cond) ∈ gtbl := gt_in (List.mem_of_getElem? (i := 338) (by decide +kernel)) (by decide +kernel)
theorem qM_L_49 : (Cond.methodLink "ColumnHouseLaw" (49 : Nat) ({ cls := "ColumnHouse", name := "putThing", desc := "(III)I" } : MethodName) : Cond) ∈ gtbl := gt_in (List.mem_of_getElem? (i := 339) (by decide +kernel)) (by decide +kernel)
theorem qI_X7_putThing : (Cond.instanceMethod ({ cls := "ColumnHouse", name := "putThing", desc := "(III)I" } : MethodName) : Cond) ∈ gtbl := gt_in (List.mem_of_getElem? (i := 340) (by decide +kernel)) (by decide +kernel)
theorem qSel_X7_X7_putThing : (Cond.selects "ColumnHouse" ({ cls := "ColumnHouse", name := "putThing", desc := "(III)I" } : MethodName) ({ cls := "ColumnHouse", name := "putThing", desc := "(III)I" } : MethodName) : Cond) ∈ gtbl := gt_in (List.mem_of_getElem? (i := 341) (by decide +kernel)) (by decide +kernel)
theorem qK_X7_putThing : (Cond.code ({ cls := "ColumnHouse", name := "putThing", desc := "(III)I" } : MethodName) prog_1_method_10_code (5 : Nat) (Option.some FieldType.int) : Cond) ∈ gtbl := gt_in (List.mem_of_getElem? (i := 342) (by decide +kernel)) (by decide +kernel)
theorem qM_X7_94 : (Cond.methodLink "ColumnHouse" (94 : Nat) ({ cls := "ColumnHouse$Cell", name := "holdThing", desc := "(LColumnHouse$Thing;)V" } : MethodName) : Cond) ∈ gtbl := gt_in (List.mem_of_getElem? (i := 343) (by decide +kernel)) (by decide +kernel)
theorem qI_X1_holdThing : (Cond.instanceMethod ({ cls := "ColumnHouse$Cell", name := "holdThing", desc := "(LColumnHouse$Thing;)V" } : MethodName) : Cond) ∈ gtbl := gt_in (List.mem_of_getElem? (i := 344) (by decide +kernel)) (by decide +kernel)
theorem qSel_X1_X1_holdThing : (Cond.selects "ColumnHouse$Cell" ({ cls := "ColumnHouse$Cell", name := "holdThing", desc := "(LColumnHouse$Thing;)V" } : MethodName) ({ cls := "ColumnHouse$Cell", name := "holdThing", desc := "(LColumnHouse$Thing;)V" } : MethodName) : Cond) ∈ gtbl := gt_in (List.mem_of_getElem? (i := 345) (by decide +kernel)) (by decide +kernel)
theorem qK_X1_holdThing : (Cond.code ({ cls := "ColumnHouse$Cell", name := "holdThing", desc := "(LColumnHouse$Thing;)V" } : MethodName) prog_3_method_4_code (2 : Nat) (Option.none : Option FieldType) : Cond) ∈ gtbl := gt_in (List.mem_of_getElem? (i := 346) (by decide +kernel)) (by decide +kernel)
theorem qM_L_53 : (Cond.methodLink "ColumnHouseLaw" (53 : Nat) ({ cls := "ColumnHouse", name := "number", desc := "(III)J" } : MethodName) : Cond) ∈ gtbl := gt_in (List.mem_of_getElem? (i := 347) (by decide +kernel)) (by decide +kernel)
theorem qI_X7_number : (Cond.instanceMethod ({ cls := "ColumnHouse", name := "number", desc := "(III)J" } : MethodName) : Cond) ∈ gtbl := gt_in (List.mem_of_getElem? (i := 348) (by decide +kernel)) (by decide +kernel)
theorem qSel_X7_X7_number : (Cond.selects "ColumnHouse" ({ cls := "ColumnHouse", name := "number", desc := "(III)J" } : MethodName) ({ cls := "ColumnHouse", name := "number", desc := "(III)J" } : MethodName) : Cond) ∈ gtbl := gt_in (List.mem_of_getElem? (i := 349) (by decide +kernel)) (by decide +kernel)
theorem qK_X7_number : (Cond.code ({ cls := "ColumnHouse", name := "number", desc := "(III)J" } : MethodName) prog_1_method_11_code (4 : Nat) (Option.some FieldType.long) : Cond) ∈ gtbl := gt_in (List.mem_of_getElem? (i := 350) (by decide +kernel)) (by decide +kernel)
theorem qM_X7_102 : (Cond.methodLink "ColumnHouse" (102 : Nat) ({ cls := "ColumnHouse", name := "readOneAs", desc := "(III)Z" } : MethodName) : Cond) ∈ gtbl := gt_in (List.mem_of_getElem? (i := 351) (by decide +kernel)) (by decide +kernel)
theorem qI_X7_readOneAs : (Cond.instanceMethod ({ cls := "ColumnHouse", name := "readOneAs", desc := "(III)Z" } : MethodName) : Cond) ∈ gtbl := gt_in (List.mem_of_getElem? (i := 353) (by decide +kernel)) (by decide +kernel)
theorem qK_X7_readOneAs : (Cond.code ({ cls := "ColumnHouse", name := "readOneAs", desc := "(III)Z" } : MethodName) prog_1_method_41_code (5 : Nat) (Option.some FieldType.boolean) : Cond) ∈ gtbl := gt_in (List.mem_of_getElem? (i := 354) (by decide +kernel)) (by decide +kernel)
theorem qM_X7_201 : (Cond.methodLink "ColumnHouse" (201 : Nat) ({ cls := "ColumnHouse$Row", name := "goesAs", desc := "(I)Z" } : MethodName) : Cond) ∈ gtbl := gt_in (List.mem_of_getElem? (i := 355) (by decide +kernel)) (by decide +kernel)
theorem qI_X3_goesAs : (Cond.instanceMethod ({ cls := "ColumnHouse$Row", name := "goesAs", desc := "(I)Z" } : MethodName) : Cond) ∈ gtbl := gt_in (List.mem_of_getElem? (i := 356) (by decide +kernel)) (by decide +kernel)
theorem qSM_X3_goesAs : (Cond.sameMethod "ColumnHouse$Row" "ColumnHouse$Row" "goesAs" "(I)Z" : Cond) ∈ gtbl := gt_in (List.mem_of_getElem? (i := 357) (by decide +kernel)) (by decide +kernel)
theorem qSel_X2_X3_goesAs : (Cond.selects "ColumnHouse$PointRow" ({ cls := "ColumnHouse$Row", name := "goesAs", desc := "(I)Z" } : MethodName) ({ cls := "ColumnHouse$Row", name := "goesAs", desc := "(I)Z" } : MethodName) : Cond) ∈ gtbl := gt_in (List.mem_of_getElem? (i := 358) (by decide +kernel)) (by decide +kernel)
theorem qSel_X5_X3_goesAs : (Cond.selects "ColumnHouse$ThingRow" ({ cls := "ColumnHouse$Row", name := "goesAs", desc := "(I)Z" } : MethodName) ({ cls := "ColumnHouse$Row", name := "goesAs", desc := "(I)Z" } : MethodName) : Cond) ∈ gtbl := gt_in (List.mem_of_getElem? (i := 359) (by decide +kernel)) (by decide +kernel)
theorem qSel_X6_X3_goesAs : (Cond.selects "ColumnHouse$WholeRow" ({ cls := "ColumnHouse$Row", name := "goesAs", desc := "(I)Z" } : MethodName) ({ cls := "ColumnHouse$Row", name := "goesAs", desc := "(I)Z" } : MethodName) : Cond) ∈ gtbl := gt_in (List.mem_of_getElem? (i := 360) (by decide +kernel)) (by decide +kernel)
theorem qK_X3_goesAs : (Cond.code ({ cls := "ColumnHouse$Row", name := "goesAs", desc := "(I)Z" } : MethodName) prog_5_method_8_code (2 : Nat) (Option.some FieldType.boolean) : Cond) ∈ gtbl := gt_in (List.mem_of_getElem? (i := 361) (by decide +kernel)) (by decide +kernel)
theorem qM_X7_117 : (Cond.methodLink "ColumnHouse" (117 : Nat) ({ cls := "ColumnHouse$Row", name := "read", desc := "(ILColumnHouse$Cell;)V" } : MethodName) : Cond) ∈ gtbl := gt_in (List.mem_of_getElem? (i := 362) (by decide +kernel)) (by decide +kernel)
theorem qSM_X3_read : (Cond.sameMethod "ColumnHouse$Row" "ColumnHouse$Row" "read" "(ILColumnHouse$Cell;)V" : Cond) ∈ gtbl := gt_in (List.mem_of_getElem? (i := 364) (by decide +kernel)) (by decide +kernel)
theorem qSel_X2_X2_read_via_X3_read : (Cond.selects "ColumnHouse$PointRow" ({ cls := "ColumnHouse$Row", name := "read", desc := "(ILColumnHouse$Cell;)V" } : MethodName) ({ cls := "ColumnHouse$PointRow", name := "read", desc := "(ILColumnHouse$Cell;)V" } : MethodName) : Cond) ∈ gtbl := gt_in (List.mem_of_getElem? (i := 365) (by decide +kernel)) (by decide +kernel)
theorem qI_X2_read : (Cond.instanceMethod ({ cls := "ColumnHouse$PointRow", name := "read", desc := "(ILColumnHouse$Cell;)V" } : MethodName) : Cond) ∈ gtbl := gt_in (List.mem_of_getElem? (i := 366) (by decide +kernel)) (by decide +kernel)
theorem qK_X2_read : (Cond.code ({ cls := "ColumnHouse$PointRow", name := "read", desc := "(ILColumnHouse$Cell;)V" } : MethodName) prog_4_method_3_code (3 : Nat) (Option.none : Option FieldType) : Cond) ∈ gtbl := gt_in (List.mem_of_getElem? (i := 367) (by decide +kernel)) (by decide +kernel)
theorem qM_X2_17 : (Cond.methodLink "ColumnHouse$PointRow" (17 : Nat) ({ cls := "ColumnHouse$Cell", name := "holdPoint", desc := "(ID)V" } : MethodName) : Cond) ∈ gtbl := gt_in (List.mem_of_getElem? (i := 368) (by decide +kernel)) (by decide +kernel)
theorem qSel_X5_X5_read_via_X3_read : (Cond.selects "ColumnHouse$ThingRow" ({ cls := "ColumnHouse$Row", name := "read", desc := "(ILColumnHouse$Cell;)V" } : MethodName) ({ cls := "ColumnHouse$ThingRow", name := "read", desc := "(ILColumnHouse$Cell;)V" } : MethodName) : Cond) ∈ gtbl := gt_in (List.mem_of_getElem? (i := 369) (by decide +kernel)) (by decide +kernel)
theorem qI_X5_read : (Cond.instanceMethod ({ cls := "ColumnHouse$ThingRow", name := "read", desc := "(ILColumnHouse$Cell;)V" } : MethodName) : Cond) ∈ gtbl := gt_in (List.mem_of_getElem? (i := 370) (by decide +kernel)) (by decide +kernel)
theorem qK_X5_read : (Cond.code ({ cls := "ColumnHouse$ThingRow", name := "read", desc := "(ILColumnHouse$Cell;)V" } : MethodName) prog_7_method_3_code (3 : Nat) (Option.none : Option FieldType) : Cond) ∈ gtbl := gt_in (List.mem_of_getElem? (i := 371) (by decide +kernel)) (by decide +kernel)
theorem qM_X5_15 : (Cond.methodLink "ColumnHouse$ThingRow" (15 : Nat) ({ cls := "ColumnHouse$Cell", name := "holdThing", desc := "(LColumnHouse$Thing;)V" } : MethodName) : Cond) ∈ gtbl := gt_in (List.mem_of_getElem? (i := 372) (by decide +kernel)) (by decide +kernel)
theorem qSel_X6_X6_read_via_X3_read : (Cond.selects "ColumnHouse$WholeRow" ({ cls := "ColumnHouse$Row", name := "read", desc := "(ILColumnHouse$Cell;)V" } : MethodName) ({ cls := "ColumnHouse$WholeRow", name := "read", desc := "(ILColumnHouse$Cell;)V" } : MethodName) : Cond) ∈ gtbl := gt_in (List.mem_of_getElem? (i := 373) (by decide +kernel)) (by decide +kernel)
theorem qI_X6_read : (Cond.instanceMethod ({ cls := "ColumnHouse$WholeRow", name := "read", desc := "(ILColumnHouse$Cell;)V" } : MethodName) : Cond) ∈ gtbl := gt_in (List.mem_of_getElem? (i := 374) (by decide +kernel)) (by decide +kernel)
theorem qK_X6_read : (Cond.code ({ cls := "ColumnHouse$WholeRow", name := "read", desc := "(ILColumnHouse$Cell;)V" } : MethodName) prog_8_method_3_code (3 : Nat) (Option.none : Option FieldType) : Cond) ∈ gtbl := gt_in (List.mem_of_getElem? (i := 375) (by decide +kernel)) (by decide +kernel)
theorem qM_X6_17 : (Cond.methodLink "ColumnHouse$WholeRow" (17 : Nat) ({ cls := "ColumnHouse$Cell", name := "holdWhole", desc := "(IJ)V" } : MethodName) : Cond) ∈ gtbl := gt_in (List.mem_of_getElem? (i := 376) (by decide +kernel)) (by decide +kernel)
theorem qM_L_58 : (Cond.methodLink "ColumnHouseLaw" (58 : Nat) ({ cls := "ColumnHouse", name := "point", desc := "(III)D" } : MethodName) : Cond) ∈ gtbl := gt_in (List.mem_of_getElem? (i := 377) (by decide +kernel)) (by decide +kernel)
theorem qI_X7_point : (Cond.instanceMethod ({ cls := "ColumnHouse", name := "point", desc := "(III)D" } : MethodName) : Cond) ∈ gtbl := gt_in (List.mem_of_getElem? (i := 378) (by decide +kernel)) (by decide +kernel)
theorem qSel_X7_X7_point : (Cond.selects "ColumnHouse" ({ cls := "ColumnHouse", name := "point", desc := "(III)D" } : MethodName) ({ cls := "ColumnHouse", name := "point", desc := "(III)D" } : MethodName) : Cond) ∈ gtbl := gt_in (List.mem_of_getElem? (i := 379) (by decide +kernel)) (by decide +kernel)
theorem qK_X7_point : (Cond.code ({ cls := "ColumnHouse", name := "point", desc := "(III)D" } : MethodName) prog_1_method_12_code (4 : Nat) (Option.some FieldType.double) : Cond) ∈ gtbl := gt_in (List.mem_of_getElem? (i := 380) (by decide +kernel)) (by decide +kernel)
theorem qM_X7_110 : (Cond.methodLink "ColumnHouse" (110 : Nat) ({ cls := "ColumnHouse$Cell", name := "pointAs", desc := "(I)D" } : MethodName) : Cond) ∈ gtbl := gt_in (List.mem_of_getElem? (i := 381) (by decide +kernel)) (by decide +kernel)
theorem qM_L_63 : (Cond.methodLink "ColumnHouseLaw" (63 : Nat) ({ cls := "ColumnHouse", name := "what", desc := "(II)I" } : MethodName) : Cond) ∈ gtbl := gt_in (List.mem_of_getElem? (i := 382) (by decide +kernel)) (by decide +kernel)
theorem qI_X7_what : (Cond.instanceMethod ({ cls := "ColumnHouse", name := "what", desc := "(II)I" } : MethodName) : Cond) ∈ gtbl := gt_in (List.mem_of_getElem? (i := 383) (by decide +kernel)) (by decide +kernel)
theorem qSel_X7_X7_what : (Cond.selects "ColumnHouse" ({ cls := "ColumnHouse", name := "what", desc := "(II)I" } : MethodName) ({ cls := "ColumnHouse", name := "what", desc := "(II)I" } : MethodName) : Cond) ∈ gtbl := gt_in (List.mem_of_getElem? (i := 384) (by decide +kernel)) (by decide +kernel)
theorem qK_X7_what : (Cond.code ({ cls := "ColumnHouse", name := "what", desc := "(II)I" } : MethodName) prog_1_method_13_code (4 : Nat) (Option.some FieldType.int) : Cond) ∈ gtbl := gt_in (List.mem_of_getElem? (i := 385) (by decide +kernel)) (by decide +kernel)
theorem qM_X7_121 : (Cond.methodLink "ColumnHouse" (121 : Nat) ({ cls := "ColumnHouse$Cell", name := "isValue", desc := "()Z" } : MethodName) : Cond) ∈ gtbl := gt_in (List.mem_of_getElem? (i := 386) (by decide +kernel)) (by decide +kernel)
theorem qM_L_67 : (Cond.methodLink "ColumnHouseLaw" (67 : Nat) ({ cls := "ColumnHouse", name := "take", desc := "(III)I" } : MethodName) : Cond) ∈ gtbl := gt_in (List.mem_of_getElem? (i := 387) (by decide +kernel)) (by decide +kernel)
theorem qI_X7_take : (Cond.instanceMethod ({ cls := "ColumnHouse", name := "take", desc := "(III)I" } : MethodName) : Cond) ∈ gtbl := gt_in (List.mem_of_getElem? (i := 388) (by decide +kernel)) (by decide +kernel)
theorem qSel_X7_X7_take : (Cond.selects "ColumnHouse" ({ cls := "ColumnHouse", name := "take", desc := "(III)I" } : MethodName) ({ cls := "ColumnHouse", name := "take", desc := "(III)I" } : MethodName) : Cond) ∈ gtbl := gt_in (List.mem_of_getElem? (i := 389) (by decide +kernel)) (by decide +kernel)
theorem qK_X7_take : (Cond.code ({ cls := "ColumnHouse", name := "take", desc := "(III)I" } : MethodName) prog_1_method_14_code (5 : Nat) (Option.some FieldType.int) : Cond) ∈ gtbl := gt_in (List.mem_of_getElem? (i := 390) (by decide +kernel)) (by decide +kernel)
theorem qM_X7_132 : (Cond.methodLink "ColumnHouse" (132 : Nat) ({ cls := "ColumnHouse$Row", name := "isPlain", desc := "()Z" } : MethodName) : Cond) ∈ gtbl := gt_in (List.mem_of_getElem? (i := 391) (by decide +kernel)) (by decide +kernel)
theorem qM_L_71 : (Cond.methodLink "ColumnHouseLaw" (71 : Nat) ({ cls := "ColumnHouse", name := "copy", desc := "(II)I" } : MethodName) : Cond) ∈ gtbl := gt_in (List.mem_of_getElem? (i := 392) (by decide +kernel)) (by decide +kernel)
theorem qI_X7_copy : (Cond.instanceMethod ({ cls := "ColumnHouse", name := "copy", desc := "(II)I" } : MethodName) : Cond) ∈ gtbl := gt_in (List.mem_of_getElem? (i := 393) (by decide +kernel)) (by decide +kernel)
theorem qSel_X7_X7_copy : (Cond.selects "ColumnHouse" ({ cls := "ColumnHouse", name := "copy", desc := "(II)I" } : MethodName) ({ cls := "ColumnHouse", name := "copy", desc := "(II)I" } : MethodName) : Cond) ∈ gtbl := gt_in (List.mem_of_getElem? (i := 394) (by decide +kernel)) (by decide +kernel)
theorem qK_X7_copy : (Cond.code ({ cls := "ColumnHouse", name := "copy", desc := "(II)I" } : MethodName) prog_1_method_15_code (6 : Nat) (Option.some FieldType.int) : Cond) ∈ gtbl := gt_in (List.mem_of_getElem? (i := 395) (by decide +kernel)) (by decide +kernel)
theorem qM_X7_135 : (Cond.methodLink "ColumnHouse" (135 : Nat) ({ cls := "ColumnHouse", name := "earlier", desc := "(II)I" } : MethodName) : Cond) ∈ gtbl := gt_in (List.mem_of_getElem? (i := 396) (by decide +kernel)) (by decide +kernel)
theorem qSt_X7_earlier : (Cond.static ({ cls := "ColumnHouse", name := "earlier", desc := "(II)I" } : MethodName) : Cond) ∈ gtbl := gt_in (List.mem_of_getElem? (i := 397) (by decide +kernel)) (by decide +kernel)
theorem qK_X7_earlier : (Cond.code ({ cls := "ColumnHouse", name := "earlier", desc := "(II)I" } : MethodName) prog_1_method_36_code (2 : Nat) (Option.some FieldType.int) : Cond) ∈ gtbl := gt_in (List.mem_of_getElem? (i := 398) (by decide +kernel)) (by decide +kernel)
theorem qM_X7_195 : (Cond.methodLink "ColumnHouse" (195 : Nat) ({ cls := "java/lang/Math", name := "min", desc := "(II)I" } : MethodName) : Cond) ∈ gtbl := gt_in (List.mem_of_getElem? (i := 399) (by decide +kernel)) (by decide +kernel)
theorem qSt_J9_min : (Cond.static ({ cls := "java/lang/Math", name := "min", desc := "(II)I" } : MethodName) : Cond) ∈ gtbl := gt_in (List.mem_of_getElem? (i := 400) (by decide +kernel)) (by decide +kernel)
theorem qK_J9_min : (Cond.code ({ cls := "java/lang/Math", name := "min", desc := "(II)I" } : MethodName) prog_11_method_69_code (2 : Nat) (Option.some FieldType.int) : Cond) ∈ gtbl := gt_in (List.mem_of_getElem? (i := 401) (by decide +kernel)) (by decide +kernel)
theorem qM_X7_143 : (Cond.methodLink "ColumnHouse" (143 : Nat) ({ cls := "ColumnHouse", name := "writeStage", desc := "(LColumnHouse$Row;)I" } : MethodName) : Cond) ∈ gtbl := gt_in (List.mem_of_getElem? (i := 402) (by decide +kernel)) (by decide +kernel)
theorem qI_X7_writeStage : (Cond.instanceMethod ({ cls := "ColumnHouse", name := "writeStage", desc := "(LColumnHouse$Row;)I" } : MethodName) : Cond) ∈ gtbl := gt_in (List.mem_of_getElem? (i := 404) (by decide +kernel)) (by decide +kernel)
theorem qK_X7_writeStage : (Cond.code ({ cls := "ColumnHouse", name := "writeStage", desc := "(LColumnHouse$Row;)I" } : MethodName) prog_1_method_45_code (4 : Nat) (Option.some FieldType.int) : Cond) ∈ gtbl := gt_in (List.mem_of_getElem? (i := 405) (by decide +kernel)) (by decide +kernel)
theorem qM_L_75 : (Cond.methodLink "ColumnHouseLaw" (75 : Nat) ({ cls := "ColumnHouse", name := "gather", desc := "(III)I" } : MethodName) : Cond) ∈ gtbl := gt_in (List.mem_of_getElem? (i := 406) (by decide +kernel)) (by decide +kernel)
theorem qI_X7_gather : (Cond.instanceMethod ({ cls := "ColumnHouse", name := "gather", desc := "(III)I" } : MethodName) : Cond) ∈ gtbl := gt_in (List.mem_of_getElem? (i := 407) (by decide +kernel)) (by decide +kernel)
theorem qSel_X7_X7_gather : (Cond.selects "ColumnHouse" ({ cls := "ColumnHouse", name := "gather", desc := "(III)I" } : MethodName) ({ cls := "ColumnHouse", name := "gather", desc := "(III)I" } : MethodName) : Cond) ∈ gtbl := gt_in (List.mem_of_getElem? (i := 408) (by decide +kernel)) (by decide +kernel)
theorem qK_X7_gather : (Cond.code ({ cls := "ColumnHouse", name := "gather", desc := "(III)I" } : MethodName) prog_1_method_16_code (4 : Nat) (Option.some FieldType.int) : Cond) ∈ gtbl := gt_in (List.mem_of_getElem? (i := 409) (by decide +kernel)) (by decide +kernel)
theorem qM_X7_147 : (Cond.methodLink "ColumnHouse" (147 : Nat) ({ cls := "ColumnHouse", name := "moveByIndex", desc := "(IIIZ)I" } : MethodName) : Cond) ∈ gtbl := gt_in (List.mem_of_getElem? (i := 410) (by decide +kernel)) (by decide +kernel)
theorem qI_X7_moveByIndex : (Cond.instanceMethod ({ cls := "ColumnHouse", name := "moveByIndex", desc := "(IIIZ)I" } : MethodName) : Cond) ∈ gtbl := gt_in (List.mem_of_getElem? (i := 412) (by decide +kernel)) (by decide +kernel)
theorem qK_X7_moveByIndex : (Cond.code ({ cls := "ColumnHouse", name := "moveByIndex", desc := "(IIIZ)I" } : MethodName) prog_1_method_42_code (12 : Nat) (Option.some FieldType.int) : Cond) ∈ gtbl := gt_in (List.mem_of_getElem? (i := 413) (by decide +kernel)) (by decide +kernel)
theorem qM_X7_151 : (Cond.methodLink "ColumnHouse" (151 : Nat) ({ cls := "ColumnHouse", name := "rowsAmiss", desc := "(III)I" } : MethodName) : Cond) ∈ gtbl := gt_in (List.mem_of_getElem? (i := 414) (by decide +kernel)) (by decide +kernel)
theorem qI_X7_rowsAmiss : (Cond.instanceMethod ({ cls := "ColumnHouse", name := "rowsAmiss", desc := "(III)I" } : MethodName) : Cond) ∈ gtbl := gt_in (List.mem_of_getElem? (i := 416) (by decide +kernel)) (by decide +kernel)
theorem qK_X7_rowsAmiss : (Cond.code ({ cls := "ColumnHouse", name := "rowsAmiss", desc := "(III)I" } : MethodName) prog_1_method_35_code (4 : Nat) (Option.some FieldType.int) : Cond) ∈ gtbl := gt_in (List.mem_of_getElem? (i := 417) (by decide +kernel)) (by decide +kernel)
theorem qM_X7_204 : (Cond.methodLink "ColumnHouse" (204 : Nat) ({ cls := "ColumnHouse", name := "indexAt", desc := "(LColumnHouse$Row;I)I" } : MethodName) : Cond) ∈ gtbl := gt_in (List.mem_of_getElem? (i := 418) (by decide +kernel)) (by decide +kernel)
theorem qI_X7_indexAt : (Cond.instanceMethod ({ cls := "ColumnHouse", name := "indexAt", desc := "(LColumnHouse$Row;I)I" } : MethodName) : Cond) ∈ gtbl := gt_in (List.mem_of_getElem? (i := 420) (by decide +kernel)) (by decide +kernel)
theorem qK_X7_indexAt : (Cond.code ({ cls := "ColumnHouse", name := "indexAt", desc := "(LColumnHouse$Row;I)I" } : MethodName) prog_1_method_44_code (3 : Nat) (Option.some FieldType.int) : Cond) ∈ gtbl := gt_in (List.mem_of_getElem? (i := 421) (by decide +kernel)) (by decide +kernel)
theorem qM_X7_208 : (Cond.methodLink "ColumnHouse" (208 : Nat) ({ cls := "ColumnHouse", name := "stageMove", desc := "(LColumnHouse$Row;ILColumnHouse$Row;I)I" } : MethodName) : Cond) ∈ gtbl := gt_in (List.mem_of_getElem? (i := 422) (by decide +kernel)) (by decide +kernel)
theorem qI_X7_stageMove : (Cond.instanceMethod ({ cls := "ColumnHouse", name := "stageMove", desc := "(LColumnHouse$Row;ILColumnHouse$Row;I)I" } : MethodName) : Cond) ∈ gtbl := gt_in (List.mem_of_getElem? (i := 424) (by decide +kernel)) (by decide +kernel)
theorem qK_X7_stageMove : (Cond.code ({ cls := "ColumnHouse", name := "stageMove", desc := "(LColumnHouse$Row;ILColumnHouse$Row;I)I" } : MethodName) prog_1_method_43_code (5 : Nat) (Option.some FieldType.int) : Cond) ∈ gtbl := gt_in (List.mem_of_getElem? (i := 425) (by decide +kernel)) (by decide +kernel)
theorem qM_L_79 : (Cond.methodLink "ColumnHouseLaw" (79 : Nat) ({ cls := "ColumnHouse", name := "scatter", desc := "(III)I" } : MethodName) : Cond) ∈ gtbl := gt_in (List.mem_of_getElem? (i := 426) (by decide +kernel)) (by decide +kernel)
theorem qI_X7_scatter : (Cond.instanceMethod ({ cls := "ColumnHouse", name := "scatter", desc := "(III)I" } : MethodName) : Cond) ∈ gtbl := gt_in (List.mem_of_getElem? (i := 427) (by decide +kernel)) (by decide +kernel)
theorem qSel_X7_X7_scatter : (Cond.selects "ColumnHouse" ({ cls := "ColumnHouse", name := "scatter", desc := "(III)I" } : MethodName) ({ cls := "ColumnHouse", name := "scatter", desc := "(III)I" } : MethodName) : Cond) ∈ gtbl := gt_in (List.mem_of_getElem? (i := 428) (by decide +kernel)) (by decide +kernel)
theorem qK_X7_scatter : (Cond.code ({ cls := "ColumnHouse", name := "scatter", desc := "(III)I" } : MethodName) prog_1_method_17_code (4 : Nat) (Option.some FieldType.int) : Cond) ∈ gtbl := gt_in (List.mem_of_getElem? (i := 429) (by decide +kernel)) (by decide +kernel)
theorem qM_L_83 : (Cond.methodLink "ColumnHouseLaw" (83 : Nat) ({ cls := "ColumnHouse", name := "merge", desc := "(III)I" } : MethodName) : Cond) ∈ gtbl := gt_in (List.mem_of_getElem? (i := 430) (by decide +kernel)) (by decide +kernel)
theorem qI_X7_merge : (Cond.instanceMethod ({ cls := "ColumnHouse", name := "merge", desc := "(III)I" } : MethodName) : Cond) ∈ gtbl := gt_in (List.mem_of_getElem? (i := 431) (by decide +kernel)) (by decide +kernel)
theorem qSel_X7_X7_merge : (Cond.selects "ColumnHouse" ({ cls := "ColumnHouse", name := "merge", desc := "(III)I" } : MethodName) ({ cls := "ColumnHouse", name := "merge", desc := "(III)I" } : MethodName) : Cond) ∈ gtbl := gt_in (List.mem_of_getElem? (i := 432) (by decide +kernel)) (by decide +kernel)
theorem qK_X7_merge : (Cond.code ({ cls := "ColumnHouse", name := "merge", desc := "(III)I" } : MethodName) prog_1_method_18_code (10 : Nat) (Option.some FieldType.int) : Cond) ∈ gtbl := gt_in (List.mem_of_getElem? (i := 433) (by decide +kernel)) (by decide +kernel)
theorem qM_X7_156 : (Cond.methodLink "ColumnHouse" (156 : Nat) ({ cls := "ColumnHouse", name := "comesFromRight", desc := "(LColumnHouse$Row;ILColumnHouse$Row;I)Z" } : MethodName) : Cond) ∈ gtbl := gt_in (List.mem_of_getElem? (i := 434) (by decide +kernel)) (by decide +kernel)
theorem qI_X7_comesFromRight : (Cond.instanceMethod ({ cls := "ColumnHouse", name := "comesFromRight", desc := "(LColumnHouse$Row;ILColumnHouse$Row;I)Z" } : MethodName) : Cond) ∈ gtbl := gt_in (List.mem_of_getElem? (i := 436) (by decide +kernel)) (by decide +kernel)
theorem qK_X7_comesFromRight : (Cond.code ({ cls := "ColumnHouse", name := "comesFromRight", desc := "(LColumnHouse$Row;ILColumnHouse$Row;I)Z" } : MethodName) prog_1_method_46_code (5 : Nat) (Option.some FieldType.boolean) : Cond) ∈ gtbl := gt_in (List.mem_of_getElem? (i := 437) (by decide +kernel)) (by decide +kernel)
theorem qM_X7_212 : (Cond.methodLink "ColumnHouse" (212 : Nat) ({ cls := "ColumnHouse$Cell", name := "isLess", desc := "(LColumnHouse$Cell;)Z" } : MethodName) : Cond) ∈ gtbl := gt_in (List.mem_of_getElem? (i := 438) (by decide +kernel)) (by decide +kernel)
theorem qI_X1_isLess : (Cond.instanceMethod ({ cls := "ColumnHouse$Cell", name := "isLess", desc := "(LColumnHouse$Cell;)Z" } : MethodName) : Cond) ∈ gtbl := gt_in (List.mem_of_getElem? (i := 439) (by decide +kernel)) (by decide +kernel)
theorem qSel_X1_X1_isLess : (Cond.selects "ColumnHouse$Cell" ({ cls := "ColumnHouse$Cell", name := "isLess", desc := "(LColumnHouse$Cell;)Z" } : MethodName) ({ cls := "ColumnHouse$Cell", name := "isLess", desc := "(LColumnHouse$Cell;)Z" } : MethodName) : Cond) ∈ gtbl := gt_in (List.mem_of_getElem? (i := 440) (by decide +kernel)) (by decide +kernel)
theorem qK_X1_isLess : (Cond.code ({ cls := "ColumnHouse$Cell", name := "isLess", desc := "(LColumnHouse$Cell;)Z" } : MethodName) prog_3_method_10_code (2 : Nat) (Option.some FieldType.boolean) : Cond) ∈ gtbl := gt_in (List.mem_of_getElem? (i := 441) (by decide +kernel)) (by decide +kernel)
theorem qM_X1_47 : (Cond.methodLink "ColumnHouse$Cell" (47 : Nat) ({ cls := "ColumnHouse$Cell", name := "pointAs", desc := "(I)D" } : MethodName) : Cond) ∈ gtbl := gt_in (List.mem_of_getElem? (i := 442) (by decide +kernel)) (by decide +kernel)
theorem qM_L_87 : (Cond.methodLink "ColumnHouseLaw" (87 : Nat) ({ cls := "ColumnHouse", name := "sort", desc := "(I)I" } : MethodName) : Cond) ∈ gtbl := gt_in (List.mem_of_getElem? (i := 443) (by decide +kernel)) (by decide +kernel)
theorem qI_X7_sort : (Cond.instanceMethod ({ cls := "ColumnHouse", name := "sort", desc := "(I)I" } : MethodName) : Cond) ∈ gtbl := gt_in (List.mem_of_getElem? (i := 444) (by decide +kernel)) (by decide +kernel)
theorem qSel_X7_X7_sort : (Cond.selects "ColumnHouse" ({ cls := "ColumnHouse", name := "sort", desc := "(I)I" } : MethodName) ({ cls := "ColumnHouse", name := "sort", desc := "(I)I" } : MethodName) : Cond) ∈ gtbl := gt_in (List.mem_of_getElem? (i := 445) (by decide +kernel)) (by decide +kernel)
theorem qK_X7_sort : (Cond.code ({ cls := "ColumnHouse", name := "sort", desc := "(I)I" } : MethodName) prog_1_method_19_code (4 : Nat) (Option.some FieldType.int) : Cond) ∈ gtbl := gt_in (List.mem_of_getElem? (i := 446) (by decide +kernel)) (by decide +kernel)
theorem qM_X7_160 : (Cond.methodLink "ColumnHouse" (160 : Nat) ({ cls := "ColumnHouse", name := "sinkIntoOrder", desc := "(I)V" } : MethodName) : Cond) ∈ gtbl := gt_in (List.mem_of_getElem? (i := 447) (by decide +kernel)) (by decide +kernel)
theorem qI_X7_sinkIntoOrder : (Cond.instanceMethod ({ cls := "ColumnHouse", name := "sinkIntoOrder", desc := "(I)V" } : MethodName) : Cond) ∈ gtbl := gt_in (List.mem_of_getElem? (i := 449) (by decide +kernel)) (by decide +kernel)
theorem qK_X7_sinkIntoOrder : (Cond.code ({ cls := "ColumnHouse", name := "sinkIntoOrder", desc := "(I)V" } : MethodName) prog_1_method_47_code (4 : Nat) (Option.none : Option FieldType) : Cond) ∈ gtbl := gt_in (List.mem_of_getElem? (i := 450) (by decide +kernel)) (by decide +kernel)
theorem qM_X7_215 : (Cond.methodLink "ColumnHouse" (215 : Nat) ({ cls := "ColumnHouse$Cell", name := "comesBefore", desc := "(LColumnHouse$Cell;)Z" } : MethodName) : Cond) ∈ gtbl := gt_in (List.mem_of_getElem? (i := 451) (by decide +kernel)) (by decide +kernel)
theorem qI_X1_comesBefore : (Cond.instanceMethod ({ cls := "ColumnHouse$Cell", name := "comesBefore", desc := "(LColumnHouse$Cell;)Z" } : MethodName) : Cond) ∈ gtbl := gt_in (List.mem_of_getElem? (i := 452) (by decide +kernel)) (by decide +kernel)
theorem qSel_X1_X1_comesBefore : (Cond.selects "ColumnHouse$Cell" ({ cls := "ColumnHouse$Cell", name := "comesBefore", desc := "(LColumnHouse$Cell;)Z" } : MethodName) ({ cls := "ColumnHouse$Cell", name := "comesBefore", desc := "(LColumnHouse$Cell;)Z" } : MethodName) : Cond) ∈ gtbl := gt_in (List.mem_of_getElem? (i := 453) (by decide +kernel)) (by decide +kernel)
theorem qK_X1_comesBefore : (Cond.code ({ cls := "ColumnHouse$Cell", name := "comesBefore", desc := "(LColumnHouse$Cell;)Z" } : MethodName) prog_3_method_11_code (2 : Nat) (Option.some FieldType.boolean) : Cond) ∈ gtbl := gt_in (List.mem_of_getElem? (i := 454) (by decide +kernel)) (by decide +kernel)
theorem qM_X1_44 : (Cond.methodLink "ColumnHouse$Cell" (44 : Nat) ({ cls := "ColumnHouse$Cell", name := "isValue", desc := "()Z" } : MethodName) : Cond) ∈ gtbl := gt_in (List.mem_of_getElem? (i := 455) (by decide +kernel)) (by decide +kernel)
theorem qM_X1_51 : (Cond.methodLink "ColumnHouse$Cell" (51 : Nat) ({ cls := "ColumnHouse$Cell", name := "isLess", desc := "(LColumnHouse$Cell;)Z" } : MethodName) : Cond) ∈ gtbl := gt_in (List.mem_of_getElem? (i := 456) (by decide +kernel)) (by decide +kernel)
theorem qM_X1_55 : (Cond.methodLink "ColumnHouse$Cell" (55 : Nat) ({ cls := "ColumnHouse$Thing", name := "measure", desc := "()I" } : MethodName) : Cond) ∈ gtbl := gt_in (List.mem_of_getElem? (i := 457) (by decide +kernel)) (by decide +kernel)
theorem qSM_X4_measure : (Cond.sameMethod "ColumnHouse$Thing" "ColumnHouse$Thing" "measure" "()I" : Cond) ∈ gtbl := gt_in (List.mem_of_getElem? (i := 459) (by decide +kernel)) (by decide +kernel)
theorem qSel_X0_X0_measure_via_X4_measure : (Cond.selects "ColumnHouse$Card" ({ cls := "ColumnHouse$Thing", name := "measure", desc := "()I" } : MethodName) ({ cls := "ColumnHouse$Card", name := "measure", desc := "()I" } : MethodName) : Cond) ∈ gtbl := gt_in (List.mem_of_getElem? (i := 460) (by decide +kernel)) (by decide +kernel)
theorem qI_X0_measure : (Cond.instanceMethod ({ cls := "ColumnHouse$Card", name := "measure", desc := "()I" } : MethodName) : Cond) ∈ gtbl := gt_in (List.mem_of_getElem? (i := 461) (by decide +kernel)) (by decide +kernel)
theorem qK_X0_measure : (Cond.code ({ cls := "ColumnHouse$Card", name := "measure", desc := "()I" } : MethodName) prog_2_method_2_code (1 : Nat) (Option.some FieldType.int) : Cond) ∈ gtbl := gt_in (List.mem_of_getElem? (i := 462) (by decide +kernel)) (by decide +kernel)
theorem qSel_X2_X3_measure_via_X4_measure : (Cond.selects "ColumnHouse$PointRow" ({ cls := "ColumnHouse$Thing", name := "measure", desc := "()I" } : MethodName) ({ cls := "ColumnHouse$Row", name := "measure", desc := "()I" } : MethodName) : Cond) ∈ gtbl := gt_in (List.mem_of_getElem? (i := 463) (by decide +kernel)) (by decide +kernel)
theorem qI_X3_measure : (Cond.instanceMethod ({ cls := "ColumnHouse$Row", name := "measure", desc := "()I" } : MethodName) : Cond) ∈ gtbl := gt_in (List.mem_of_getElem? (i := 464) (by decide +kernel)) (by decide +kernel)
theorem qK_X3_measure : (Cond.code ({ cls := "ColumnHouse$Row", name := "measure", desc := "()I" } : MethodName) prog_5_method_5_code (1 : Nat) (Option.some FieldType.int) : Cond) ∈ gtbl := gt_in (List.mem_of_getElem? (i := 465) (by decide +kernel)) (by decide +kernel)
theorem qSel_X5_X3_measure_via_X4_measure : (Cond.selects "ColumnHouse$ThingRow" ({ cls := "ColumnHouse$Thing", name := "measure", desc := "()I" } : MethodName) ({ cls := "ColumnHouse$Row", name := "measure", desc := "()I" } : MethodName) : Cond) ∈ gtbl := gt_in (List.mem_of_getElem? (i := 466) (by decide +kernel)) (by decide +kernel)
theorem qSel_X6_X3_measure_via_X4_measure : (Cond.selects "ColumnHouse$WholeRow" ({ cls := "ColumnHouse$Thing", name := "measure", desc := "()I" } : MethodName) ({ cls := "ColumnHouse$Row", name := "measure", desc := "()I" } : MethodName) : Cond) ∈ gtbl := gt_in (List.mem_of_getElem? (i := 467) (by decide +kernel)) (by decide +kernel)
theorem qM_X7_164 : (Cond.methodLink "ColumnHouse" (164 : Nat) ({ cls := "ColumnHouse", name := "placesUnlikeStage", desc := "(LColumnHouse$Row;)I" } : MethodName) : Cond) ∈ gtbl := gt_in (List.mem_of_getElem? (i := 468) (by decide +kernel)) (by decide +kernel)
theorem qI_X7_placesUnlikeStage : (Cond.instanceMethod ({ cls := "ColumnHouse", name := "placesUnlikeStage", desc := "(LColumnHouse$Row;)I" } : MethodName) : Cond) ∈ gtbl := gt_in (List.mem_of_getElem? (i := 470) (by decide +kernel)) (by decide +kernel)
theorem qK_X7_placesUnlikeStage : (Cond.code ({ cls := "ColumnHouse", name := "placesUnlikeStage", desc := "(LColumnHouse$Row;)I" } : MethodName) prog_1_method_48_code (4 : Nat) (Option.some FieldType.int) : Cond) ∈ gtbl := gt_in (List.mem_of_getElem? (i := 471) (by decide +kernel)) (by decide +kernel)
theorem qM_X7_182 : (Cond.methodLink "ColumnHouse" (182 : Nat) ({ cls := "ColumnHouse$Cell", name := "isLike", desc := "(LColumnHouse$Cell;)Z" } : MethodName) : Cond) ∈ gtbl := gt_in (List.mem_of_getElem? (i := 472) (by decide +kernel)) (by decide +kernel)
theorem qI_X1_isLike : (Cond.instanceMethod ({ cls := "ColumnHouse$Cell", name := "isLike", desc := "(LColumnHouse$Cell;)Z" } : MethodName) : Cond) ∈ gtbl := gt_in (List.mem_of_getElem? (i := 473) (by decide +kernel)) (by decide +kernel)
theorem qSel_X1_X1_isLike : (Cond.selects "ColumnHouse$Cell" ({ cls := "ColumnHouse$Cell", name := "isLike", desc := "(LColumnHouse$Cell;)Z" } : MethodName) ({ cls := "ColumnHouse$Cell", name := "isLike", desc := "(LColumnHouse$Cell;)Z" } : MethodName) : Cond) ∈ gtbl := gt_in (List.mem_of_getElem? (i := 474) (by decide +kernel)) (by decide +kernel)
theorem qK_X1_isLike : (Cond.code ({ cls := "ColumnHouse$Cell", name := "isLike", desc := "(LColumnHouse$Cell;)Z" } : MethodName) prog_3_method_9_code (2 : Nat) (Option.some FieldType.boolean) : Cond) ∈ gtbl := gt_in (List.mem_of_getElem? (i := 475) (by decide +kernel)) (by decide +kernel)
theorem qM_L_91 : (Cond.methodLink "ColumnHouseLaw" (91 : Nat) ({ cls := "ColumnHouse", name := "turn", desc := "(II)I" } : MethodName) : Cond) ∈ gtbl := gt_in (List.mem_of_getElem? (i := 476) (by decide +kernel)) (by decide +kernel)
theorem qI_X7_turn : (Cond.instanceMethod ({ cls := "ColumnHouse", name := "turn", desc := "(II)I" } : MethodName) : Cond) ∈ gtbl := gt_in (List.mem_of_getElem? (i := 477) (by decide +kernel)) (by decide +kernel)
theorem qSel_X7_X7_turn : (Cond.selects "ColumnHouse" ({ cls := "ColumnHouse", name := "turn", desc := "(II)I" } : MethodName) ({ cls := "ColumnHouse", name := "turn", desc := "(II)I" } : MethodName) : Cond) ∈ gtbl := gt_in (List.mem_of_getElem? (i := 478) (by decide +kernel)) (by decide +kernel)
theorem qK_X7_turn : (Cond.code ({ cls := "ColumnHouse", name := "turn", desc := "(II)I" } : MethodName) prog_1_method_20_code (8 : Nat) (Option.some FieldType.int) : Cond) ∈ gtbl := gt_in (List.mem_of_getElem? (i := 479) (by decide +kernel)) (by decide +kernel)
theorem qM_X7_167 : (Cond.methodLink "ColumnHouse" (167 : Nat) ({ cls := "java/lang/Math", name := "floorMod", desc := "(II)I" } : MethodName) : Cond) ∈ gtbl := gt_in (List.mem_of_getElem? (i := 480) (by decide +kernel)) (by decide +kernel)
theorem qSt_J9_floorMod : (Cond.static ({ cls := "java/lang/Math", name := "floorMod", desc := "(II)I" } : MethodName) : Cond) ∈ gtbl := gt_in (List.mem_of_getElem? (i := 481) (by decide +kernel)) (by decide +kernel)
theorem qK_J9_floorMod : (Cond.code ({ cls := "java/lang/Math", name := "floorMod", desc := "(II)I" } : MethodName) prog_11_method_50_code (3 : Nat) (Option.some FieldType.int) : Cond) ∈ gtbl := gt_in (List.mem_of_getElem? (i := 482) (by decide +kernel)) (by decide +kernel)
theorem qM_L_95 : (Cond.methodLink "ColumnHouseLaw" (95 : Nat) ({ cls := "ColumnHouse", name := "sum", desc := "(I)J" } : MethodName) : Cond) ∈ gtbl := gt_in (List.mem_of_getElem? (i := 483) (by decide +kernel)) (by decide +kernel)
theorem qI_X7_sum : (Cond.instanceMethod ({ cls := "ColumnHouse", name := "sum", desc := "(I)J" } : MethodName) : Cond) ∈ gtbl := gt_in (List.mem_of_getElem? (i := 484) (by decide +kernel)) (by decide +kernel)
theorem qSel_X7_X7_sum : (Cond.selects "ColumnHouse" ({ cls := "ColumnHouse", name := "sum", desc := "(I)J" } : MethodName) ({ cls := "ColumnHouse", name := "sum", desc := "(I)J" } : MethodName) : Cond) ∈ gtbl := gt_in (List.mem_of_getElem? (i := 485) (by decide +kernel)) (by decide +kernel)
theorem qK_X7_sum : (Cond.code ({ cls := "ColumnHouse", name := "sum", desc := "(I)J" } : MethodName) prog_1_method_21_code (6 : Nat) (Option.some FieldType.long) : Cond) ∈ gtbl := gt_in (List.mem_of_getElem? (i := 486) (by decide +kernel)) (by decide +kernel)
theorem qM_L_100 : (Cond.methodLink "ColumnHouseLaw" (100 : Nat) ({ cls := "ColumnHouse", name := "total", desc := "(I)D" } : MethodName) : Cond) ∈ gtbl := gt_in (List.mem_of_getElem? (i := 487) (by decide +kernel)) (by decide +kernel)
theorem qI_X7_total : (Cond.instanceMethod ({ cls := "ColumnHouse", name := "total", desc := "(I)D" } : MethodName) : Cond) ∈ gtbl := gt_in (List.mem_of_getElem? (i := 488) (by decide +kernel)) (by decide +kernel)
theorem qSel_X7_X7_total : (Cond.selects "ColumnHouse" ({ cls := "ColumnHouse", name := "total", desc := "(I)D" } : MethodName) ({ cls := "ColumnHouse", name := "total", desc := "(I)D" } : MethodName) : Cond) ∈ gtbl := gt_in (List.mem_of_getElem? (i := 489) (by decide +kernel)) (by decide +kernel)
theorem qK_X7_total : (Cond.code ({ cls := "ColumnHouse", name := "total", desc := "(I)D" } : MethodName) prog_1_method_22_code (6 : Nat) (Option.some FieldType.double) : Cond) ∈ gtbl := gt_in (List.mem_of_getElem? (i := 490) (by decide +kernel)) (by decide +kernel)
theorem qM_L_105 : (Cond.methodLink "ColumnHouseLaw" (105 : Nat) ({ cls := "ColumnHouse", name := "find", desc := "(IIIII)I" } : MethodName) : Cond) ∈ gtbl := gt_in (List.mem_of_getElem? (i := 491) (by decide +kernel)) (by decide +kernel)
theorem qI_X7_find : (Cond.instanceMethod ({ cls := "ColumnHouse", name := "find", desc := "(IIIII)I" } : MethodName) : Cond) ∈ gtbl := gt_in (List.mem_of_getElem? (i := 492) (by decide +kernel)) (by decide +kernel)
theorem qSel_X7_X7_find : (Cond.selects "ColumnHouse" ({ cls := "ColumnHouse", name := "find", desc := "(IIIII)I" } : MethodName) ({ cls := "ColumnHouse", name := "find", desc := "(IIIII)I" } : MethodName) : Cond) ∈ gtbl := gt_in (List.mem_of_getElem? (i := 493) (by decide +kernel)) (by decide +kernel)
theorem qK_X7_find : (Cond.code ({ cls := "ColumnHouse", name := "find", desc := "(IIIII)I" } : MethodName) prog_1_method_23_code (8 : Nat) (Option.some FieldType.int) : Cond) ∈ gtbl := gt_in (List.mem_of_getElem? (i := 494) (by decide +kernel)) (by decide +kernel)
theorem qM_X7_179 : (Cond.methodLink "ColumnHouse" (179 : Nat) ({ cls := "java/lang/Math", name := "max", desc := "(II)I" } : MethodName) : Cond) ∈ gtbl := gt_in (List.mem_of_getElem? (i := 495) (by decide +kernel)) (by decide +kernel)
theorem qSt_J9_max : (Cond.static ({ cls := "java/lang/Math", name := "max", desc := "(II)I" } : MethodName) : Cond) ∈ gtbl := gt_in (List.mem_of_getElem? (i := 496) (by decide +kernel)) (by decide +kernel)
theorem qK_J9_max : (Cond.code ({ cls := "java/lang/Math", name := "max", desc := "(II)I" } : MethodName) prog_11_method_65_code (2 : Nat) (Option.some FieldType.int) : Cond) ∈ gtbl := gt_in (List.mem_of_getElem? (i := 497) (by decide +kernel)) (by decide +kernel)
theorem qM_L_109 : (Cond.methodLink "ColumnHouseLaw" (109 : Nat) ({ cls := "ColumnHouse", name := "alike", desc := "(II)I" } : MethodName) : Cond) ∈ gtbl := gt_in (List.mem_of_getElem? (i := 498) (by decide +kernel)) (by decide +kernel)
theorem qI_X7_alike : (Cond.instanceMethod ({ cls := "ColumnHouse", name := "alike", desc := "(II)I" } : MethodName) : Cond) ∈ gtbl := gt_in (List.mem_of_getElem? (i := 499) (by decide +kernel)) (by decide +kernel)
theorem qSel_X7_X7_alike : (Cond.selects "ColumnHouse" ({ cls := "ColumnHouse", name := "alike", desc := "(II)I" } : MethodName) ({ cls := "ColumnHouse", name := "alike", desc := "(II)I" } : MethodName) : Cond) ∈ gtbl := gt_in (List.mem_of_getElem? (i := 500) (by decide +kernel)) (by decide +kernel)
theorem qK_X7_alike : (Cond.code ({ cls := "ColumnHouse", name := "alike", desc := "(II)I" } : MethodName) prog_1_method_24_code (6 : Nat) (Option.some FieldType.int) : Cond) ∈ gtbl := gt_in (List.mem_of_getElem? (i := 501) (by decide +kernel)) (by decide +kernel)
theorem qM_L_113 : (Cond.methodLink "ColumnHouseLaw" (113 : Nat) ({ cls := "ColumnHouse", name := "why", desc := "()I" } : MethodName) : Cond) ∈ gtbl := gt_in (List.mem_of_getElem? (i := 502) (by decide +kernel)) (by decide +kernel)
theorem qI_X7_why : (Cond.instanceMethod ({ cls := "ColumnHouse", name := "why", desc := "()I" } : MethodName) : Cond) ∈ gtbl := gt_in (List.mem_of_getElem? (i := 503) (by decide +kernel)) (by decide +kernel)
theorem qSel_X7_X7_why : (Cond.selects "ColumnHouse" ({ cls := "ColumnHouse", name := "why", desc := "()I" } : MethodName) ({ cls := "ColumnHouse", name := "why", desc := "()I" } : MethodName) : Cond) ∈ gtbl := gt_in (List.mem_of_getElem? (i := 504) (by decide +kernel)) (by decide +kernel)
theorem qK_X7_why : (Cond.code ({ cls := "ColumnHouse", name := "why", desc := "()I" } : MethodName) prog_1_method_25_code (1 : Nat) (Option.some FieldType.int) : Cond) ∈ gtbl := gt_in (List.mem_of_getElem? (i := 505) (by decide +kernel)) (by decide +kernel)
theorem qC_L_10 : (Cond.classLink "ColumnHouseLaw" (10 : Nat) "ColumnHouseModel" : Cond) ∈ gtbl := gt_in (List.mem_of_getElem? (i := 506) (by decide +kernel)) (by decide +kernel)
theorem qNew_X8 : (Cond.instantiable "ColumnHouseModel" (17 : Nat) : Cond) ∈ gtbl := gt_in (List.mem_of_getElem? (i := 507) (by decide +kernel)) (by decide +kernel)
theorem qM_L_12 : (Cond.methodLink "ColumnHouseLaw" (12 : Nat) ({ cls := "ColumnHouseModel", name := "<init>", desc := "()V" } : MethodName) : Cond) ∈ gtbl := gt_in (List.mem_of_getElem? (i := 508) (by decide +kernel)) (by decide +kernel)
theorem qI_X8_init : (Cond.instanceMethod ({ cls := "ColumnHouseModel", name := "<init>", desc := "()V" } : MethodName) : Cond) ∈ gtbl := gt_in (List.mem_of_getElem? (i := 509) (by decide +kernel)) (by decide +kernel)
theorem qK_X8_init : (Cond.code ({ cls := "ColumnHouseModel", name := "<init>", desc := "()V" } : MethodName) prog_10_method_1_code (1 : Nat) (Option.none : Option FieldType) : Cond) ∈ gtbl := gt_in (List.mem_of_getElem? (i := 510) (by decide +kernel)) (by decide +kernel)
theorem qM_X8_1 : (Cond.methodLink "ColumnHouseModel" (1 : Nat) ({ cls := "java/lang/Object", name := "<init>", desc := "()V" } : MethodName) : Cond) ∈ gtbl := gt_in (List.mem_of_getElem? (i := 511) (by decide +kernel)) (by decide +kernel)
theorem qF_X8_7 : (Cond.fieldLink "ColumnHouseModel" (7 : Nat) "ColumnHouseModel" "goes" "[I" : Cond) ∈ gtbl := gt_in (List.mem_of_getElem? (i := 512) (by decide +kernel)) (by decide +kernel)
theorem qF_X8_13 : (Cond.fieldLink "ColumnHouseModel" (13 : Nat) "ColumnHouseModel" "kinds" "[I" : Cond) ∈ gtbl := gt_in (List.mem_of_getElem? (i := 513) (by decide +kernel)) (by decide +kernel)
theorem qF_X8_16 : (Cond.fieldLink "ColumnHouseModel" (16 : Nat) "ColumnHouseModel" "lengths" "[I" : Cond) ∈ gtbl := gt_in (List.mem_of_getElem? (i := 514) (by decide +kernel)) (by decide +kernel)
theorem qF_X8_19 : (Cond.fieldLink "ColumnHouseModel" (19 : Nat) "ColumnHouseModel" "tags" "[I" : Cond) ∈ gtbl := gt_in (List.mem_of_getElem? (i := 515) (by decide +kernel)) (by decide +kernel)
theorem qF_X8_22 : (Cond.fieldLink "ColumnHouseModel" (22 : Nat) "ColumnHouseModel" "wholes" "[J" : Cond) ∈ gtbl := gt_in (List.mem_of_getElem? (i := 516) (by decide +kernel)) (by decide +kernel)
theorem qF_X8_26 : (Cond.fieldLink "ColumnHouseModel" (26 : Nat) "ColumnHouseModel" "reals" "[D" : Cond) ∈ gtbl := gt_in (List.mem_of_getElem? (i := 517) (by decide +kernel)) (by decide +kernel)
theorem qF_X8_108 : (Cond.fieldLink "ColumnHouseModel" (108 : Nat) "ColumnHouseModel" "things" "I" : Cond) ∈ gtbl := gt_in (List.mem_of_getElem? (i := 518) (by decide +kernel)) (by decide +kernel)
theorem qF_X8_30 : (Cond.fieldLink "ColumnHouseModel" (30 : Nat) "ColumnHouseModel" "columns" "[I" : Cond) ∈ gtbl := gt_in (List.mem_of_getElem? (i := 519) (by decide +kernel)) (by decide +kernel)
theorem qF_X8_48 : (Cond.fieldLink "ColumnHouseModel" (48 : Nat) "ColumnHouseModel" "why" "I" : Cond) ∈ gtbl := gt_in (List.mem_of_getElem? (i := 520) (by decide +kernel)) (by decide +kernel)
theorem qF_X8_66 : (Cond.fieldLink "ColumnHouseModel" (66 : Nat) "ColumnHouseModel" "sortOf" "I" : Cond) ∈ gtbl := gt_in (List.mem_of_getElem? (i := 521) (by decide +kernel)) (by decide +kernel)
theorem qF_X8_69 : (Cond.fieldLink "ColumnHouseModel" (69 : Nat) "ColumnHouseModel" "whole" "J" : Cond) ∈ gtbl := gt_in (List.mem_of_getElem? (i := 522) (by decide +kernel)) (by decide +kernel)
theorem qF_X8_73 : (Cond.fieldLink "ColumnHouseModel" (73 : Nat) "ColumnHouseModel" "real" "D" : Cond) ∈ gtbl := gt_in (List.mem_of_getElem? (i := 523) (by decide +kernel)) (by decide +kernel)
theorem qF_X8_33 : (Cond.fieldLink "ColumnHouseModel" (33 : Nat) "ColumnHouseModel" "newSorts" "[I" : Cond) ∈ gtbl := gt_in (List.mem_of_getElem? (i := 524) (by decide +kernel)) (by decide +kernel)
theorem qF_X8_36 : (Cond.fieldLink "ColumnHouseModel" (36 : Nat) "ColumnHouseModel" "newWholes" "[J" : Cond) ∈ gtbl := gt_in (List.mem_of_getElem? (i := 525) (by decide +kernel)) (by decide +kernel)
theorem qF_X8_39 : (Cond.fieldLink "ColumnHouseModel" (39 : Nat) "ColumnHouseModel" "newReals" "[D" : Cond) ∈ gtbl := gt_in (List.mem_of_getElem? (i := 526) (by decide +kernel)) (by decide +kernel)
theorem qF_X8_42 : (Cond.fieldLink "ColumnHouseModel" (42 : Nat) "ColumnHouseModel" "froms" "[I" : Cond) ∈ gtbl := gt_in (List.mem_of_getElem? (i := 527) (by decide +kernel)) (by decide +kernel)
theorem qF_X8_45 : (Cond.fieldLink "ColumnHouseModel" (45 : Nat) "ColumnHouseModel" "tos" "[I" : Cond) ∈ gtbl := gt_in (List.mem_of_getElem? (i := 528) (by decide +kernel)) (by decide +kernel)
theorem qM_L_17 : (Cond.methodLink "ColumnHouseLaw" (17 : Nat) ({ cls := "ColumnHouseModel", name := "make", desc := "(III)I" } : MethodName) : Cond) ∈ gtbl := gt_in (List.mem_of_getElem? (i := 564) (by decide +kernel)) (by decide +kernel)
theorem qI_X8_make : (Cond.instanceMethod ({ cls := "ColumnHouseModel", name := "make", desc := "(III)I" } : MethodName) : Cond) ∈ gtbl := gt_in (List.mem_of_getElem? (i := 565) (by decide +kernel)) (by decide +kernel)
theorem qSel_X8_X8_make : (Cond.selects "ColumnHouseModel" ({ cls := "ColumnHouseModel", name := "make", desc := "(III)I" } : MethodName) ({ cls := "ColumnHouseModel", name := "make", desc := "(III)I" } : MethodName) : Cond) ∈ gtbl := gt_in (List.mem_of_getElem? (i := 566) (by decide +kernel)) (by decide +kernel)
theorem qK_X8_make : (Cond.code ({ cls := "ColumnHouseModel", name := "make", desc := "(III)I" } : MethodName) prog_10_method_22_code (4 : Nat) (Option.some FieldType.int) : Cond) ∈ gtbl := gt_in (List.mem_of_getElem? (i := 567) (by decide +kernel)) (by decide +kernel)
theorem qM_X8_102 : (Cond.methodLink "ColumnHouseModel" (102 : Nat) ({ cls := "ColumnHouseModel", name := "isColumn", desc := "(I)Z" } : MethodName) : Cond) ∈ gtbl := gt_in (List.mem_of_getElem? (i := 568) (by decide +kernel)) (by decide +kernel)
theorem qSt_X8_isColumn : (Cond.static ({ cls := "ColumnHouseModel", name := "isColumn", desc := "(I)Z" } : MethodName) : Cond) ∈ gtbl := gt_in (List.mem_of_getElem? (i := 569) (by decide +kernel)) (by decide +kernel)
theorem qK_X8_isColumn : (Cond.code ({ cls := "ColumnHouseModel", name := "isColumn", desc := "(I)Z" } : MethodName) prog_10_method_4_code (1 : Nat) (Option.some FieldType.boolean) : Cond) ∈ gtbl := gt_in (List.mem_of_getElem? (i := 570) (by decide +kernel)) (by decide +kernel)
theorem qM_X8_52 : (Cond.methodLink "ColumnHouseModel" (52 : Nat) ({ cls := "ColumnHouseModel", name := "isIn", desc := "(III)Z" } : MethodName) : Cond) ∈ gtbl := gt_in (List.mem_of_getElem? (i := 571) (by decide +kernel)) (by decide +kernel)
theorem qSt_X8_isIn : (Cond.static ({ cls := "ColumnHouseModel", name := "isIn", desc := "(III)Z" } : MethodName) : Cond) ∈ gtbl := gt_in (List.mem_of_getElem? (i := 572) (by decide +kernel)) (by decide +kernel)
theorem qK_X8_isIn : (Cond.code ({ cls := "ColumnHouseModel", name := "isIn", desc := "(III)Z" } : MethodName) prog_10_method_3_code (3 : Nat) (Option.some FieldType.boolean) : Cond) ∈ gtbl := gt_in (List.mem_of_getElem? (i := 573) (by decide +kernel)) (by decide +kernel)
theorem qM_X8_105 : (Cond.methodLink "ColumnHouseModel" (105 : Nat) ({ cls := "ColumnHouseModel", name := "refuse", desc := "(I)I" } : MethodName) : Cond) ∈ gtbl := gt_in (List.mem_of_getElem? (i := 574) (by decide +kernel)) (by decide +kernel)
theorem qI_X8_refuse : (Cond.instanceMethod ({ cls := "ColumnHouseModel", name := "refuse", desc := "(I)I" } : MethodName) : Cond) ∈ gtbl := gt_in (List.mem_of_getElem? (i := 576) (by decide +kernel)) (by decide +kernel)
theorem qK_X8_refuse : (Cond.code ({ cls := "ColumnHouseModel", name := "refuse", desc := "(I)I" } : MethodName) prog_10_method_2_code (2 : Nat) (Option.some FieldType.int) : Cond) ∈ gtbl := gt_in (List.mem_of_getElem? (i := 577) (by decide +kernel)) (by decide +kernel)
theorem qM_L_22 : (Cond.methodLink "ColumnHouseLaw" (22 : Nat) ({ cls := "ColumnHouseModel", name := "lay", desc := "(II)I" } : MethodName) : Cond) ∈ gtbl := gt_in (List.mem_of_getElem? (i := 578) (by decide +kernel)) (by decide +kernel)
theorem qI_X8_lay : (Cond.instanceMethod ({ cls := "ColumnHouseModel", name := "lay", desc := "(II)I" } : MethodName) : Cond) ∈ gtbl := gt_in (List.mem_of_getElem? (i := 579) (by decide +kernel)) (by decide +kernel)
theorem qSel_X8_X8_lay : (Cond.selects "ColumnHouseModel" ({ cls := "ColumnHouseModel", name := "lay", desc := "(II)I" } : MethodName) ({ cls := "ColumnHouseModel", name := "lay", desc := "(II)I" } : MethodName) : Cond) ∈ gtbl := gt_in (List.mem_of_getElem? (i := 580) (by decide +kernel)) (by decide +kernel)
theorem qK_X8_lay : (Cond.code ({ cls := "ColumnHouseModel", name := "lay", desc := "(II)I" } : MethodName) prog_10_method_23_code (3 : Nat) (Option.some FieldType.int) : Cond) ∈ gtbl := gt_in (List.mem_of_getElem? (i := 581) (by decide +kernel)) (by decide +kernel)
theorem qM_L_27 : (Cond.methodLink "ColumnHouseLaw" (27 : Nat) ({ cls := "ColumnHouseModel", name := "places", desc := "(I)I" } : MethodName) : Cond) ∈ gtbl := gt_in (List.mem_of_getElem? (i := 582) (by decide +kernel)) (by decide +kernel)
theorem qI_X8_places : (Cond.instanceMethod ({ cls := "ColumnHouseModel", name := "places", desc := "(I)I" } : MethodName) : Cond) ∈ gtbl := gt_in (List.mem_of_getElem? (i := 583) (by decide +kernel)) (by decide +kernel)
theorem qSel_X8_X8_places : (Cond.selects "ColumnHouseModel" ({ cls := "ColumnHouseModel", name := "places", desc := "(I)I" } : MethodName) ({ cls := "ColumnHouseModel", name := "places", desc := "(I)I" } : MethodName) : Cond) ∈ gtbl := gt_in (List.mem_of_getElem? (i := 584) (by decide +kernel)) (by decide +kernel)
theorem qK_X8_places : (Cond.code ({ cls := "ColumnHouseModel", name := "places", desc := "(I)I" } : MethodName) prog_10_method_24_code (3 : Nat) (Option.some FieldType.int) : Cond) ∈ gtbl := gt_in (List.mem_of_getElem? (i := 585) (by decide +kernel)) (by decide +kernel)
theorem qM_X8_111 : (Cond.methodLink "ColumnHouseModel" (111 : Nat) ({ cls := "ColumnHouseModel", name := "reasonOfRow", desc := "(I)I" } : MethodName) : Cond) ∈ gtbl := gt_in (List.mem_of_getElem? (i := 586) (by decide +kernel)) (by decide +kernel)
theorem qI_X8_reasonOfRow : (Cond.instanceMethod ({ cls := "ColumnHouseModel", name := "reasonOfRow", desc := "(I)I" } : MethodName) : Cond) ∈ gtbl := gt_in (List.mem_of_getElem? (i := 588) (by decide +kernel)) (by decide +kernel)
theorem qK_X8_reasonOfRow : (Cond.code ({ cls := "ColumnHouseModel", name := "reasonOfRow", desc := "(I)I" } : MethodName) prog_10_method_9_code (2 : Nat) (Option.some FieldType.int) : Cond) ∈ gtbl := gt_in (List.mem_of_getElem? (i := 589) (by decide +kernel)) (by decide +kernel)
theorem qM_X8_56 : (Cond.methodLink "ColumnHouseModel" (56 : Nat) ({ cls := "ColumnHouseModel", name := "in", desc := "(I)I" } : MethodName) : Cond) ∈ gtbl := gt_in (List.mem_of_getElem? (i := 590) (by decide +kernel)) (by decide +kernel)
theorem qI_X8_in : (Cond.instanceMethod ({ cls := "ColumnHouseModel", name := "in", desc := "(I)I" } : MethodName) : Cond) ∈ gtbl := gt_in (List.mem_of_getElem? (i := 592) (by decide +kernel)) (by decide +kernel)
theorem qK_X8_in : (Cond.code ({ cls := "ColumnHouseModel", name := "in", desc := "(I)I" } : MethodName) prog_10_method_5_code (2 : Nat) (Option.some FieldType.int) : Cond) ∈ gtbl := gt_in (List.mem_of_getElem? (i := 593) (by decide +kernel)) (by decide +kernel)
theorem qM_X8_60 : (Cond.methodLink "ColumnHouseModel" (60 : Nat) ({ cls := "ColumnHouseModel", name := "isRow", desc := "(I)Z" } : MethodName) : Cond) ∈ gtbl := gt_in (List.mem_of_getElem? (i := 594) (by decide +kernel)) (by decide +kernel)
theorem qI_X8_isRow : (Cond.instanceMethod ({ cls := "ColumnHouseModel", name := "isRow", desc := "(I)Z" } : MethodName) : Cond) ∈ gtbl := gt_in (List.mem_of_getElem? (i := 596) (by decide +kernel)) (by decide +kernel)
theorem qK_X8_isRow : (Cond.code ({ cls := "ColumnHouseModel", name := "isRow", desc := "(I)Z" } : MethodName) prog_10_method_6_code (2 : Nat) (Option.some FieldType.boolean) : Cond) ∈ gtbl := gt_in (List.mem_of_getElem? (i := 597) (by decide +kernel)) (by decide +kernel)
theorem qM_L_31 : (Cond.methodLink "ColumnHouseLaw" (31 : Nat) ({ cls := "ColumnHouseModel", name := "kind", desc := "(I)I" } : MethodName) : Cond) ∈ gtbl := gt_in (List.mem_of_getElem? (i := 598) (by decide +kernel)) (by decide +kernel)
theorem qI_X8_kind : (Cond.instanceMethod ({ cls := "ColumnHouseModel", name := "kind", desc := "(I)I" } : MethodName) : Cond) ∈ gtbl := gt_in (List.mem_of_getElem? (i := 599) (by decide +kernel)) (by decide +kernel)
theorem qSel_X8_X8_kind : (Cond.selects "ColumnHouseModel" ({ cls := "ColumnHouseModel", name := "kind", desc := "(I)I" } : MethodName) ({ cls := "ColumnHouseModel", name := "kind", desc := "(I)I" } : MethodName) : Cond) ∈ gtbl := gt_in (List.mem_of_getElem? (i := 600) (by decide +kernel)) (by decide +kernel)
theorem qK_X8_kind : (Cond.code ({ cls := "ColumnHouseModel", name := "kind", desc := "(I)I" } : MethodName) prog_10_method_25_code (2 : Nat) (Option.some FieldType.int) : Cond) ∈ gtbl := gt_in (List.mem_of_getElem? (i := 601) (by decide +kernel)) (by decide +kernel)
theorem qM_L_35 : (Cond.methodLink "ColumnHouseLaw" (35 : Nat) ({ cls := "ColumnHouseModel", name := "tag", desc := "(I)I" } : MethodName) : Cond) ∈ gtbl := gt_in (List.mem_of_getElem? (i := 602) (by decide +kernel)) (by decide +kernel)
theorem qI_X8_tag : (Cond.instanceMethod ({ cls := "ColumnHouseModel", name := "tag", desc := "(I)I" } : MethodName) : Cond) ∈ gtbl := gt_in (List.mem_of_getElem? (i := 603) (by decide +kernel)) (by decide +kernel)
theorem qSel_X8_X8_tag : (Cond.selects "ColumnHouseModel" ({ cls := "ColumnHouseModel", name := "tag", desc := "(I)I" } : MethodName) ({ cls := "ColumnHouseModel", name := "tag", desc := "(I)I" } : MethodName) : Cond) ∈ gtbl := gt_in (List.mem_of_getElem? (i := 604) (by decide +kernel)) (by decide +kernel)
theorem qK_X8_tag : (Cond.code ({ cls := "ColumnHouseModel", name := "tag", desc := "(I)I" } : MethodName) prog_10_method_27_code (2 : Nat) (Option.some FieldType.int) : Cond) ∈ gtbl := gt_in (List.mem_of_getElem? (i := 605) (by decide +kernel)) (by decide +kernel)
theorem qM_X8_114 : (Cond.methodLink "ColumnHouseModel" (114 : Nat) ({ cls := "ColumnHouseModel", name := "isCard", desc := "(I)Z" } : MethodName) : Cond) ∈ gtbl := gt_in (List.mem_of_getElem? (i := 606) (by decide +kernel)) (by decide +kernel)
theorem qI_X8_isCard : (Cond.instanceMethod ({ cls := "ColumnHouseModel", name := "isCard", desc := "(I)Z" } : MethodName) : Cond) ∈ gtbl := gt_in (List.mem_of_getElem? (i := 608) (by decide +kernel)) (by decide +kernel)
theorem qK_X8_isCard : (Cond.code ({ cls := "ColumnHouseModel", name := "isCard", desc := "(I)Z" } : MethodName) prog_10_method_26_code (2 : Nat) (Option.some FieldType.boolean) : Cond) ∈ gtbl := gt_in (List.mem_of_getElem? (i := 609) (by decide +kernel)) (by decide +kernel)
theorem qM_L_39 : (Cond.methodLink "ColumnHouseLaw" (39 : Nat) ({ cls := "ColumnHouseModel", name := "load", desc := "(I)I" } : MethodName) : Cond) ∈ gtbl := gt_in (List.mem_of_getElem? (i := 610) (by decide +kernel)) (by decide +kernel)
theorem qI_X8_load : (Cond.instanceMethod ({ cls := "ColumnHouseModel", name := "load", desc := "(I)I" } : MethodName) : Cond) ∈ gtbl := gt_in (List.mem_of_getElem? (i := 611) (by decide +kernel)) (by decide +kernel)
theorem qSel_X8_X8_load : (Cond.selects "ColumnHouseModel" ({ cls := "ColumnHouseModel", name := "load", desc := "(I)I" } : MethodName) ({ cls := "ColumnHouseModel", name := "load", desc := "(I)I" } : MethodName) : Cond) ∈ gtbl := gt_in (List.mem_of_getElem? (i := 612) (by decide +kernel)) (by decide +kernel)
theorem qK_X8_load : (Cond.code ({ cls := "ColumnHouseModel", name := "load", desc := "(I)I" } : MethodName) prog_10_method_28_code (2 : Nat) (Option.some FieldType.int) : Cond) ∈ gtbl := gt_in (List.mem_of_getElem? (i := 613) (by decide +kernel)) (by decide +kernel)
theorem qM_L_44 : (Cond.methodLink "ColumnHouseLaw" (44 : Nat) ({ cls := "ColumnHouseModel", name := "put", desc := "(IIIII)I" } : MethodName) : Cond) ∈ gtbl := gt_in (List.mem_of_getElem? (i := 614) (by decide +kernel)) (by decide +kernel)
theorem qI_X8_put : (Cond.instanceMethod ({ cls := "ColumnHouseModel", name := "put", desc := "(IIIII)I" } : MethodName) : Cond) ∈ gtbl := gt_in (List.mem_of_getElem? (i := 615) (by decide +kernel)) (by decide +kernel)
theorem qSel_X8_X8_put : (Cond.selects "ColumnHouseModel" ({ cls := "ColumnHouseModel", name := "put", desc := "(IIIII)I" } : MethodName) ({ cls := "ColumnHouseModel", name := "put", desc := "(IIIII)I" } : MethodName) : Cond) ∈ gtbl := gt_in (List.mem_of_getElem? (i := 616) (by decide +kernel)) (by decide +kernel)
theorem qK_X8_put : (Cond.code ({ cls := "ColumnHouseModel", name := "put", desc := "(IIIII)I" } : MethodName) prog_10_method_30_code (7 : Nat) (Option.some FieldType.int) : Cond) ∈ gtbl := gt_in (List.mem_of_getElem? (i := 617) (by decide +kernel)) (by decide +kernel)
theorem qM_X8_120 : (Cond.methodLink "ColumnHouseModel" (120 : Nat) ({ cls := "ColumnHouseModel", name := "reasonOfPlace", desc := "(II)I" } : MethodName) : Cond) ∈ gtbl := gt_in (List.mem_of_getElem? (i := 618) (by decide +kernel)) (by decide +kernel)
theorem qI_X8_reasonOfPlace : (Cond.instanceMethod ({ cls := "ColumnHouseModel", name := "reasonOfPlace", desc := "(II)I" } : MethodName) : Cond) ∈ gtbl := gt_in (List.mem_of_getElem? (i := 620) (by decide +kernel)) (by decide +kernel)
theorem qK_X8_reasonOfPlace : (Cond.code ({ cls := "ColumnHouseModel", name := "reasonOfPlace", desc := "(II)I" } : MethodName) prog_10_method_29_code (4 : Nat) (Option.some FieldType.int) : Cond) ∈ gtbl := gt_in (List.mem_of_getElem? (i := 621) (by decide +kernel)) (by decide +kernel)
theorem qM_X8_117 : (Cond.methodLink "ColumnHouseModel" (117 : Nat) ({ cls := "ColumnHouseModel", name := "hasPlace", desc := "(II)Z" } : MethodName) : Cond) ∈ gtbl := gt_in (List.mem_of_getElem? (i := 622) (by decide +kernel)) (by decide +kernel)
theorem qI_X8_hasPlace : (Cond.instanceMethod ({ cls := "ColumnHouseModel", name := "hasPlace", desc := "(II)Z" } : MethodName) : Cond) ∈ gtbl := gt_in (List.mem_of_getElem? (i := 624) (by decide +kernel)) (by decide +kernel)
theorem qK_X8_hasPlace : (Cond.code ({ cls := "ColumnHouseModel", name := "hasPlace", desc := "(II)Z" } : MethodName) prog_10_method_8_code (3 : Nat) (Option.some FieldType.boolean) : Cond) ∈ gtbl := gt_in (List.mem_of_getElem? (i := 625) (by decide +kernel)) (by decide +kernel)
theorem qM_X8_124 : (Cond.methodLink "ColumnHouseModel" (124 : Nat) ({ cls := "ColumnHouseModel", name := "tell", desc := "(III)V" } : MethodName) : Cond) ∈ gtbl := gt_in (List.mem_of_getElem? (i := 626) (by decide +kernel)) (by decide +kernel)
theorem qI_X8_tell : (Cond.instanceMethod ({ cls := "ColumnHouseModel", name := "tell", desc := "(III)V" } : MethodName) : Cond) ∈ gtbl := gt_in (List.mem_of_getElem? (i := 628) (by decide +kernel)) (by decide +kernel)
theorem qK_X8_tell : (Cond.code ({ cls := "ColumnHouseModel", name := "tell", desc := "(III)V" } : MethodName) prog_10_method_11_code (6 : Nat) (Option.none : Option FieldType) : Cond) ∈ gtbl := gt_in (List.mem_of_getElem? (i := 629) (by decide +kernel)) (by decide +kernel)
theorem qKL_X8_64 : (Cond.constantLong "ColumnHouseModel" (64 : Nat) (4294967295 : Int64) : Cond) ∈ gtbl := gt_in (List.mem_of_getElem? (i := 630) (by decide +kernel)) (by decide +kernel)
theorem qKF_X8_77 : (Cond.constantFloat "ColumnHouseModel" (77 : Nat) (1090519040 : UInt32) : Cond) ∈ gtbl := gt_in (List.mem_of_getElem? (i := 631) (by decide +kernel)) (by decide +kernel)
theorem qKD_X8_78 : (Cond.constantDouble "ColumnHouseModel" (78 : Nat) (4620693217682128896 : UInt64) : Cond) ∈ gtbl := gt_in (List.mem_of_getElem? (i := 632) (by decide +kernel)) (by decide +kernel)
theorem qM_X8_128 : (Cond.methodLink "ColumnHouseModel" (128 : Nat) ({ cls := "ColumnHouseModel", name := "goesIn", desc := "(I)Z" } : MethodName) : Cond) ∈ gtbl := gt_in (List.mem_of_getElem? (i := 633) (by decide +kernel)) (by decide +kernel)
theorem qI_X8_goesIn : (Cond.instanceMethod ({ cls := "ColumnHouseModel", name := "goesIn", desc := "(I)Z" } : MethodName) : Cond) ∈ gtbl := gt_in (List.mem_of_getElem? (i := 635) (by decide +kernel)) (by decide +kernel)
theorem qK_X8_goesIn : (Cond.code ({ cls := "ColumnHouseModel", name := "goesIn", desc := "(I)Z" } : MethodName) prog_10_method_21_code (3 : Nat) (Option.some FieldType.boolean) : Cond) ∈ gtbl := gt_in (List.mem_of_getElem? (i := 636) (by decide +kernel)) (by decide +kernel)
theorem qM_X8_91 : (Cond.methodLink "ColumnHouseModel" (91 : Nat) ({ cls := "ColumnHouseModel", name := "isPlain", desc := "(I)Z" } : MethodName) : Cond) ∈ gtbl := gt_in (List.mem_of_getElem? (i := 637) (by decide +kernel)) (by decide +kernel)
theorem qI_X8_isPlain : (Cond.instanceMethod ({ cls := "ColumnHouseModel", name := "isPlain", desc := "(I)Z" } : MethodName) : Cond) ∈ gtbl := gt_in (List.mem_of_getElem? (i := 639) (by decide +kernel)) (by decide +kernel)
theorem qK_X8_isPlain : (Cond.code ({ cls := "ColumnHouseModel", name := "isPlain", desc := "(I)Z" } : MethodName) prog_10_method_7_code (2 : Nat) (Option.some FieldType.boolean) : Cond) ∈ gtbl := gt_in (List.mem_of_getElem? (i := 640) (by decide +kernel)) (by decide +kernel)
theorem qM_X8_94 : (Cond.methodLink "ColumnHouseModel" (94 : Nat) ({ cls := "ColumnHouseModel", name := "goesInto", desc := "(II)Z" } : MethodName) : Cond) ∈ gtbl := gt_in (List.mem_of_getElem? (i := 641) (by decide +kernel)) (by decide +kernel)
theorem qI_X8_goesInto : (Cond.instanceMethod ({ cls := "ColumnHouseModel", name := "goesInto", desc := "(II)Z" } : MethodName) : Cond) ∈ gtbl := gt_in (List.mem_of_getElem? (i := 643) (by decide +kernel)) (by decide +kernel)
theorem qK_X8_goesInto : (Cond.code ({ cls := "ColumnHouseModel", name := "goesInto", desc := "(II)Z" } : MethodName) prog_10_method_13_code (3 : Nat) (Option.some FieldType.boolean) : Cond) ∈ gtbl := gt_in (List.mem_of_getElem? (i := 644) (by decide +kernel)) (by decide +kernel)
theorem qM_X8_98 : (Cond.methodLink "ColumnHouseModel" (98 : Nat) ({ cls := "ColumnHouseModel", name := "fits", desc := "(IJ)Z" } : MethodName) : Cond) ∈ gtbl := gt_in (List.mem_of_getElem? (i := 645) (by decide +kernel)) (by decide +kernel)
theorem qI_X8_fits : (Cond.instanceMethod ({ cls := "ColumnHouseModel", name := "fits", desc := "(IJ)Z" } : MethodName) : Cond) ∈ gtbl := gt_in (List.mem_of_getElem? (i := 647) (by decide +kernel)) (by decide +kernel)
theorem qK_X8_fits : (Cond.code ({ cls := "ColumnHouseModel", name := "fits", desc := "(IJ)Z" } : MethodName) prog_10_method_20_code (5 : Nat) (Option.some FieldType.boolean) : Cond) ∈ gtbl := gt_in (List.mem_of_getElem? (i := 648) (by decide +kernel)) (by decide +kernel)
theorem qM_X8_131 : (Cond.methodLink "ColumnHouseModel" (131 : Nat) ({ cls := "ColumnHouseModel", name := "widen", desc := "(I)V" } : MethodName) : Cond) ∈ gtbl := gt_in (List.mem_of_getElem? (i := 649) (by decide +kernel)) (by decide +kernel)
theorem qI_X8_widen : (Cond.instanceMethod ({ cls := "ColumnHouseModel", name := "widen", desc := "(I)V" } : MethodName) : Cond) ∈ gtbl := gt_in (List.mem_of_getElem? (i := 651) (by decide +kernel)) (by decide +kernel)
theorem qK_X8_widen : (Cond.code ({ cls := "ColumnHouseModel", name := "widen", desc := "(I)V" } : MethodName) prog_10_method_14_code (2 : Nat) (Option.none : Option FieldType) : Cond) ∈ gtbl := gt_in (List.mem_of_getElem? (i := 652) (by decide +kernel)) (by decide +kernel)
theorem qM_X8_135 : (Cond.methodLink "ColumnHouseModel" (135 : Nat) ({ cls := "ColumnHouseModel", name := "set", desc := "(II)V" } : MethodName) : Cond) ∈ gtbl := gt_in (List.mem_of_getElem? (i := 653) (by decide +kernel)) (by decide +kernel)
theorem qI_X8_set : (Cond.instanceMethod ({ cls := "ColumnHouseModel", name := "set", desc := "(II)V" } : MethodName) : Cond) ∈ gtbl := gt_in (List.mem_of_getElem? (i := 655) (by decide +kernel)) (by decide +kernel)
theorem qK_X8_set : (Cond.code ({ cls := "ColumnHouseModel", name := "set", desc := "(II)V" } : MethodName) prog_10_method_15_code (3 : Nat) (Option.none : Option FieldType) : Cond) ∈ gtbl := gt_in (List.mem_of_getElem? (i := 656) (by decide +kernel)) (by decide +kernel)
theorem qM_L_48 : (Cond.methodLink "ColumnHouseLaw" (48 : Nat) ({ cls := "ColumnHouseModel", name := "putBoxed", desc := "(IIIII)I" } : MethodName) : Cond) ∈ gtbl := gt_in (List.mem_of_getElem? (i := 657) (by decide +kernel)) (by decide +kernel)
theorem qI_X8_putBoxed : (Cond.instanceMethod ({ cls := "ColumnHouseModel", name := "putBoxed", desc := "(IIIII)I" } : MethodName) : Cond) ∈ gtbl := gt_in (List.mem_of_getElem? (i := 658) (by decide +kernel)) (by decide +kernel)
theorem qSel_X8_X8_putBoxed : (Cond.selects "ColumnHouseModel" ({ cls := "ColumnHouseModel", name := "putBoxed", desc := "(IIIII)I" } : MethodName) ({ cls := "ColumnHouseModel", name := "putBoxed", desc := "(IIIII)I" } : MethodName) : Cond) ∈ gtbl := gt_in (List.mem_of_getElem? (i := 659) (by decide +kernel)) (by decide +kernel)
theorem qK_X8_putBoxed : (Cond.code ({ cls := "ColumnHouseModel", name := "putBoxed", desc := "(IIIII)I" } : MethodName) prog_10_method_31_code (6 : Nat) (Option.some FieldType.int) : Cond) ∈ gtbl := gt_in (List.mem_of_getElem? (i := 660) (by decide +kernel)) (by decide +kernel)
theorem qM_X8_139 : (Cond.methodLink "ColumnHouseModel" (139 : Nat) ({ cls := "ColumnHouseModel", name := "put", desc := "(IIIII)I" } : MethodName) : Cond) ∈ gtbl := gt_in (List.mem_of_getElem? (i := 661) (by decide +kernel)) (by decide +kernel)
theorem qM_L_52 : (Cond.methodLink "ColumnHouseLaw" (52 : Nat) ({ cls := "ColumnHouseModel", name := "putThing", desc := "(III)I" } : MethodName) : Cond) ∈ gtbl := gt_in (List.mem_of_getElem? (i := 662) (by decide +kernel)) (by decide +kernel)
theorem qI_X8_putThing : (Cond.instanceMethod ({ cls := "ColumnHouseModel", name := "putThing", desc := "(III)I" } : MethodName) : Cond) ∈ gtbl := gt_in (List.mem_of_getElem? (i := 663) (by decide +kernel)) (by decide +kernel)
theorem qSel_X8_X8_putThing : (Cond.selects "ColumnHouseModel" ({ cls := "ColumnHouseModel", name := "putThing", desc := "(III)I" } : MethodName) ({ cls := "ColumnHouseModel", name := "putThing", desc := "(III)I" } : MethodName) : Cond) ∈ gtbl := gt_in (List.mem_of_getElem? (i := 664) (by decide +kernel)) (by decide +kernel)
theorem qK_X8_putThing : (Cond.code ({ cls := "ColumnHouseModel", name := "putThing", desc := "(III)I" } : MethodName) prog_10_method_32_code (5 : Nat) (Option.some FieldType.int) : Cond) ∈ gtbl := gt_in (List.mem_of_getElem? (i := 665) (by decide +kernel)) (by decide +kernel)
theorem qM_L_57 : (Cond.methodLink "ColumnHouseLaw" (57 : Nat) ({ cls := "ColumnHouseModel", name := "number", desc := "(III)J" } : MethodName) : Cond) ∈ gtbl := gt_in (List.mem_of_getElem? (i := 666) (by decide +kernel)) (by decide +kernel)
theorem qI_X8_number : (Cond.instanceMethod ({ cls := "ColumnHouseModel", name := "number", desc := "(III)J" } : MethodName) : Cond) ∈ gtbl := gt_in (List.mem_of_getElem? (i := 667) (by decide +kernel)) (by decide +kernel)
theorem qSel_X8_X8_number : (Cond.selects "ColumnHouseModel" ({ cls := "ColumnHouseModel", name := "number", desc := "(III)J" } : MethodName) ({ cls := "ColumnHouseModel", name := "number", desc := "(III)J" } : MethodName) : Cond) ∈ gtbl := gt_in (List.mem_of_getElem? (i := 668) (by decide +kernel)) (by decide +kernel)
theorem qK_X8_number : (Cond.code ({ cls := "ColumnHouseModel", name := "number", desc := "(III)J" } : MethodName) prog_10_method_34_code (5 : Nat) (Option.some FieldType.long) : Cond) ∈ gtbl := gt_in (List.mem_of_getElem? (i := 669) (by decide +kernel)) (by decide +kernel)
theorem qM_X8_146 : (Cond.methodLink "ColumnHouseModel" (146 : Nat) ({ cls := "ColumnHouseModel", name := "reasonOfValue", desc := "(III)I" } : MethodName) : Cond) ∈ gtbl := gt_in (List.mem_of_getElem? (i := 670) (by decide +kernel)) (by decide +kernel)
theorem qI_X8_reasonOfValue : (Cond.instanceMethod ({ cls := "ColumnHouseModel", name := "reasonOfValue", desc := "(III)I" } : MethodName) : Cond) ∈ gtbl := gt_in (List.mem_of_getElem? (i := 672) (by decide +kernel)) (by decide +kernel)
theorem qK_X8_reasonOfValue : (Cond.code ({ cls := "ColumnHouseModel", name := "reasonOfValue", desc := "(III)I" } : MethodName) prog_10_method_33_code (5 : Nat) (Option.some FieldType.int) : Cond) ∈ gtbl := gt_in (List.mem_of_getElem? (i := 673) (by decide +kernel)) (by decide +kernel)
theorem qM_X8_143 : (Cond.methodLink "ColumnHouseModel" (143 : Nat) ({ cls := "ColumnHouseModel", name := "get", desc := "(II)V" } : MethodName) : Cond) ∈ gtbl := gt_in (List.mem_of_getElem? (i := 674) (by decide +kernel)) (by decide +kernel)
theorem qI_X8_get : (Cond.instanceMethod ({ cls := "ColumnHouseModel", name := "get", desc := "(II)V" } : MethodName) : Cond) ∈ gtbl := gt_in (List.mem_of_getElem? (i := 676) (by decide +kernel)) (by decide +kernel)
theorem qK_X8_get : (Cond.code ({ cls := "ColumnHouseModel", name := "get", desc := "(II)V" } : MethodName) prog_10_method_12_code (3 : Nat) (Option.none : Option FieldType) : Cond) ∈ gtbl := gt_in (List.mem_of_getElem? (i := 677) (by decide +kernel)) (by decide +kernel)
theorem qM_L_62 : (Cond.methodLink "ColumnHouseLaw" (62 : Nat) ({ cls := "ColumnHouseModel", name := "point", desc := "(III)D" } : MethodName) : Cond) ∈ gtbl := gt_in (List.mem_of_getElem? (i := 678) (by decide +kernel)) (by decide +kernel)
theorem qI_X8_point : (Cond.instanceMethod ({ cls := "ColumnHouseModel", name := "point", desc := "(III)D" } : MethodName) : Cond) ∈ gtbl := gt_in (List.mem_of_getElem? (i := 679) (by decide +kernel)) (by decide +kernel)
theorem qSel_X8_X8_point : (Cond.selects "ColumnHouseModel" ({ cls := "ColumnHouseModel", name := "point", desc := "(III)D" } : MethodName) ({ cls := "ColumnHouseModel", name := "point", desc := "(III)D" } : MethodName) : Cond) ∈ gtbl := gt_in (List.mem_of_getElem? (i := 680) (by decide +kernel)) (by decide +kernel)
theorem qK_X8_point : (Cond.code ({ cls := "ColumnHouseModel", name := "point", desc := "(III)D" } : MethodName) prog_10_method_35_code (5 : Nat) (Option.some FieldType.double) : Cond) ∈ gtbl := gt_in (List.mem_of_getElem? (i := 681) (by decide +kernel)) (by decide +kernel)
theorem qM_L_66 : (Cond.methodLink "ColumnHouseLaw" (66 : Nat) ({ cls := "ColumnHouseModel", name := "what", desc := "(II)I" } : MethodName) : Cond) ∈ gtbl := gt_in (List.mem_of_getElem? (i := 682) (by decide +kernel)) (by decide +kernel)
theorem qI_X8_what : (Cond.instanceMethod ({ cls := "ColumnHouseModel", name := "what", desc := "(II)I" } : MethodName) : Cond) ∈ gtbl := gt_in (List.mem_of_getElem? (i := 683) (by decide +kernel)) (by decide +kernel)
theorem qSel_X8_X8_what : (Cond.selects "ColumnHouseModel" ({ cls := "ColumnHouseModel", name := "what", desc := "(II)I" } : MethodName) ({ cls := "ColumnHouseModel", name := "what", desc := "(II)I" } : MethodName) : Cond) ∈ gtbl := gt_in (List.mem_of_getElem? (i := 684) (by decide +kernel)) (by decide +kernel)
theorem qK_X8_what : (Cond.code ({ cls := "ColumnHouseModel", name := "what", desc := "(II)I" } : MethodName) prog_10_method_37_code (4 : Nat) (Option.some FieldType.int) : Cond) ∈ gtbl := gt_in (List.mem_of_getElem? (i := 685) (by decide +kernel)) (by decide +kernel)
theorem qM_X8_150 : (Cond.methodLink "ColumnHouseModel" (150 : Nat) ({ cls := "ColumnHouseModel", name := "kindOf", desc := "(J)I" } : MethodName) : Cond) ∈ gtbl := gt_in (List.mem_of_getElem? (i := 686) (by decide +kernel)) (by decide +kernel)
theorem qI_X8_kindOf : (Cond.instanceMethod ({ cls := "ColumnHouseModel", name := "kindOf", desc := "(J)I" } : MethodName) : Cond) ∈ gtbl := gt_in (List.mem_of_getElem? (i := 688) (by decide +kernel)) (by decide +kernel)
theorem qK_X8_kindOf : (Cond.code ({ cls := "ColumnHouseModel", name := "kindOf", desc := "(J)I" } : MethodName) prog_10_method_36_code (3 : Nat) (Option.some FieldType.int) : Cond) ∈ gtbl := gt_in (List.mem_of_getElem? (i := 689) (by decide +kernel)) (by decide +kernel)
theorem qM_L_70 : (Cond.methodLink "ColumnHouseLaw" (70 : Nat) ({ cls := "ColumnHouseModel", name := "take", desc := "(III)I" } : MethodName) : Cond) ∈ gtbl := gt_in (List.mem_of_getElem? (i := 690) (by decide +kernel)) (by decide +kernel)
theorem qI_X8_take : (Cond.instanceMethod ({ cls := "ColumnHouseModel", name := "take", desc := "(III)I" } : MethodName) : Cond) ∈ gtbl := gt_in (List.mem_of_getElem? (i := 691) (by decide +kernel)) (by decide +kernel)
theorem qSel_X8_X8_take : (Cond.selects "ColumnHouseModel" ({ cls := "ColumnHouseModel", name := "take", desc := "(III)I" } : MethodName) ({ cls := "ColumnHouseModel", name := "take", desc := "(III)I" } : MethodName) : Cond) ∈ gtbl := gt_in (List.mem_of_getElem? (i := 692) (by decide +kernel)) (by decide +kernel)
theorem qK_X8_take : (Cond.code ({ cls := "ColumnHouseModel", name := "take", desc := "(III)I" } : MethodName) prog_10_method_38_code (5 : Nat) (Option.some FieldType.int) : Cond) ∈ gtbl := gt_in (List.mem_of_getElem? (i := 693) (by decide +kernel)) (by decide +kernel)
theorem qM_L_74 : (Cond.methodLink "ColumnHouseLaw" (74 : Nat) ({ cls := "ColumnHouseModel", name := "copy", desc := "(II)I" } : MethodName) : Cond) ∈ gtbl := gt_in (List.mem_of_getElem? (i := 694) (by decide +kernel)) (by decide +kernel)
theorem qI_X8_copy : (Cond.instanceMethod ({ cls := "ColumnHouseModel", name := "copy", desc := "(II)I" } : MethodName) : Cond) ∈ gtbl := gt_in (List.mem_of_getElem? (i := 695) (by decide +kernel)) (by decide +kernel)
theorem qSel_X8_X8_copy : (Cond.selects "ColumnHouseModel" ({ cls := "ColumnHouseModel", name := "copy", desc := "(II)I" } : MethodName) ({ cls := "ColumnHouseModel", name := "copy", desc := "(II)I" } : MethodName) : Cond) ∈ gtbl := gt_in (List.mem_of_getElem? (i := 696) (by decide +kernel)) (by decide +kernel)
theorem qK_X8_copy : (Cond.code ({ cls := "ColumnHouseModel", name := "copy", desc := "(II)I" } : MethodName) prog_10_method_40_code (6 : Nat) (Option.some FieldType.int) : Cond) ∈ gtbl := gt_in (List.mem_of_getElem? (i := 697) (by decide +kernel)) (by decide +kernel)
theorem qM_X8_154 : (Cond.methodLink "ColumnHouseModel" (154 : Nat) ({ cls := "ColumnHouseModel", name := "reasonOfRows", desc := "(III)I" } : MethodName) : Cond) ∈ gtbl := gt_in (List.mem_of_getElem? (i := 698) (by decide +kernel)) (by decide +kernel)
theorem qI_X8_reasonOfRows : (Cond.instanceMethod ({ cls := "ColumnHouseModel", name := "reasonOfRows", desc := "(III)I" } : MethodName) : Cond) ∈ gtbl := gt_in (List.mem_of_getElem? (i := 700) (by decide +kernel)) (by decide +kernel)
theorem qK_X8_reasonOfRows : (Cond.code ({ cls := "ColumnHouseModel", name := "reasonOfRows", desc := "(III)I" } : MethodName) prog_10_method_10_code (4 : Nat) (Option.some FieldType.int) : Cond) ∈ gtbl := gt_in (List.mem_of_getElem? (i := 701) (by decide +kernel)) (by decide +kernel)
theorem qM_X8_157 : (Cond.methodLink "ColumnHouseModel" (157 : Nat) ({ cls := "ColumnHouseModel", name := "carry", desc := "(III)I" } : MethodName) : Cond) ∈ gtbl := gt_in (List.mem_of_getElem? (i := 702) (by decide +kernel)) (by decide +kernel)
theorem qI_X8_carry : (Cond.instanceMethod ({ cls := "ColumnHouseModel", name := "carry", desc := "(III)I" } : MethodName) : Cond) ∈ gtbl := gt_in (List.mem_of_getElem? (i := 704) (by decide +kernel)) (by decide +kernel)
theorem qK_X8_carry : (Cond.code ({ cls := "ColumnHouseModel", name := "carry", desc := "(III)I" } : MethodName) prog_10_method_39_code (5 : Nat) (Option.some FieldType.int) : Cond) ∈ gtbl := gt_in (List.mem_of_getElem? (i := 705) (by decide +kernel)) (by decide +kernel)
theorem qM_L_78 : (Cond.methodLink "ColumnHouseLaw" (78 : Nat) ({ cls := "ColumnHouseModel", name := "gather", desc := "(III)I" } : MethodName) : Cond) ∈ gtbl := gt_in (List.mem_of_getElem? (i := 706) (by decide +kernel)) (by decide +kernel)
theorem qI_X8_gather : (Cond.instanceMethod ({ cls := "ColumnHouseModel", name := "gather", desc := "(III)I" } : MethodName) : Cond) ∈ gtbl := gt_in (List.mem_of_getElem? (i := 707) (by decide +kernel)) (by decide +kernel)
theorem qSel_X8_X8_gather : (Cond.selects "ColumnHouseModel" ({ cls := "ColumnHouseModel", name := "gather", desc := "(III)I" } : MethodName) ({ cls := "ColumnHouseModel", name := "gather", desc := "(III)I" } : MethodName) : Cond) ∈ gtbl := gt_in (List.mem_of_getElem? (i := 708) (by decide +kernel)) (by decide +kernel)
theorem qK_X8_gather : (Cond.code ({ cls := "ColumnHouseModel", name := "gather", desc := "(III)I" } : MethodName) prog_10_method_42_code (7 : Nat) (Option.some FieldType.int) : Cond) ∈ gtbl := gt_in (List.mem_of_getElem? (i := 709) (by decide +kernel)) (by decide +kernel)
theorem qM_X8_160 : (Cond.methodLink "ColumnHouseModel" (160 : Nat) ({ cls := "ColumnHouseModel", name := "tellsPlaces", desc := "(I)Z" } : MethodName) : Cond) ∈ gtbl := gt_in (List.mem_of_getElem? (i := 710) (by decide +kernel)) (by decide +kernel)
theorem qI_X8_tellsPlaces : (Cond.instanceMethod ({ cls := "ColumnHouseModel", name := "tellsPlaces", desc := "(I)Z" } : MethodName) : Cond) ∈ gtbl := gt_in (List.mem_of_getElem? (i := 712) (by decide +kernel)) (by decide +kernel)
theorem qK_X8_tellsPlaces : (Cond.code ({ cls := "ColumnHouseModel", name := "tellsPlaces", desc := "(I)Z" } : MethodName) prog_10_method_41_code (2 : Nat) (Option.some FieldType.boolean) : Cond) ∈ gtbl := gt_in (List.mem_of_getElem? (i := 713) (by decide +kernel)) (by decide +kernel)
theorem qM_L_82 : (Cond.methodLink "ColumnHouseLaw" (82 : Nat) ({ cls := "ColumnHouseModel", name := "scatter", desc := "(III)I" } : MethodName) : Cond) ∈ gtbl := gt_in (List.mem_of_getElem? (i := 714) (by decide +kernel)) (by decide +kernel)
theorem qI_X8_scatter : (Cond.instanceMethod ({ cls := "ColumnHouseModel", name := "scatter", desc := "(III)I" } : MethodName) : Cond) ∈ gtbl := gt_in (List.mem_of_getElem? (i := 715) (by decide +kernel)) (by decide +kernel)
theorem qSel_X8_X8_scatter : (Cond.selects "ColumnHouseModel" ({ cls := "ColumnHouseModel", name := "scatter", desc := "(III)I" } : MethodName) ({ cls := "ColumnHouseModel", name := "scatter", desc := "(III)I" } : MethodName) : Cond) ∈ gtbl := gt_in (List.mem_of_getElem? (i := 716) (by decide +kernel)) (by decide +kernel)
theorem qK_X8_scatter : (Cond.code ({ cls := "ColumnHouseModel", name := "scatter", desc := "(III)I" } : MethodName) prog_10_method_43_code (7 : Nat) (Option.some FieldType.int) : Cond) ∈ gtbl := gt_in (List.mem_of_getElem? (i := 717) (by decide +kernel)) (by decide +kernel)
theorem qM_L_86 : (Cond.methodLink "ColumnHouseLaw" (86 : Nat) ({ cls := "ColumnHouseModel", name := "merge", desc := "(III)I" } : MethodName) : Cond) ∈ gtbl := gt_in (List.mem_of_getElem? (i := 718) (by decide +kernel)) (by decide +kernel)
theorem qI_X8_merge : (Cond.instanceMethod ({ cls := "ColumnHouseModel", name := "merge", desc := "(III)I" } : MethodName) : Cond) ∈ gtbl := gt_in (List.mem_of_getElem? (i := 719) (by decide +kernel)) (by decide +kernel)
theorem qSel_X8_X8_merge : (Cond.selects "ColumnHouseModel" ({ cls := "ColumnHouseModel", name := "merge", desc := "(III)I" } : MethodName) ({ cls := "ColumnHouseModel", name := "merge", desc := "(III)I" } : MethodName) : Cond) ∈ gtbl := gt_in (List.mem_of_getElem? (i := 720) (by decide +kernel)) (by decide +kernel)
theorem qK_X8_merge : (Cond.code ({ cls := "ColumnHouseModel", name := "merge", desc := "(III)I" } : MethodName) prog_10_method_45_code (10 : Nat) (Option.some FieldType.int) : Cond) ∈ gtbl := gt_in (List.mem_of_getElem? (i := 721) (by decide +kernel)) (by decide +kernel)
theorem qM_X8_167 : (Cond.methodLink "ColumnHouseModel" (167 : Nat) ({ cls := "ColumnHouseModel", name := "mergeAll", desc := "(II)V" } : MethodName) : Cond) ∈ gtbl := gt_in (List.mem_of_getElem? (i := 722) (by decide +kernel)) (by decide +kernel)
theorem qI_X8_mergeAll : (Cond.instanceMethod ({ cls := "ColumnHouseModel", name := "mergeAll", desc := "(II)V" } : MethodName) : Cond) ∈ gtbl := gt_in (List.mem_of_getElem? (i := 724) (by decide +kernel)) (by decide +kernel)
theorem qK_X8_mergeAll : (Cond.code ({ cls := "ColumnHouseModel", name := "mergeAll", desc := "(II)V" } : MethodName) prog_10_method_44_code (6 : Nat) (Option.none : Option FieldType) : Cond) ∈ gtbl := gt_in (List.mem_of_getElem? (i := 725) (by decide +kernel)) (by decide +kernel)
theorem qM_X8_163 : (Cond.methodLink "ColumnHouseModel" (163 : Nat) ({ cls := "ColumnHouseModel", name := "against", desc := "(IJD)I" } : MethodName) : Cond) ∈ gtbl := gt_in (List.mem_of_getElem? (i := 726) (by decide +kernel)) (by decide +kernel)
theorem qI_X8_against : (Cond.instanceMethod ({ cls := "ColumnHouseModel", name := "against", desc := "(IJD)I" } : MethodName) : Cond) ∈ gtbl := gt_in (List.mem_of_getElem? (i := 728) (by decide +kernel)) (by decide +kernel)
theorem qK_X8_against : (Cond.code ({ cls := "ColumnHouseModel", name := "against", desc := "(IJD)I" } : MethodName) prog_10_method_19_code (10 : Nat) (Option.some FieldType.int) : Cond) ∈ gtbl := gt_in (List.mem_of_getElem? (i := 729) (by decide +kernel)) (by decide +kernel)
theorem qM_X8_80 : (Cond.methodLink "ColumnHouseModel" (80 : Nat) ({ cls := "ColumnHouseModel", name := "isFloating", desc := "(I)Z" } : MethodName) : Cond) ∈ gtbl := gt_in (List.mem_of_getElem? (i := 730) (by decide +kernel)) (by decide +kernel)
theorem qSt_X8_isFloating : (Cond.static ({ cls := "ColumnHouseModel", name := "isFloating", desc := "(I)Z" } : MethodName) : Cond) ∈ gtbl := gt_in (List.mem_of_getElem? (i := 731) (by decide +kernel)) (by decide +kernel)
theorem qK_X8_isFloating : (Cond.code ({ cls := "ColumnHouseModel", name := "isFloating", desc := "(I)Z" } : MethodName) prog_10_method_16_code (1 : Nat) (Option.some FieldType.boolean) : Cond) ∈ gtbl := gt_in (List.mem_of_getElem? (i := 732) (by decide +kernel)) (by decide +kernel)
theorem qM_X8_83 : (Cond.methodLink "ColumnHouseModel" (83 : Nat) ({ cls := "ColumnHouseModel", name := "doubleOf", desc := "(IJD)D" } : MethodName) : Cond) ∈ gtbl := gt_in (List.mem_of_getElem? (i := 733) (by decide +kernel)) (by decide +kernel)
theorem qSt_X8_doubleOf : (Cond.static ({ cls := "ColumnHouseModel", name := "doubleOf", desc := "(IJD)D" } : MethodName) : Cond) ∈ gtbl := gt_in (List.mem_of_getElem? (i := 734) (by decide +kernel)) (by decide +kernel)
theorem qK_X8_doubleOf : (Cond.code ({ cls := "ColumnHouseModel", name := "doubleOf", desc := "(IJD)D" } : MethodName) prog_10_method_17_code (5 : Nat) (Option.some FieldType.double) : Cond) ∈ gtbl := gt_in (List.mem_of_getElem? (i := 735) (by decide +kernel)) (by decide +kernel)
theorem qM_X8_87 : (Cond.methodLink "ColumnHouseModel" (87 : Nat) ({ cls := "ColumnHouseModel", name := "order", desc := "(IJIJ)I" } : MethodName) : Cond) ∈ gtbl := gt_in (List.mem_of_getElem? (i := 736) (by decide +kernel)) (by decide +kernel)
theorem qSt_X8_order : (Cond.static ({ cls := "ColumnHouseModel", name := "order", desc := "(IJIJ)I" } : MethodName) : Cond) ∈ gtbl := gt_in (List.mem_of_getElem? (i := 737) (by decide +kernel)) (by decide +kernel)
theorem qK_X8_order : (Cond.code ({ cls := "ColumnHouseModel", name := "order", desc := "(IJIJ)I" } : MethodName) prog_10_method_18_code (6 : Nat) (Option.some FieldType.int) : Cond) ∈ gtbl := gt_in (List.mem_of_getElem? (i := 738) (by decide +kernel)) (by decide +kernel)
theorem qM_L_90 : (Cond.methodLink "ColumnHouseLaw" (90 : Nat) ({ cls := "ColumnHouseModel", name := "sort", desc := "(I)I" } : MethodName) : Cond) ∈ gtbl := gt_in (List.mem_of_getElem? (i := 739) (by decide +kernel)) (by decide +kernel)
theorem qI_X8_sort : (Cond.instanceMethod ({ cls := "ColumnHouseModel", name := "sort", desc := "(I)I" } : MethodName) : Cond) ∈ gtbl := gt_in (List.mem_of_getElem? (i := 740) (by decide +kernel)) (by decide +kernel)
theorem qSel_X8_X8_sort : (Cond.selects "ColumnHouseModel" ({ cls := "ColumnHouseModel", name := "sort", desc := "(I)I" } : MethodName) ({ cls := "ColumnHouseModel", name := "sort", desc := "(I)I" } : MethodName) : Cond) ∈ gtbl := gt_in (List.mem_of_getElem? (i := 741) (by decide +kernel)) (by decide +kernel)
theorem qK_X8_sort : (Cond.code ({ cls := "ColumnHouseModel", name := "sort", desc := "(I)I" } : MethodName) prog_10_method_52_code (6 : Nat) (Option.some FieldType.int) : Cond) ∈ gtbl := gt_in (List.mem_of_getElem? (i := 742) (by decide +kernel)) (by decide +kernel)
theorem qM_X8_180 : (Cond.methodLink "ColumnHouseModel" (180 : Nat) ({ cls := "ColumnHouseModel", name := "takeOut", desc := "(I)V" } : MethodName) : Cond) ∈ gtbl := gt_in (List.mem_of_getElem? (i := 743) (by decide +kernel)) (by decide +kernel)
theorem qI_X8_takeOut : (Cond.instanceMethod ({ cls := "ColumnHouseModel", name := "takeOut", desc := "(I)V" } : MethodName) : Cond) ∈ gtbl := gt_in (List.mem_of_getElem? (i := 745) (by decide +kernel)) (by decide +kernel)
theorem qK_X8_takeOut : (Cond.code ({ cls := "ColumnHouseModel", name := "takeOut", desc := "(I)V" } : MethodName) prog_10_method_51_code (3 : Nat) (Option.none : Option FieldType) : Cond) ∈ gtbl := gt_in (List.mem_of_getElem? (i := 746) (by decide +kernel)) (by decide +kernel)
theorem qM_X8_183 : (Cond.methodLink "ColumnHouseModel" (183 : Nat) ({ cls := "ColumnHouseModel", name := "isBefore", desc := "(III)Z" } : MethodName) : Cond) ∈ gtbl := gt_in (List.mem_of_getElem? (i := 747) (by decide +kernel)) (by decide +kernel)
theorem qI_X8_isBefore : (Cond.instanceMethod ({ cls := "ColumnHouseModel", name := "isBefore", desc := "(III)Z" } : MethodName) : Cond) ∈ gtbl := gt_in (List.mem_of_getElem? (i := 749) (by decide +kernel)) (by decide +kernel)
theorem qK_X8_isBefore : (Cond.code ({ cls := "ColumnHouseModel", name := "isBefore", desc := "(III)Z" } : MethodName) prog_10_method_47_code (4 : Nat) (Option.some FieldType.boolean) : Cond) ∈ gtbl := gt_in (List.mem_of_getElem? (i := 750) (by decide +kernel)) (by decide +kernel)
theorem qM_X8_172 : (Cond.methodLink "ColumnHouseModel" (172 : Nat) ({ cls := "ColumnHouseModel", name := "rankOf", desc := "(J)J" } : MethodName) : Cond) ∈ gtbl := gt_in (List.mem_of_getElem? (i := 751) (by decide +kernel)) (by decide +kernel)
theorem qI_X8_rankOf : (Cond.instanceMethod ({ cls := "ColumnHouseModel", name := "rankOf", desc := "(J)J" } : MethodName) : Cond) ∈ gtbl := gt_in (List.mem_of_getElem? (i := 753) (by decide +kernel)) (by decide +kernel)
theorem qK_X8_rankOf : (Cond.code ({ cls := "ColumnHouseModel", name := "rankOf", desc := "(J)J" } : MethodName) prog_10_method_46_code (4 : Nat) (Option.some FieldType.long) : Cond) ∈ gtbl := gt_in (List.mem_of_getElem? (i := 754) (by decide +kernel)) (by decide +kernel)
theorem qKL_X8_170 : (Cond.constantLong "ColumnHouseModel" (170 : Nat) (-4294967296 : Int64) : Cond) ∈ gtbl := gt_in (List.mem_of_getElem? (i := 755) (by decide +kernel)) (by decide +kernel)
theorem qM_X8_186 : (Cond.methodLink "ColumnHouseModel" (186 : Nat) ({ cls := "ColumnHouseModel", name := "swap", desc := "(III)V" } : MethodName) : Cond) ∈ gtbl := gt_in (List.mem_of_getElem? (i := 756) (by decide +kernel)) (by decide +kernel)
theorem qI_X8_swap : (Cond.instanceMethod ({ cls := "ColumnHouseModel", name := "swap", desc := "(III)V" } : MethodName) : Cond) ∈ gtbl := gt_in (List.mem_of_getElem? (i := 758) (by decide +kernel)) (by decide +kernel)
theorem qK_X8_swap : (Cond.code ({ cls := "ColumnHouseModel", name := "swap", desc := "(III)V" } : MethodName) prog_10_method_48_code (4 : Nat) (Option.none : Option FieldType) : Cond) ∈ gtbl := gt_in (List.mem_of_getElem? (i := 759) (by decide +kernel)) (by decide +kernel)
theorem qM_X8_189 : (Cond.methodLink "ColumnHouseModel" (189 : Nat) ({ cls := "ColumnHouseModel", name := "others", desc := "(I)I" } : MethodName) : Cond) ∈ gtbl := gt_in (List.mem_of_getElem? (i := 760) (by decide +kernel)) (by decide +kernel)
theorem qI_X8_others : (Cond.instanceMethod ({ cls := "ColumnHouseModel", name := "others", desc := "(I)I" } : MethodName) : Cond) ∈ gtbl := gt_in (List.mem_of_getElem? (i := 762) (by decide +kernel)) (by decide +kernel)
theorem qK_X8_others : (Cond.code ({ cls := "ColumnHouseModel", name := "others", desc := "(I)I" } : MethodName) prog_10_method_50_code (8 : Nat) (Option.some FieldType.int) : Cond) ∈ gtbl := gt_in (List.mem_of_getElem? (i := 763) (by decide +kernel)) (by decide +kernel)
theorem qM_X8_176 : (Cond.methodLink "ColumnHouseModel" (176 : Nat) ({ cls := "ColumnHouseModel", name := "hasMinus", desc := "(D)Z" } : MethodName) : Cond) ∈ gtbl := gt_in (List.mem_of_getElem? (i := 764) (by decide +kernel)) (by decide +kernel)
theorem qSt_X8_hasMinus : (Cond.static ({ cls := "ColumnHouseModel", name := "hasMinus", desc := "(D)Z" } : MethodName) : Cond) ∈ gtbl := gt_in (List.mem_of_getElem? (i := 765) (by decide +kernel)) (by decide +kernel)
theorem qK_X8_hasMinus : (Cond.code ({ cls := "ColumnHouseModel", name := "hasMinus", desc := "(D)Z" } : MethodName) prog_10_method_49_code (2 : Nat) (Option.some FieldType.boolean) : Cond) ∈ gtbl := gt_in (List.mem_of_getElem? (i := 766) (by decide +kernel)) (by decide +kernel)
theorem qM_L_94 : (Cond.methodLink "ColumnHouseLaw" (94 : Nat) ({ cls := "ColumnHouseModel", name := "turn", desc := "(II)I" } : MethodName) : Cond) ∈ gtbl := gt_in (List.mem_of_getElem? (i := 767) (by decide +kernel)) (by decide +kernel)
theorem qI_X8_turn : (Cond.instanceMethod ({ cls := "ColumnHouseModel", name := "turn", desc := "(II)I" } : MethodName) : Cond) ∈ gtbl := gt_in (List.mem_of_getElem? (i := 768) (by decide +kernel)) (by decide +kernel)
theorem qSel_X8_X8_turn : (Cond.selects "ColumnHouseModel" ({ cls := "ColumnHouseModel", name := "turn", desc := "(II)I" } : MethodName) ({ cls := "ColumnHouseModel", name := "turn", desc := "(II)I" } : MethodName) : Cond) ∈ gtbl := gt_in (List.mem_of_getElem? (i := 769) (by decide +kernel)) (by decide +kernel)
theorem qK_X8_turn : (Cond.code ({ cls := "ColumnHouseModel", name := "turn", desc := "(II)I" } : MethodName) prog_10_method_53_code (8 : Nat) (Option.some FieldType.int) : Cond) ∈ gtbl := gt_in (List.mem_of_getElem? (i := 770) (by decide +kernel)) (by decide +kernel)
theorem qM_L_99 : (Cond.methodLink "ColumnHouseLaw" (99 : Nat) ({ cls := "ColumnHouseModel", name := "sum", desc := "(I)J" } : MethodName) : Cond) ∈ gtbl := gt_in (List.mem_of_getElem? (i := 771) (by decide +kernel)) (by decide +kernel)
theorem qI_X8_sum : (Cond.instanceMethod ({ cls := "ColumnHouseModel", name := "sum", desc := "(I)J" } : MethodName) : Cond) ∈ gtbl := gt_in (List.mem_of_getElem? (i := 772) (by decide +kernel)) (by decide +kernel)
theorem qSel_X8_X8_sum : (Cond.selects "ColumnHouseModel" ({ cls := "ColumnHouseModel", name := "sum", desc := "(I)J" } : MethodName) ({ cls := "ColumnHouseModel", name := "sum", desc := "(I)J" } : MethodName) : Cond) ∈ gtbl := gt_in (List.mem_of_getElem? (i := 773) (by decide +kernel)) (by decide +kernel)
theorem qK_X8_sum : (Cond.code ({ cls := "ColumnHouseModel", name := "sum", desc := "(I)J" } : MethodName) prog_10_method_54_code (7 : Nat) (Option.some FieldType.long) : Cond) ∈ gtbl := gt_in (List.mem_of_getElem? (i := 774) (by decide +kernel)) (by decide +kernel)
theorem qM_L_104 : (Cond.methodLink "ColumnHouseLaw" (104 : Nat) ({ cls := "ColumnHouseModel", name := "total", desc := "(I)D" } : MethodName) : Cond) ∈ gtbl := gt_in (List.mem_of_getElem? (i := 775) (by decide +kernel)) (by decide +kernel)
theorem qI_X8_total : (Cond.instanceMethod ({ cls := "ColumnHouseModel", name := "total", desc := "(I)D" } : MethodName) : Cond) ∈ gtbl := gt_in (List.mem_of_getElem? (i := 776) (by decide +kernel)) (by decide +kernel)
theorem qSel_X8_X8_total : (Cond.selects "ColumnHouseModel" ({ cls := "ColumnHouseModel", name := "total", desc := "(I)D" } : MethodName) ({ cls := "ColumnHouseModel", name := "total", desc := "(I)D" } : MethodName) : Cond) ∈ gtbl := gt_in (List.mem_of_getElem? (i := 777) (by decide +kernel)) (by decide +kernel)
theorem qK_X8_total : (Cond.code ({ cls := "ColumnHouseModel", name := "total", desc := "(I)D" } : MethodName) prog_10_method_55_code (7 : Nat) (Option.some FieldType.double) : Cond) ∈ gtbl := gt_in (List.mem_of_getElem? (i := 778) (by decide +kernel)) (by decide +kernel)
theorem qM_L_108 : (Cond.methodLink "ColumnHouseLaw" (108 : Nat) ({ cls := "ColumnHouseModel", name := "find", desc := "(IIIII)I" } : MethodName) : Cond) ∈ gtbl := gt_in (List.mem_of_getElem? (i := 779) (by decide +kernel)) (by decide +kernel)
theorem qI_X8_find : (Cond.instanceMethod ({ cls := "ColumnHouseModel", name := "find", desc := "(IIIII)I" } : MethodName) : Cond) ∈ gtbl := gt_in (List.mem_of_getElem? (i := 780) (by decide +kernel)) (by decide +kernel)
theorem qSel_X8_X8_find : (Cond.selects "ColumnHouseModel" ({ cls := "ColumnHouseModel", name := "find", desc := "(IIIII)I" } : MethodName) ({ cls := "ColumnHouseModel", name := "find", desc := "(IIIII)I" } : MethodName) : Cond) ∈ gtbl := gt_in (List.mem_of_getElem? (i := 781) (by decide +kernel)) (by decide +kernel)
theorem qK_X8_find : (Cond.code ({ cls := "ColumnHouseModel", name := "find", desc := "(IIIII)I" } : MethodName) prog_10_method_56_code (9 : Nat) (Option.some FieldType.int) : Cond) ∈ gtbl := gt_in (List.mem_of_getElem? (i := 782) (by decide +kernel)) (by decide +kernel)
theorem qM_L_112 : (Cond.methodLink "ColumnHouseLaw" (112 : Nat) ({ cls := "ColumnHouseModel", name := "alike", desc := "(II)I" } : MethodName) : Cond) ∈ gtbl := gt_in (List.mem_of_getElem? (i := 783) (by decide +kernel)) (by decide +kernel)
theorem qI_X8_alike : (Cond.instanceMethod ({ cls := "ColumnHouseModel", name := "alike", desc := "(II)I" } : MethodName) : Cond) ∈ gtbl := gt_in (List.mem_of_getElem? (i := 784) (by decide +kernel)) (by decide +kernel)
theorem qSel_X8_X8_alike : (Cond.selects "ColumnHouseModel" ({ cls := "ColumnHouseModel", name := "alike", desc := "(II)I" } : MethodName) ({ cls := "ColumnHouseModel", name := "alike", desc := "(II)I" } : MethodName) : Cond) ∈ gtbl := gt_in (List.mem_of_getElem? (i := 785) (by decide +kernel)) (by decide +kernel)
theorem qK_X8_alike : (Cond.code ({ cls := "ColumnHouseModel", name := "alike", desc := "(II)I" } : MethodName) prog_10_method_58_code (7 : Nat) (Option.some FieldType.int) : Cond) ∈ gtbl := gt_in (List.mem_of_getElem? (i := 786) (by decide +kernel)) (by decide +kernel)
theorem qM_X8_192 : (Cond.methodLink "ColumnHouseModel" (192 : Nat) ({ cls := "ColumnHouseModel", name := "areAlike", desc := "(III)Z" } : MethodName) : Cond) ∈ gtbl := gt_in (List.mem_of_getElem? (i := 787) (by decide +kernel)) (by decide +kernel)
theorem qI_X8_areAlike : (Cond.instanceMethod ({ cls := "ColumnHouseModel", name := "areAlike", desc := "(III)Z" } : MethodName) : Cond) ∈ gtbl := gt_in (List.mem_of_getElem? (i := 789) (by decide +kernel)) (by decide +kernel)
theorem qK_X8_areAlike : (Cond.code ({ cls := "ColumnHouseModel", name := "areAlike", desc := "(III)Z" } : MethodName) prog_10_method_57_code (4 : Nat) (Option.some FieldType.boolean) : Cond) ∈ gtbl := gt_in (List.mem_of_getElem? (i := 790) (by decide +kernel)) (by decide +kernel)
theorem qM_L_117 : (Cond.methodLink "ColumnHouseLaw" (117 : Nat) ({ cls := "ColumnHouseModel", name := "why", desc := "()I" } : MethodName) : Cond) ∈ gtbl := gt_in (List.mem_of_getElem? (i := 791) (by decide +kernel)) (by decide +kernel)
theorem qI_X8_why : (Cond.instanceMethod ({ cls := "ColumnHouseModel", name := "why", desc := "()I" } : MethodName) : Cond) ∈ gtbl := gt_in (List.mem_of_getElem? (i := 792) (by decide +kernel)) (by decide +kernel)
theorem qSel_X8_X8_why : (Cond.selects "ColumnHouseModel" ({ cls := "ColumnHouseModel", name := "why", desc := "()I" } : MethodName) ({ cls := "ColumnHouseModel", name := "why", desc := "()I" } : MethodName) : Cond) ∈ gtbl := gt_in (List.mem_of_getElem? (i := 793) (by decide +kernel)) (by decide +kernel)
theorem qK_X8_why : (Cond.code ({ cls := "ColumnHouseModel", name := "why", desc := "()I" } : MethodName) prog_10_method_59_code (1 : Nat) (Option.some FieldType.int) : Cond) ∈ gtbl := gt_in (List.mem_of_getElem? (i := 794) (by decide +kernel)) (by decide +kernel)
theorem inG0 : ∀ w ∈ wsX00, w ∈ gtbl := fun w h => gt_in ((by decide +kernel : ∀ w ∈ wsX00, w ∈ lw_tbl) w h) ((by decide +kernel : ∀ w ∈ wsX00, goodWord w = true) w h)
theorem inG1 : ∀ w ∈ wsX10, w ∈ gtbl := fun w h => gt_in ((by decide +kernel : ∀ w ∈ wsX10, w ∈ lw_tbl) w h) ((by decide +kernel : ∀ w ∈ wsX10, goodWord w = true) w h)
theorem inG2 : ∀ w ∈ wsX20, w ∈ gtbl := fun w h => gt_in ((by decide +kernel : ∀ w ∈ wsX20, w ∈ lw_tbl) w h) ((by decide +kernel : ∀ w ∈ wsX20, goodWord w = true) w h)
theorem inG5 : ∀ w ∈ wsX50, w ∈ gtbl := fun w h => gt_in ((by decide +kernel : ∀ w ∈ wsX50, w ∈ lw_tbl) w h) ((by decide +kernel : ∀ w ∈ wsX50, goodWord w = true) w h)
theorem inG6 : ∀ w ∈ wsX60, w ∈ gtbl := fun w h => gt_in ((by decide +kernel : ∀ w ∈ wsX60, w ∈ lw_tbl) w h) ((by decide +kernel : ∀ w ∈ wsX60, goodWord w = true) w h)
theorem inG7 : ∀ w ∈ wsX70, w ∈ gtbl := fun w h => gt_in ((by decide +kernel : ∀ w ∈ wsX70, w ∈ lw_tbl) w h) ((by decide +kernel : ∀ w ∈ wsX70, goodWord w = true) w h)
theorem inG8 : ∀ w ∈ wsX80, w ∈ gtbl := fun w h => gt_in ((by decide +kernel : ∀ w ∈ wsX80, w ∈ lw_tbl) w h) ((by decide +kernel : ∀ w ∈ wsX80, goodWord w = true) w h)
end
section
abbrev cy_tys (cy : Nat → ClassId) : List (ClassId × FieldType) := [(cy 0, .int), (cy 1, .long), (cy 2, .double), (cy 3, .object RX1), (cy 4, .object RX4)]
/-- table words that a call may not carry as words: casts, declarations, nest links -/
def nwL : List Cond := [.castable RX0 RX4, .castable RX2 RX3, .castable RX2 RX4, .castable RX5 RX3, .castable RX5 RX4, .castable RX6 RX3, .castable RX6 RX4,
  .declares ⟨RX3, "length", "()I"⟩, .declares ⟨RX3, "read", "(ILColumnHouse$Cell;)V"⟩, .declares ⟨RX3, "write", "(ILColumnHouse$Cell;)V"⟩, .declares ⟨RX4, "measure", "()I"⟩,
  .methodLinkNest RX7 21 yX1_init RX7, .methodLinkNest RX3 23 yX7_goesInto RX7, .methodLinkNest RX3 40 yX7_fits RX7]
def nw_kind : Cond → Bool
  | .castable .. => true
  | .declares .. => true
  | .methodLinkNest .. => true
  | _ => false
theorem nw_warm {w : Cond} (hw : nw_kind w = true) {s U : State} (hW : s.WarmedH U.vm) (h : va_Nw w s) : va_Nw w U := by
  cases w <;> first | (cases hw; done) | exact va_Nw.warmC hW h | exact va_Nw.warmD hW h | exact va_Nw.warmM hW h
theorem nw_same {w : Cond} (hw : nw_kind w = true) {u U : State} (hv : u.vm = U.vm) (h : va_Nw w u) : va_Nw w U := by
  cases w <;> first | (cases hw; done) | exact va_Nw.same rfl hv h
theorem nwL_in : ∀ w ∈ nwL, w ∈ lw_tbl := by decide +kernel
theorem nwL_kind : ∀ w ∈ nwL, nw_kind w = true := by decide +kernel
/-- what a walk needs of the tables, apart from words -/
def kx (D : va_G) (cy : Nat → ClassId) (U : State) : Prop :=
  va_K D vwCl (cy_tys cy) U ∧ (∀ w ∈ nwL, va_Nw w U) ∧ (va_AO RX1 U ∧ va_AO RX4 U) ∧ va_Nc RX0 RX3 U ∧ va_Nc RX2 RX0 U ∧ va_Nc RX5 RX0 U ∧ va_Nc RX6 RX0 U
theorem kx.warm {D : va_G} {cy : Nat → ClassId} {s U : State} (hW : s.WarmedH U.vm) (h : kx D cy s) : kx D cy U := by
  obtain ⟨h1, h2, ⟨h3, h4⟩, h5, h6, h7, h8⟩ := h
  exact ⟨va_K.moved hW.alike h1, fun w hw => nw_warm (nwL_kind w hw) hW (h2 w hw), ⟨h3.moved hW.alike, h4.moved hW.alike⟩, h5.moved hW.alike, h6.moved hW.alike, h7.moved hW.alike, h8.moved hW.alike⟩
theorem kx.same {D : va_G} {cy : Nat → ClassId} {u U : State} (hv : u.vm = U.vm) (h : kx D cy u) : kx D cy U := by
  obtain ⟨h1, h2, ⟨h3, h4⟩, h5, h6, h7, h8⟩ := h
  have ha : u.vm.Alike U.vm := by rw [hv]; exact Vm.Alike.refl U.vm
  exact ⟨va_K.moved ha h1, fun w hw => nw_same (nwL_kind w hw) hv (h2 w hw), ⟨h3.moved ha, h4.moved ha⟩, h5.moved ha, h6.moved ha, h7.moved ha, h8.moved ha⟩
/-- the world -/
def hp (D : va_G) (A : Nat → Prop) (N : Nat) (ad : Nat → Nat) (ct : Nat → Option va_E) (H : Heap) : Prop :=
  (∀ (i j : Nat) (e e' : va_E), i < N → j < N → ct i = some e → ct j = some e' → ad i = ad j → i = j) ∧ ∀ (i : Nat) (e : va_E), i < N → ct i = some e → A (ad i) ∧ va_at D vwCl (ad i, e) H
theorem hp.one {D : va_G} {A : Nat → Prop} {N : Nat} {ad : Nat → Nat} {ct : Nat → Option va_E} {H : Heap} (h : hp D A N ad ct H) {i : Nat} {e : va_E} (hi : i < N) (he : ct i = some e) : va_P D vwCl [(ad i, e)] H := by
  intro k q hk
  match k, hk with
  | 0, hk => cases hk; exact (h.2 i e hi he).2
  | k + 1, hk => simp at hk
theorem hp.mono {D : va_G} {A B : Nat → Prop} {N : Nat} {ad : Nat → Nat} {ct : Nat → Option va_E} {H : Heap} (h : hp D A N ad ct H) (hAB : ∀ (i : Nat) (e : va_E), i < N → ct i = some e → A (ad i) → B (ad i)) : hp D B N ad ct H :=
  ⟨h.1, fun i e hi he => ⟨hAB i e hi he (h.2 i e hi he).1, (h.2 i e hi he).2⟩⟩
theorem hp.kept {D : va_G} {A : Nat → Prop} {N : Nat} {ad : Nat → Nat} {ct : Nat → Option va_E} {H H1 : Heap} (h : hp D A N ad ct H) (hk : ∀ (i : Nat) (e : va_E), i < N → ct i = some e → H1[ad i]? = H[ad i]?) : hp D A N ad ct H1 :=
  ⟨h.1, fun i e hi he => ⟨(h.2 i e hi he).1, (h.2 i e hi he).2.kept (hk i e hi he)⟩⟩
theorem hp.set {D : va_G} {A : Nat → Prop} {N : Nat} {ad : Nat → Nat} {ct ct' : Nat → Option va_E} {H H1 : Heap} (h : hp D A N ad ct H) {i : Nat} {e e' : va_E} (hi : i < N) (he : ct i = some e) (he' : ct' i = some e') (ho : ∀ j, j ≠ i → ct' j = ct j)
    (hat : va_at D vwCl (ad i, e') H1) (oq : ∀ q : Nat, q ≠ ad i → H1[q]? = H[q]?) : hp D A N ad ct' H1 := by
  have key : ∀ (j : Nat) (x : va_E), ct' j = some x → ∃ y, ct j = some y := by
    intro j x hx
    by_cases hj : j = i
    · exact ⟨e, by rw [hj]; exact he⟩
    · exact ⟨x, by rw [← ho j hj]; exact hx⟩
  refine ⟨fun a b x y ha hb hx hy hab => ?_, fun j x hj hx => ?_⟩
  · obtain ⟨x0, hx0⟩ := key a x hx
    obtain ⟨y0, hy0⟩ := key b y hy
    exact h.1 a b x0 y0 ha hb hx0 hy0 hab
  · by_cases hji : j = i
    · subst hji
      cases he'.symm.trans hx
      exact ⟨(h.2 j e hi he).1, hat⟩
    · have hx' : ct j = some x := by rw [← ho j hji]; exact hx
      exact ⟨(h.2 j x hj hx').1, (h.2 j x hj hx').2.kept (oq _ (fun z => hji (h.1 j i x e hj hi hx' he z)))⟩
/-- which cells a method may change -/
def cA (N : Nat) (ad : Nat → Nat) (ct : Nat → Option va_E) (sz : Nat) : Nat → Prop := fun q => (∃ (i : Nat) (e : va_E), i < N ∧ ct i = some e ∧ q = ad i) ∨ sz ≤ q
theorem hp.self {D : va_G} {A : Nat → Prop} {N : Nat} {ad : Nat → Nat} {ct : Nat → Option va_E} {H : Heap} {sz : Nat} (h : hp D A N ad ct H) : hp D (cA N ad ct sz) N ad ct H :=
  h.mono (fun i e hi he _ => Or.inl ⟨i, e, hi, he, rfl⟩)
theorem hp.free {D : va_G} {A : Nat → Prop} {N : Nat} {ad : Nat → Nat} {ct : Nat → Option va_E} {H H0 : Heap} {locs : List Loc} (h : hp D A N ad ct H) (hS : va_S A H0 H locs) (hA : ∀ q, H0.size ≤ q → A q) : ∀ q, cA N ad ct H.size q → A q := by
  intro q hq
  rcases hq with ⟨i, e, hi, he, rfl⟩ | hq
  · exact (h.2 i e hi he).1
  · exact hA q (Nat.le_trans hS.1 hq)
section GROWS
variable {p : Program} {l : Launch} {e : Env} {R : Room} {s : State} {m : MethodId} {args : Array Value} {below : List Frame} {meth : Method} {c : Code} {H : Heap} {locs : List Loc} {cells slots : Nat} {Q : State → Prop}
variable {cc : ByteArray} {pc : Nat} {ls : Array Slot} {rest : List Value} {D : va_G} {cy : Nat → ClassId} {A : Nat → Prop} {N nL : Nat} {ad : Nat → Nat} {ct ct' : Nat → Option va_E} {H0 : Heap} {own : String}
theorem g_get (hC : CallFix p m c cc nL s args gtbl own) (hK : kx D cy s) {ref C : String} {T : u_T} {NF ci index : Nat} (hin : ∀ w ∈ u_ws C T NF, w ∈ gtbl) (hH : hp D A N ad ct H) (i : Nat) (hi : i < N) {fs : List Value} (he : ct i = some (.inr (ci, fs))) (hc : vwCl[ci]? = some (C, T, NF)) (k : Nat) (hk : k < NF)
    (hlink : Cond.fieldLink own index ref (T k).2.1 (T k).2.2.1 ∈ gtbl) (hsame : ref = (T k).1 ∨ Cond.sameField ref (T k).1 (T k).2.1 (T k).2.2.1 ∈ gtbl) {v : Value} (hv : fs[k]? = some v) (hdg : decode cc pc = .ok (.getfield index, 3))
    (kk : W p l e R s m args below meth c H locs cells slots Q (F0 m (pc + 3) ls (v :: rest))) : W p l e R s m args below meth c H locs cells slots Q (F0 m pc ls (.ref (ad i) :: rest)) :=
  va_get hC.1 hC.2.1 hC.2.2.2.2 hin hC.2.2.2.1 hK.1 (hH.one hi he) 0 rfl hc k hk (hC.2.2.2.2 _ hlink) (fun x hx => by
    rcases hsame with h | h
    · rw [h]; exact hx
    · exact u_same (hC.2.2.2.2 _ h) x hx) hv hdg kk
theorem g_put (hC : CallFix p m c cc nL s args gtbl own) (hK : kx D cy s) {ref C : String} {T : u_T} {NF ci index : Nat} (hin : ∀ w ∈ u_ws C T NF, w ∈ gtbl) (ty0 : Nat → FieldType) (hty : ∀ k, k < NF → parseFieldDescriptor (T k).2.2.1 = some (ty0 k)) (hnm : ∀ a, a < NF → ∀ b, b < NF → a ≠ b → (T a).2.1 ≠ (T b).2.1)
    (hH : hp D A N ad ct H) (hS : va_S A H0 H locs) (i : Nat) (hi : i < N) {fs : List Value} (he : ct i = some (.inr (ci, fs))) (hc : vwCl[ci]? = some (C, T, NF)) (k : Nat) (hk : k < NF) (hlink : Cond.fieldLink own index ref (T k).2.1 (T k).2.2.1 ∈ gtbl) (href : ref = (T k).1) (hfin : (T k).2.2.2 = false)
    {v : Value} (hn : narrow (ty0 k) v = v) (hfit : fits (ty0 k) v = true) (hl : k < fs.length) (he' : ct' i = some (.inr (ci, fs.set k v))) (ho : ∀ j, j ≠ i → ct' j = ct j) (hdg : decode cc pc = .ok (.putfield index, 3))
    (kk : ∀ (H1 : Heap) (locs1 : List Loc), hp D A N ad ct' H1 → va_S A H0 H1 locs1 → W p l e R s m args below meth c H1 locs1 cells slots Q (F0 m (pc + 3) ls rest)) : W p l e R s m args below meth c H locs cells slots Q (F0 m pc ls (v :: .ref (ad i) :: rest)) := by
  have hts := hC.2.2.2.2
  have hap := va_apart (own := own) hts hin ty0 hty hnm hK.1 hc
  obtain ⟨hAi, r, h1, cell, q1, q2, q3, q4⟩ := hH.2 i _ hi he
  have hr : r = (C, T, NF) := Option.some.inj (h1.symm.trans hc)
  subst hr
  obtain ⟨hSl, hfc, kC, hkC, hkind⟩ := hK.1.1 ci _ hc
  obtain ⟨cf, kf, fi, f, hi2, hsl⟩ := hSl k hk
  have hlay := hts _ (hin _ (u_in_lay hk))
  unfold u_lay at hlay
  rw [if_neg (by rw [hfin]; decide)] at hlay
  have hst := (u_facts hfc hkC (u_lays hts hin hk) hi2).1
  have h6 := u_store hfc hkC hkind hlay hi2 (hty k hk) hn hfit
  refine W.putK hC.1 hC.2.1 (f := f) ⟨hC.2.2.2.1, hts _ hlink, ⟨_, _, _, by rw [href]; exact hi2⟩, hst⟩ (by rw [q2]; exact h6) q1 q3 (by rw [hsl]; exact k2_hasslot (q4 k hk)) rfl rfl hdg fun H' e1 e2 e3 => ?_
  rw [hsl] at e1 ⊢
  exact kk H' _ (hH.set hi he he' ho ⟨_, hc, t_OB.to (V := updV (vp_V fs) k v) ⟨_, e1, q2, q3, t_set q4 hap hk v⟩ (fun j _ => vp_updV_set hl v j)⟩ e3) (hS.put e2 e3 hAi)
theorem g_iald (hC : CallFix p m c cc nL s args gtbl own) (hK : kx D cy s) (hH : hp D A N ad ct H) (i : Nat) (hi : i < N) {n : Nat} {f : Nat → Int32} (he : ct i = some (.inl (cy 0, n, .inl f))) {x : Int32} (hin : vp_in x n) (hdg : decode cc pc = .ok (.iaload, 1))
    (kk : W p l e R s m args below meth c H locs cells slots Q (F0 m (pc + 1) ls (.int (f x.toNatClampNeg) :: rest))) : W p l e R s m args below meth c H locs cells slots Q (F0 m pc ls (.int x :: .ref (ad i) :: rest)) :=
  va_iald hC.1 hC.2.1 hK.1 (hH.one hi he) 0 0 rfl rfl hin hdg kk
theorem g_lald (hC : CallFix p m c cc nL s args gtbl own) (hK : kx D cy s) (hH : hp D A N ad ct H) (i : Nat) (hi : i < N) {n : Nat} {f : Nat → Int64} (he : ct i = some (.inl (cy 1, n, .inr (.inl f)))) {x : Int32} (hin : vp_in x n) (hdg : decode cc pc = .ok (.laload, 1))
    (kk : W p l e R s m args below meth c H locs cells slots Q (F0 m (pc + 1) ls (.long (f x.toNatClampNeg) :: rest))) : W p l e R s m args below meth c H locs cells slots Q (F0 m pc ls (.int x :: .ref (ad i) :: rest)) :=
  va_lald hC.1 hC.2.1 hK.1 (hH.one hi he) 0 1 rfl rfl hin hdg kk
theorem g_dald (hC : CallFix p m c cc nL s args gtbl own) (hK : kx D cy s) (hH : hp D A N ad ct H) (i : Nat) (hi : i < N) {n : Nat} {f : Nat → UInt64} (he : ct i = some (.inl (cy 2, n, .inr (.inr (.inr (.inl f)))))) {x : Int32} (hin : vp_in x n) (hdg : decode cc pc = .ok (.daload, 1))
    (kk : W p l e R s m args below meth c H locs cells slots Q (F0 m (pc + 1) ls (.double (f x.toNatClampNeg) :: rest))) : W p l e R s m args below meth c H locs cells slots Q (F0 m pc ls (.int x :: .ref (ad i) :: rest)) :=
  va_dald hC.1 hC.2.1 hK.1 (hH.one hi he) 0 2 rfl rfl hin hdg kk
theorem g_aald3 (hC : CallFix p m c cc nL s args gtbl own) (hK : kx D cy s) (hH : hp D A N ad ct H) (i : Nat) (hi : i < N) {n : Nat} {f : Nat → Option Nat} (he : ct i = some (.inl (cy 3, n, .inr (.inr (.inr (.inr f)))))) {x : Int32} (hin : vp_in x n) (hdg : decode cc pc = .ok (.aaload, 1))
    (kk : W p l e R s m args below meth c H locs cells slots Q (F0 m (pc + 1) ls (va_rf (f x.toNatClampNeg) :: rest))) : W p l e R s m args below meth c H locs cells slots Q (F0 m pc ls (.int x :: .ref (ad i) :: rest)) :=
  va_aldq hC.1 hC.2.1 hK.1 (hH.one hi he) 0 3 rfl rfl hin hdg kk
theorem g_aald4 (hC : CallFix p m c cc nL s args gtbl own) (hK : kx D cy s) (hH : hp D A N ad ct H) (i : Nat) (hi : i < N) {n : Nat} {f : Nat → Option Nat} (he : ct i = some (.inl (cy 4, n, .inr (.inr (.inr (.inr f)))))) {x : Int32} (hin : vp_in x n) (hdg : decode cc pc = .ok (.aaload, 1))
    (kk : W p l e R s m args below meth c H locs cells slots Q (F0 m (pc + 1) ls (va_rf (f x.toNatClampNeg) :: rest))) : W p l e R s m args below meth c H locs cells slots Q (F0 m pc ls (.int x :: .ref (ad i) :: rest)) :=
  va_aldq hC.1 hC.2.1 hK.1 (hH.one hi he) 0 4 rfl rfl hin hdg kk
theorem g_alen (hC : CallFix p m c cc nL s args gtbl own) (hK : kx D cy s) (hH : hp D A N ad ct H) (i : Nat) (hi : i < N) {t0 : Nat} {ty : FieldType} {x : vp_A} (ht : (cy_tys cy)[t0]? = some (cy t0, ty)) (he : ct i = some (.inl (cy t0, x))) (hdg : decode cc pc = .ok (.arraylength, 1))
    (kk : W p l e R s m args below meth c H locs cells slots Q (F0 m (pc + 1) ls (.int (nI x.1) :: rest))) : W p l e R s m args below meth c H locs cells slots Q (F0 m pc ls (.ref (ad i) :: rest)) :=
  va_alen hC.1 hC.2.1 hK.1 (hH.one hi he) 0 t0 rfl ht rfl hdg kk
theorem g_iast (hC : CallFix p m c cc nL s args gtbl own) (hK : kx D cy s) (hH : hp D A N ad ct H) (hS : va_S A H0 H locs) (i : Nat) (hi : i < N) {n : Nat} {f : Nat → Int32} (he : ct i = some (.inl (cy 0, n, .inl f))) {x v : Int32} (hin : vp_in x n) (he' : ct' i = some (.inl (cy 0, n, .inl (upd f x.toNatClampNeg v)))) (ho : ∀ j, j ≠ i → ct' j = ct j) (hdg : decode cc pc = .ok (.iastore, 1))
    (kk : ∀ (H1 : Heap) (locs1 : List Loc), hp D A N ad ct' H1 → va_S A H0 H1 locs1 → W p l e R s m args below meth c H1 locs1 cells slots Q (F0 m (pc + 1) ls rest)) : W p l e R s m args below meth c H locs cells slots Q (F0 m pc ls (.int v :: .int x :: .ref (ad i) :: rest)) := by
  obtain ⟨hAi, hcell⟩ := hH.2 i _ hi he
  refine W.iast hC.1 hC.2.1 hcell ((hK.1.2 0 _ rfl).1 n (fun j => .int (f j))) (fun q => by cases q) (by show ¬ (x < 0 ∨ (arrV _ _ _).slots.size ≤ _); rw [arrV_size]; exact hin) rfl rfl hdg fun H1 e z oq => ?_
  refine kk H1 _ (hH.set hi he he' ho ?_ oq) (hS.put z oq hAi)
  show H1[ad i]? = some (vp_cell _ _)
  rw [e, vp_cell_i, vp_cell_i, arrV_store]
  congr 2
  funext q
  by_cases hq : q = x.toNatClampNeg
  · subst hq; simp [updV, upd]
  · simp [updV, upd, hq]
theorem g_last (hC : CallFix p m c cc nL s args gtbl own) (hK : kx D cy s) (hH : hp D A N ad ct H) (hS : va_S A H0 H locs) (i : Nat) (hi : i < N) {n : Nat} {f : Nat → Int64} (he : ct i = some (.inl (cy 1, n, .inr (.inl f)))) {x : Int32} {v : Int64} (hin : vp_in x n) (he' : ct' i = some (.inl (cy 1, n, .inr (.inl (vp_updL f x.toNatClampNeg v))))) (ho : ∀ j, j ≠ i → ct' j = ct j) (hdg : decode cc pc = .ok (.lastore, 1))
    (kk : ∀ (H1 : Heap) (locs1 : List Loc), hp D A N ad ct' H1 → va_S A H0 H1 locs1 → W p l e R s m args below meth c H1 locs1 cells slots Q (F0 m (pc + 1) ls rest)) : W p l e R s m args below meth c H locs cells slots Q (F0 m pc ls (.long v :: .int x :: .ref (ad i) :: rest)) := by
  obtain ⟨hAi, hcell⟩ := hH.2 i _ hi he
  refine W.last hC.1 hC.2.1 hcell ((hK.1.2 1 _ rfl).1 n (fun j => .long (f j))) (fun q => by cases q) (by show ¬ (x < 0 ∨ (arrV _ _ _).slots.size ≤ _); rw [arrV_size]; exact hin) rfl rfl hdg fun H1 e z oq => ?_
  refine kk H1 _ (hH.set hi he he' ho ?_ oq) (hS.put z oq hAi)
  show H1[ad i]? = some (vp_cell _ _)
  rw [e, vp_cell_l, vp_cell_l, arrV_store]
  congr 2
  funext q
  by_cases hq : q = x.toNatClampNeg
  · subst hq; simp [updV, vp_updL]
  · simp [updV, vp_updL, hq]
theorem g_dast (hC : CallFix p m c cc nL s args gtbl own) (hK : kx D cy s) (hH : hp D A N ad ct H) (hS : va_S A H0 H locs) (i : Nat) (hi : i < N) {n : Nat} {f : Nat → UInt64} (he : ct i = some (.inl (cy 2, n, .inr (.inr (.inr (.inl f)))))) {x : Int32} {v : UInt64} (hin : vp_in x n) (he' : ct' i = some (.inl (cy 2, n, .inr (.inr (.inr (.inl (vf_upd f x.toNatClampNeg v))))))) (ho : ∀ j, j ≠ i → ct' j = ct j) (hdg : decode cc pc = .ok (.dastore, 1))
    (kk : ∀ (H1 : Heap) (locs1 : List Loc), hp D A N ad ct' H1 → va_S A H0 H1 locs1 → W p l e R s m args below meth c H1 locs1 cells slots Q (F0 m (pc + 1) ls rest)) : W p l e R s m args below meth c H locs cells slots Q (F0 m pc ls (.double v :: .int x :: .ref (ad i) :: rest)) := by
  obtain ⟨hAi, hcell⟩ := hH.2 i _ hi he
  refine W.dast hC.1 hC.2.1 hcell ((hK.1.2 2 _ rfl).1 n (fun j => .double (f j))) (fun q => by cases q) (by show ¬ (x < 0 ∨ (arrV _ _ _).slots.size ≤ _); rw [arrV_size]; exact hin) rfl rfl hdg fun H1 e z oq => ?_
  refine kk H1 _ (hH.set hi he he' ho ?_ oq) (hS.put z oq hAi)
  show H1[ad i]? = some (vp_cell _ _)
  rw [e, vp_cell_d, vp_cell_d, arrV_store]
  congr 2
  funext q
  by_cases hq : q = x.toNatClampNeg
  · subst hq; simp [updV, vf_upd]
  · simp [updV, vf_upd, hq]
/-- an object of a class that the array's component takes, into an array of things (t0 = 4) or of cells (t0 = 3) -/
theorem g_aast (hC : CallFix p m c cc nL s args gtbl own) (hK : kx D cy s) (hH : hp D A N ad ct H) (hS : va_S A H0 H locs) (i : Nat) (hi : i < N) {n t0 : Nat} {E : String} (ht : (cy_tys cy)[t0]? = some (cy t0, .object E)) {f : Nat → Option Nat} (he : ct i = some (.inl (cy t0, n, .inr (.inr (.inr (.inr f)))))) {x : Int32} (hin : vp_in x n)
    (k : Nat) (hk : k < N) {ci : Nat} {fs : List Value} (hek : ct k = some (.inr (ci, fs))) {r : vw_C} (hc : vwCl[ci]? = some r) (hca : r.1 = E ∨ Cond.castable r.1 E ∈ nwL)
    (he' : ct' i = some (.inl (cy t0, n, .inr (.inr (.inr (.inr (va_up f x.toNatClampNeg (some (ad k))))))))) (ho : ∀ j, j ≠ i → ct' j = ct j) (hdg : decode cc pc = .ok (.aastore, 1))
    (kk : ∀ (H1 : Heap) (locs1 : List Loc), hp D A N ad ct' H1 → va_S A H0 H1 locs1 → W p l e R s m args below meth c H1 locs1 cells slots Q (F0 m (pc + 1) ls rest)) : W p l e R s m args below meth c H locs cells slots Q (F0 m pc ls (.ref (ad k) :: .int x :: .ref (ad i) :: rest)) := by
  have hlt : x.toNatClampNeg < n := Nat.not_le.mp fun q => hin (Or.inr q)
  have h0 : ¬ x < 0 := fun q => hin (Or.inl q)
  obtain ⟨hAi, hcell⟩ := hH.2 i _ hi he
  obtain ⟨-, r', hr', cellV, g1, g2, g3, -⟩ := hH.2 k _ hk hek
  have hcls := (hK.1.1 ci r hc).2
  obtain ⟨kA, comp, k1, k2, k3, -⟩ := (hK.1.2 t0 _ ht).2
  obtain ⟨kC, hkC, -⟩ := id hcls.2
  have hasg : s.vm.assignable (D.1 ci) comp = true := by
    rcases hca with h | h
    · have hcomp : comp = D.1 ci := Option.some.inj (k3.symm.trans (by rw [← h]; exact hcls.1))
      rw [hcomp]; exact va_assign hcls
    · obtain ⟨c0, t1, f1, f2, f3⟩ := Cond.castable_spec (va_Nw.use (A := args) rfl (hK.2.1 _ h))
      cases hcls.1.symm.trans f1
      cases k3.symm.trans f2
      exact f3
  obtain ⟨kcomp, hkcomp, -⟩ := Vm.findClass_spec k3
  refine W.aast hC.1 hC.2.1 hcell (fun q h => by cases h) (fun h => by cases h) k1 k2 rfl hkcomp ⟨h0, by show _ < (arrV _ _ _).slots.size; rw [arrV_size]; exact hlt⟩ g1 (fun q h => by rw [g3] at h; cases h) (by rw [g2]; exact hkC) (by rw [g2]; exact hasg) rfl rfl hdg fun H1 e z oq => ?_
  refine kk H1 _ (hH.set hi he he' ho ?_ oq) (hS.put z oq hAi)
  show H1[ad i]? = some (vp_cell _ _)
  rw [e, vp_cell_q, vp_cell_q, arrV_store]
  congr 2
  funext q
  by_cases hq : q = x.toNatClampNeg
  · subst hq; simp [updV, va_up, va_rf]
  · simp [updV, va_up, hq]
theorem g_aastN (hC : CallFix p m c cc nL s args gtbl own) (hK : kx D cy s) (hH : hp D A N ad ct H) (hS : va_S A H0 H locs) (i : Nat) (hi : i < N) {n t0 : Nat} {E : String} (ht : (cy_tys cy)[t0]? = some (cy t0, .object E)) {f : Nat → Option Nat} (he : ct i = some (.inl (cy t0, n, .inr (.inr (.inr (.inr f)))))) {x : Int32} (hin : vp_in x n)
    (he' : ct' i = some (.inl (cy t0, n, .inr (.inr (.inr (.inr (va_up f x.toNatClampNeg none))))))) (ho : ∀ j, j ≠ i → ct' j = ct j) (hdg : decode cc pc = .ok (.aastore, 1))
    (kk : ∀ (H1 : Heap) (locs1 : List Loc), hp D A N ad ct' H1 → va_S A H0 H1 locs1 → W p l e R s m args below meth c H1 locs1 cells slots Q (F0 m (pc + 1) ls rest)) : W p l e R s m args below meth c H locs cells slots Q (F0 m pc ls (.null :: .int x :: .ref (ad i) :: rest)) := by
  obtain ⟨hAi, hcell⟩ := hH.2 i _ hi he
  refine va_WaastN (C := E) hC.1 hC.2.1 hcell ((hK.1.2 t0 _ ht).1 n (fun j => va_rf (f j))) (fun h => by cases h) (by show ¬ (x < 0 ∨ (arrV _ _ _).slots.size ≤ _); rw [arrV_size]; exact hin) rfl rfl hdg fun H1 e z oq => ?_
  refine kk H1 _ (hH.set hi he he' ho ?_ oq) (hS.put z oq hAi)
  show H1[ad i]? = some (vp_cell _ _)
  rw [e, vp_cell_q, vp_cell_q, arrV_store]
  congr 2
  funext q
  by_cases hq : q = x.toNatClampNeg
  · subst hq; simp [updV, va_up, va_rf]
  · simp [updV, va_up, hq]
theorem hp.recv (hK : kx D cy s) (hH : hp D A N ad ct H) {i ci : Nat} {fs : List Value} {r : vw_C} (hi : i < N) (he : ct i = some (.inr (ci, fs))) (hc : vwCl[ci]? = some r) : ∃ cell : Cell, H[ad i]? = some cell ∧ cell.vm.isStatics = false ∧ s.vm.findClass r.1 = some cell.cls :=
  va_recv hK.1 (hH.one hi he) hc (q0 := 0) rfl
theorem g_castY (hC : CallFix p m c cc nL s args gtbl own) (hK : kx D cy s) (hH : hp D A N ad ct H) (i : Nat) (hi : i < N) {ci index : Nat} {fs : List Value} {r : vw_C} {nm : String} (he : ct i = some (.inr (ci, fs))) (hc : vwCl[ci]? = some r) (hlink : Cond.classLink own index nm ∈ gtbl) (hca : r.1 = nm ∨ Cond.castable r.1 nm ∈ nwL) (hdg : decode cc pc = .ok (.checkcast index, 3))
    (k : W p l e R s m args below meth c H locs cells slots Q (F0 m (pc + 3) ls (.ref (ad i) :: rest))) : W p l e R s m args below meth c H locs cells slots Q (F0 m pc ls (.ref (ad i) :: rest)) := by
  rcases hca with h | h
  · subst h
    exact va_castS hC.1 hC.2.1 hC.2.2.2.1 (hC.2.2.2.2 _ hlink) ((hK.1.1 ci r hc).2) (hp.recv hK hH hi he hc) hdg k
  · exact va_castY hC.1 hC.2.1 hC.2.2.2.1 (hC.2.2.2.2 _ hlink) (hK.2.1 _ h) (hp.recv hK hH hi he hc) hdg k
theorem g_instY (hC : CallFix p m c cc nL s args gtbl own) (hK : kx D cy s) (hH : hp D A N ad ct H) (i : Nat) (hi : i < N) {ci index : Nat} {fs : List Value} {r : vw_C} {nm : String} (he : ct i = some (.inr (ci, fs))) (hc : vwCl[ci]? = some r) (hlink : Cond.classLink own index nm ∈ gtbl) (hca : r.1 = nm ∨ Cond.castable r.1 nm ∈ nwL) (hdg : decode cc pc = .ok (.instanceof index, 3))
    (k : W p l e R s m args below meth c H locs cells slots Q (F0 m (pc + 3) ls (.int 1 :: rest))) : W p l e R s m args below meth c H locs cells slots Q (F0 m pc ls (.ref (ad i) :: rest)) := by
  rcases hca with h | h
  · subst h
    exact va_instS hC.1 hC.2.1 hC.2.2.2.1 (hC.2.2.2.2 _ hlink) ((hK.1.1 ci r hc).2) (hp.recv hK hH hi he hc) hdg k
  · exact va_instY hC.1 hC.2.1 hC.2.2.2.1 (hC.2.2.2.2 _ hlink) (hK.2.1 _ h) (hp.recv hK hH hi he hc) hdg k
theorem g_instNo (hC : CallFix p m c cc nL s args gtbl own) (hK : kx D cy s) (hH : hp D A N ad ct H) (i : Nat) (hi : i < N) {ci index : Nat} {fs : List Value} {r : vw_C} {nm : String} (he : ct i = some (.inr (ci, fs))) (hc : vwCl[ci]? = some r) (hlink : Cond.classLink own index nm ∈ gtbl) (hca : va_Nc r.1 nm s) (hdg : decode cc pc = .ok (.instanceof index, 3))
    (k : W p l e R s m args below meth c H locs cells slots Q (F0 m (pc + 3) ls (.int 0 :: rest))) : W p l e R s m args below meth c H locs cells slots Q (F0 m pc ls (.ref (ad i) :: rest)) :=
  va_instNo hC.1 hC.2.1 hC.2.2.2.1 (hC.2.2.2.2 _ hlink) hca (hp.recv hK hH hi he hc) hdg k
end GROWS
end
section
/-! contracts over one world, and the rows of their calls -/
/-- from every state whose heap holds ct: the method returns r, and the heap holds ct'; nothing outside the world is changed -/
def CM (l : Launch) (y : MethodName) (bs : ByteArray) (mL : Nat) (ret : Option FieldType) (rm : Room) (D : va_G) (cy : Nat → ClassId) (N : Nat) (ad : Nat → Nat) (av : List Value) (ct : Nat → Option va_E) (r : Option Value) (ct' : Nat → Option va_E) : Prop :=
  ∀ sz : Nat, Met l y (Cond.code y bs mL ret :: gtbl) rm (va_Pc av (fun U => U.heap.size = sz ∧ hp D (fun _ => True) N ad ct U.heap ∧ kx D cy U))
    (fun _ st o t => o = .returned r ∧ hp D (cA N ad ct sz) N ad ct' t.heap ∧ va_F (cA N ad ct sz) st t) 0 0 (cA N ad ct sz)
theorem cm_blind {D : va_G} {cy : Nat → ClassId} {N : Nat} {ad : Nat → Nat} {ct : Nat → Option va_E} {av : List Value} {sz : Nat} : FrameBlind (va_Pc av (fun U => U.heap.size = sz ∧ hp D (fun _ => True) N ad ct U.heap ∧ kx D cy U)) := by
  intro a U g mk h
  obtain ⟨h0, h1, h2, h3⟩ := h
  exact ⟨h0, h1, h2, kx.same (u := U) (U := U.calling g mk a) rfl h3⟩
section CMOF
variable {l : Launch} {y : MethodName} {bs : ByteArray} {mL : Nat} {rm : Room} {D : va_G} {cy : Nat → ClassId} {N : Nat} {ad : Nat → Nat} {av : List Value} {ct ct' : Nat → Option va_E}
theorem CM.start {ret : Option FieldType} {r : Option Value} (hy : plainName y.cls = true) (hav : (lg_sl av).length ≤ mL)
    (body : ∀ (p : Program) (e : Env) (s : State) (m : MethodId) (below : List Frame) (meth : Method) (c : Code) (A : Nat → Prop) (ls : Array Slot), CallFix p m c bs mL s av.toArray gtbl y.cls → meth.sig.returnType = ret → meth.locks = false → (y.name = "<init>" → meth.name = "<init>") → kx D cy s → (∀ q, s.heap.size ≤ q → A q) → hp D A N ad ct s.heap → lv_has ls mL (lv_args 0 av) →
      W p l e rm s m av.toArray below meth c s.heap [] 0 0 (MQ below (fun _ st o t => o = .returned r ∧ hp D A N ad ct' t.heap ∧ va_F A st t) av.toArray s 0 0 A) (F0 m 0 ls [])) : CM l y bs mL ret rm D cy N ad av ct r ct' := by
  intro sz
  refine Met.ofW (cc := bs) (maxL := mL) (ret := ret) hy rfl ?_
  intro p e s m args below meth c s₁ B hml hv
  obtain ⟨rfl, hsz, hP, hK⟩ := hv
  subst hsz
  have hl := lv_entry av (n := mL) hav
  rw [lg_entry_eq]
  refine body p e s m below meth c _ _ ⟨B.exec, B.bytes, hml, findClass_of_methodNamed B.named, fun w hw => atoms_spec (ws := Cond.code y bs mL ret :: gtbl) B.pre w (List.mem_cons_of_mem _ hw)⟩ B.returns B.notSynchronized (fun h => by rw [← h]; exact (name_of_methodNamed B.named B.method).1) hK (fun q h => Or.inr h) hP.self hl
end CMOF
section CMCALL
variable {p : Program} {l : Launch} {e : Env} {R : Room} {s : State} {m : MethodId} {args : Array Value} {below : List Frame} {meth : Method} {c : Code} {H : Heap} {locs : List Loc} {cells slots : Nat} {Q : State → Prop}
variable {cc : ByteArray} {pc : Nat} {ls : Array Slot} {rest st0 : List Value} {D : va_G} {cy : Nat → ClassId} {A : Nat → Prop} {N nL : Nat} {ad : Nat → Nat} {ct ct' : Nat → Option va_E} {H0 : Heap} {own : String}
variable {y : MethodName} {bs : ByteArray} {mL n index : Nat} {ret : Option FieldType} {rm : Room} {As : List Value} {r : Option Value}
theorem cm_go (hr : va_Run p l e R s m args below meth c H locs cells slots 0 0 (F0 m pc ls st0) rest (fun st o t => o = .returned r ∧ hp D (cA N ad ct H.size) N ad ct' t.heap ∧ va_F (cA N ad ct H.size) st t) (cA N ad ct H.size)) (hH : hp D A N ad ct H) (hS : va_S A H0 H locs) (hA : ∀ q, H0.size ≤ q → A q)
    (kk : ∀ (H1 : Heap) (locs1 : List Loc), hp D A N ad ct' H1 → va_S A H0 H1 locs1 → W p l e R s m args below meth c H1 locs1 cells slots Q (F0 m (pc + 3) ls (r.toList ++ rest))) : W p l e R s m args below meth c H locs cells slots Q (F0 m pc ls st0) := by
  intro T hT X
  obtain ⟨v, st₀, t, T', L, h0, X', hL, e1, e2, ⟨hv, hb, hz, hk⟩, st⟩ := hr T hT X
  cases hv
  have hfr := hH.free hS hA
  rw [h0] at hz hk
  obtain ⟨t2, a1, b1⟩ := kk T'.heap (locs ++ L) (by rw [e1]; exact hb.mono (fun i e _ _ h => hfr _ h))
    ⟨Nat.le_trans hS.1 (by rw [e1]; exact hz), fun q h1 h2 => by rw [e1, hk q (Nat.lt_of_lt_of_le h1 hS.1) (fun z => h2 (hfr q z))]; exact hS.2.1 q h1 h2, fun q hq => by
      rcases List.mem_append.mp hq with h | h
      · exact hS.2.2 q h
      · exact hfr _ (hL q h)⟩ T' rfl X'
  exact ⟨t2, st t2 a1, b1⟩
theorem cm_pre (hK : kx D cy s) (hH : hp D A N ad ct H) : ∀ U : State, U.heap = H → s.WarmedH U.vm → va_Pc As (fun U => U.heap.size = H.size ∧ hp D (fun _ => True) N ad ct U.heap ∧ kx D cy U) As.toArray U :=
  fun U hU hW => ⟨rfl, by rw [hU], by rw [hU]; exact hH.mono (fun _ _ _ _ _ => trivial), hK.warm hW⟩
/-- what a method's own words are, for a static method -/
def msok (y : MethodName) (bs : ByteArray) (mL : Nat) (ret : Option FieldType) (n : Nat) : Prop := Cond.code y bs mL ret ∈ gtbl ∧ Cond.static y ∈ gtbl ∧ Cond.initialized y.cls ∈ gtbl ∧ (y.cls ≠ "java/lang/invoke/MethodHandle" ∧ y.cls ≠ "java/lang/invoke/VarHandle" ∧ (parseMethodDescriptor y.desc).map (fun d => d.parameters.length) = some n)
/-- for an instance method that class C selects for itself -/
def mvok (C : String) (y : MethodName) (bs : ByteArray) (mL : Nat) (ret : Option FieldType) (n : Nat) : Prop := Cond.code y bs mL ret ∈ gtbl ∧ Cond.instanceMethod y ∈ gtbl ∧ Cond.selects C y y ∈ gtbl ∧ Cond.initialized C ∈ gtbl ∧ (y.cls = C ∧ y.cls ≠ "java/lang/invoke/MethodHandle" ∧ y.cls ≠ "java/lang/invoke/VarHandle" ∧ (parseMethodDescriptor y.desc).map (fun d => d.parameters.length) = some n)
theorem gw_code {ws : List Cond} (h5 : Cond.code y bs mL ret ∈ gtbl) (h : ∀ w ∈ ws, w ∈ gtbl) : GoodIn gtbl (ws ++ (Cond.code y bs mL ret :: gtbl)) := by
  intro w hw
  rcases List.mem_append.mp hw with h1 | h1
  · exact gt_good w (h w h1)
  · rcases List.mem_cons.mp h1 with h2 | h2
    · rw [h2]; exact gt_good _ h5
    · exact gt_good _ h2
theorem cm_S (hC : CallFix p m c cc nL s args gtbl own) (hM : CM l y bs mL ret rm D cy N ad As ct r ct') (ho : msok y bs mL ret n) (hlk : Cond.methodLink own index y ∈ gtbl) (hR : (rm.cells = 0 ∧ rm.slots = 0) ∧ rm.frames + 1 ≤ R.frames ∧ 8 + (mL + 11) + rm.locals ≤ R.locals) (hK : kx D cy s) (hH : hp D A N ad ct H) (hS : va_S A H0 H locs) (hA : ∀ q, H0.size ≤ q → A q)
    (hsize : ls.size = nL) (hf : cells ≤ R.cells ∧ slots ≤ R.slots) (hn : As.length = n) (hst : st0 = As.reverse ++ rest) (hW : (rest.map fun v => v.category).sum ≤ 8) (hdg : decode cc pc = .ok (.invokestatic index, 3))
    (kk : ∀ (H1 : Heap) (locs1 : List Loc), hp D A N ad ct' H1 → va_S A H0 H1 locs1 → W p l e R s m args below meth c H1 locs1 cells slots Q (F0 m (pc + 3) ls (r.toList ++ rest))) : W p l e R s m args below meth c H locs cells slots Q (F0 m pc ls st0) := by
  obtain ⟨h1, h2, h3, hd⟩ := ho
  subst hst
  refine cm_go (va_runS (As := As) (rest := rest) hC (hM H.size) (va_cwS n hC.2.2.2.2 (gw_code h1 (fun w hw => ?_)) rfl hR.1.1 hR.1.2 hd hR.2) ⟨cm_blind, cm_pre hK hH⟩ rfl hn hsize rfl (lv_room hW) hdg hf) hH hS hA kk
  simp only [List.mem_cons, List.not_mem_nil, or_false] at hw
  rcases hw with rfl | rfl | rfl <;> assumption
theorem cm_V {b : Nat} {C : String} {As' : List Value} (hC : CallFix p m c cc nL s args gtbl own) (hM : CM l y bs mL ret rm D cy N ad (.ref b :: As') ct r ct') (ho : mvok C y bs mL ret n) (hlk : Cond.methodLink own index y ∈ gtbl) (hR : (rm.cells = 0 ∧ rm.slots = 0) ∧ rm.frames + 1 ≤ R.frames ∧ 8 + (mL + 11) + rm.locals ≤ R.locals) (hK : kx D cy s) (hH : hp D A N ad ct H) (hS : va_S A H0 H locs) (hA : ∀ q, H0.size ≤ q → A q)
    (hrc : ∃ cell : Cell, H[b]? = some cell ∧ cell.vm.isStatics = false ∧ s.vm.findClass C = some cell.cls)
    (hsize : ls.size = nL) (hf : cells ≤ R.cells ∧ slots ≤ R.slots) (hn : As'.length = n) (hst : st0 = As'.reverse ++ .ref b :: rest) (hW : (rest.map fun v => v.category).sum ≤ 8) (hdg : decode cc pc = .ok (.invokevirtual index, 3))
    (kk : ∀ (H1 : Heap) (locs1 : List Loc), hp D A N ad ct' H1 → va_S A H0 H1 locs1 → W p l e R s m args below meth c H1 locs1 cells slots Q (F0 m (pc + 3) ls (r.toList ++ rest))) : W p l e R s m args below meth c H locs cells slots Q (F0 m pc ls st0) := by
  obtain ⟨h1, h2, h3, h4, hd⟩ := ho
  subst hst
  refine cm_go (va_runV (As := As') (rest := rest) hC (hM H.size) (cwV n hC.2.2.2.2 (gw_code h1 (fun w hw => ?_)) rfl hR.1.1 hR.1.2 hd hR.2) ⟨cm_blind, hrc, cm_pre hK hH⟩ rfl hn hsize rfl (lv_room hW) hdg hf) hH hS hA kk
  simp only [List.mem_cons, List.not_mem_nil, or_false] at hw
  rcases hw with rfl | rfl | rfl | rfl <;> assumption
/-- an inherited method, or one that is declared above and made below: x is named, class C selects y -/
def muok (C owner : String) (x y : MethodName) (bs : ByteArray) (mL : Nat) (ret : Option FieldType) (n : Nat) : Prop := Cond.code y bs mL ret ∈ gtbl ∧ Cond.sameMethod x.cls owner x.name x.desc ∈ gtbl ∧ Cond.selects C x y ∈ gtbl ∧ Cond.instanceMethod y ∈ gtbl ∧ Cond.initialized y.cls ∈ gtbl ∧ (y = ⟨owner, x.name, x.desc⟩ ∨ Cond.declares ⟨owner, x.name, x.desc⟩ ∈ nwL) ∧ (owner ≠ "java/lang/invoke/MethodHandle" ∧ owner ≠ "java/lang/invoke/VarHandle" ∧ (parseMethodDescriptor x.desc).map (fun d => d.parameters.length) = some n)
theorem cm_U {b : Nat} {C owner : String} {x : MethodName} {As' : List Value} (hC : CallFix p m c cc nL s args gtbl own) (hM : CM l y bs mL ret rm D cy N ad (.ref b :: As') ct r ct') (ho : muok C owner x y bs mL ret n) (hlk : Cond.methodLink own index x ∈ gtbl) (hR : (rm.cells = 0 ∧ rm.slots = 0) ∧ rm.frames + 1 ≤ R.frames ∧ 8 + (mL + 11) + rm.locals ≤ R.locals) (hK : kx D cy s) (hH : hp D A N ad ct H) (hS : va_S A H0 H locs) (hA : ∀ q, H0.size ≤ q → A q)
    (hrc : ∃ cell : Cell, H[b]? = some cell ∧ cell.vm.isStatics = false ∧ s.vm.findClass C = some cell.cls)
    (hsize : ls.size = nL) (hf : cells ≤ R.cells ∧ slots ≤ R.slots) (hn : As'.length = n) (hst : st0 = As'.reverse ++ .ref b :: rest) (hW : (rest.map fun v => v.category).sum ≤ 8) (hdg : decode cc pc = .ok (.invokevirtual index, 3))
    (kk : ∀ (H1 : Heap) (locs1 : List Loc), hp D A N ad ct' H1 → va_S A H0 H1 locs1 → W p l e R s m args below meth c H1 locs1 cells slots Q (F0 m (pc + 3) ls (r.toList ++ rest))) : W p l e R s m args below meth c H locs cells slots Q (F0 m pc ls st0) := by
  obtain ⟨h1, h2, h3, h4, h5, h6, hd⟩ := ho
  subst hst
  have hG : GoodIn gtbl (va_wsU own index C owner x y (Cond.code y bs mL ret :: gtbl)) := gw_code h1 (fun w hw => by
    simp only [List.mem_cons, List.not_mem_nil, or_false] at hw
    rcases hw with rfl | rfl | rfl | rfl | rfl <;> assumption)
  have cw : va_CU R s args own C owner index x y bs mL ret (Cond.code y bs mL ret :: gtbl) rm 0 0 n := by
    rcases h6 with h | h
    · exact va_cwU n hC.2.2.2.2 hG rfl hR.1.1 hR.1.2 h hd hR.2
    · exact va_cwA n hC.2.2.2.2 hG rfl hR.1.1 hR.1.2 (hK.2.1 _ h) hd hR.2
  exact cm_go (va_runU (As := As') (rest := rest) hC (hM H.size) cw ⟨cm_blind, hrc, cm_pre hK hH⟩ rfl hn hsize rfl (lv_room hW) hdg hf) hH hS hA kk
/-- a private static method of the nest's host -/
theorem cm_SN {host : String} (hC : CallFix p m c cc nL s args gtbl own) (hM : CM l y bs mL ret rm D cy N ad As ct r ct') (ho : msok y bs mL ret n) (hlk : Cond.methodLinkNest own index y host ∈ nwL) (hR : (rm.cells = 0 ∧ rm.slots = 0) ∧ rm.frames + 1 ≤ R.frames ∧ 8 + (mL + 11) + rm.locals ≤ R.locals) (hK : kx D cy s) (hH : hp D A N ad ct H) (hS : va_S A H0 H locs) (hA : ∀ q, H0.size ≤ q → A q)
    (hsize : ls.size = nL) (hf : cells ≤ R.cells ∧ slots ≤ R.slots) (hn : As.length = n) (hst : st0 = As.reverse ++ rest) (hW : (rest.map fun v => v.category).sum ≤ 8) (hdg : decode cc pc = .ok (.invokestatic index, 3))
    (kk : ∀ (H1 : Heap) (locs1 : List Loc), hp D A N ad ct' H1 → va_S A H0 H1 locs1 → W p l e R s m args below meth c H1 locs1 cells slots Q (F0 m (pc + 3) ls (r.toList ++ rest))) : W p l e R s m args below meth c H locs cells slots Q (F0 m pc ls st0) := by
  obtain ⟨h1, h2, h3, hd⟩ := ho
  subst hst
  have hG : GoodIn gtbl (Cond.code y bs mL ret :: gtbl) := gw_code (ws := []) h1 (fun w hw => by cases hw)
  exact cm_go (va_runSN (As := As) (rest := rest) hC (hM H.size) ⟨va_cnB n hC.2.2.2.2 hG rfl hR.1.1 hR.1.2 (hK.2.1 _ hlk) (hC.2.2.2.2 _ h3) hd hR.2, hC.2.2.2.2 _ h2, trivial⟩ ⟨cm_blind, cm_pre hK hH⟩ rfl hn hsize rfl (lv_room hW) hdg hf) hH hS hA kk
/-- a constructor, over a world that has the new object already -/
theorem cm_I {b : Nat} {As' : List Value} (hC : CallFix p m c cc nL s args gtbl own) (hM : CM l y bs mL none rm D cy N ad (.ref b :: As') ct r ct') (ho : Cond.code y bs mL none ∈ gtbl ∧ Cond.instanceMethod y ∈ gtbl ∧ Cond.initialized y.cls ∈ gtbl ∧ y.name = "<init>" ∧ (y.cls ≠ "java/lang/invoke/MethodHandle" ∧ y.cls ≠ "java/lang/invoke/VarHandle" ∧ (parseMethodDescriptor y.desc).map (fun d => d.parameters.length) = some n)) (hlk : Cond.methodLink own index y ∈ gtbl) (hR : (rm.cells = 0 ∧ rm.slots = 0) ∧ rm.frames + 1 ≤ R.frames ∧ 8 + (mL + 11) + rm.locals ≤ R.locals) (hK : kx D cy s) (hH : hp D A N ad ct H) (hS : va_S A H0 H locs) (hA : ∀ q, H0.size ≤ q → A q)
    (hsize : ls.size = nL) (hf : cells ≤ R.cells ∧ slots ≤ R.slots) (hn : As'.length = n) (hst : st0 = As'.reverse ++ .ref b :: rest) (hW : (rest.map fun v => v.category).sum ≤ 8) (hdg : decode cc pc = .ok (.invokespecial index, 3))
    (kk : ∀ (H1 : Heap) (locs1 : List Loc), hp D A N ad ct' H1 → va_S A H0 H1 locs1 → W p l e R s m args below meth c H1 locs1 cells slots Q (F0 m (pc + 3) ls (r.toList ++ rest))) : W p l e R s m args below meth c H locs cells slots Q (F0 m pc ls st0) := by
  obtain ⟨h1, h2, h3, h4, hd⟩ := ho
  subst hst
  have hG : GoodIn gtbl (Cond.code y bs mL none :: gtbl) := gw_code (ws := []) h1 (fun w hw => by cases hw)
  exact cm_go (va_runI (As := As') (rest := rest) hC (hM H.size) (cwI n hC.2.2.2.2 hG rfl hR.1.1 hR.1.2 (hC.2.2.2.2 _ h3) (hC.2.2.2.2 _ hlk) (hC.2.2.2.2 _ h2) h4 hd hR.2) ⟨cm_blind, cm_pre hK hH⟩ rfl hn hsize rfl (lv_room hW) hdg hf) hH hS hA kk
/-- ends -/
theorem cm_ri {rv v : Int32} {ctF : Nat → Option va_E} (hC : CallFix p m c cc nL s args gtbl own) (hr : meth.sig.returnType = some .int) (hlocks : meth.locks = false) (hv : v = rv) (hc : ctF = ct') (hH : hp D A N ad ctF H) (hS : va_S A s.heap H locs) (hdg : decode cc pc = .ok (.ireturn, 1)) :
    W p l e R s m args below meth c H locs 0 0 (MQ below (fun _ st o t => o = .returned (some (.int rv)) ∧ hp D A N ad ct' t.heap ∧ va_F A st t) args s 0 0 A) (F0 m pc ls [.int v]) := by
  subst hv; subst hc
  exact W.iret hC.1 hC.2.1 hr (fun t ht hW => ⟨rfl, by rw [ht]; exact hH, hS.F ht⟩) hS.2.2 hdg
theorem cm_rl {rv v : Int64} {ctF : Nat → Option va_E} (hC : CallFix p m c cc nL s args gtbl own) (hr : meth.sig.returnType = some .long) (hlocks : meth.locks = false) (hv : v = rv) (hc : ctF = ct') (hH : hp D A N ad ctF H) (hS : va_S A s.heap H locs) (hdg : decode cc pc = .ok (.lreturn, 1)) :
    W p l e R s m args below meth c H locs 0 0 (MQ below (fun _ st o t => o = .returned (some (.long rv)) ∧ hp D A N ad ct' t.heap ∧ va_F A st t) args s 0 0 A) (F0 m pc ls [.long v]) := by
  subst hv; subst hc
  exact W.lret hC.1 hC.2.1 hr (fun t ht hW => ⟨rfl, by rw [ht]; exact hH, hS.F ht⟩) hS.2.2 hdg
theorem cm_rd {rv v : UInt64} {ctF : Nat → Option va_E} (hC : CallFix p m c cc nL s args gtbl own) (hr : meth.sig.returnType = some .double) (hlocks : meth.locks = false) (hv : v = rv) (hc : ctF = ct') (hH : hp D A N ad ctF H) (hS : va_S A s.heap H locs) (hdg : decode cc pc = .ok (.dreturn, 1)) :
    W p l e R s m args below meth c H locs 0 0 (MQ below (fun _ st o t => o = .returned (some (.double rv)) ∧ hp D A N ad ct' t.heap ∧ va_F A st t) args s 0 0 A) (F0 m pc ls [.double v]) := by
  subst hv; subst hc
  exact W.dret hC.1 hC.2.1 hr (fun t ht hW => ⟨rfl, by rw [ht]; exact hH, hS.F ht⟩) hS.2.2 hdg
theorem cm_rv {ctF : Nat → Option va_E} (hC : CallFix p m c cc nL s args gtbl own) (hr : meth.sig.returnType = none) (hlocks : meth.locks = false) (hc : ctF = ct') (hH : hp D A N ad ctF H) (hS : va_S A s.heap H locs) (hdg : decode cc pc = .ok (.return_, 1)) :
    W p l e R s m args below meth c H locs 0 0 (MQ below (fun _ st o t => o = .returned none ∧ hp D A N ad ct' t.heap ∧ va_F A st t) args s 0 0 A) (F0 m pc ls []) := by
  subst hc
  exact W.vret hC.1 hC.2.1 hr (fun t ht hW => ⟨rfl, by rw [ht]; exact hH, hS.F ht⟩) hS.2.2 hdg
theorem cm_rz {rv v : Int32} {ctF : Nat → Option va_E} (hC : CallFix p m c cc nL s args gtbl own) (hr : meth.sig.returnType = some .boolean) (hlocks : meth.locks = false) (h01 : v = 0 ∨ v = 1) (hv : v = rv) (hc : ctF = ct') (hH : hp D A N ad ctF H) (hS : va_S A s.heap H locs) (hdg : decode cc pc = .ok (.ireturn, 1)) :
    W p l e R s m args below meth c H locs 0 0 (MQ below (fun _ st o t => o = .returned (some (.int rv)) ∧ hp D A N ad ct' t.heap ∧ va_F A st t) args s 0 0 A) (F0 m pc ls [.int v]) := by
  subst hv; subst hc
  exact W.zret hC.1 hC.2.1 hr (by rcases h01 with rfl | rfl <;> decide) (fun t ht hW => ⟨rfl, by rw [ht]; exact hH, hS.F ht⟩) hS.2.2 hdg
theorem cm_ra {rv v : Option Nat} {cn : String} {ctF : Nat → Option va_E} (hC : CallFix p m c cc nL s args gtbl own) (hr : meth.sig.returnType = some (.object cn)) (hlocks : meth.locks = false) (hv : v = rv) (hc : ctF = ct') (hH : hp D A N ad ctF H) (hS : va_S A s.heap H locs) (hdg : decode cc pc = .ok (.areturn, 1)) :
    W p l e R s m args below meth c H locs 0 0 (MQ below (fun _ st o t => o = .returned (some (va_rf rv)) ∧ hp D A N ad ct' t.heap ∧ va_F A st t) args s 0 0 A) (F0 m pc ls [va_rf v]) := by
  subst hv; subst hc
  exact W.aret hC.1 hC.2.1 hr (Or.inl ⟨_, rfl⟩) (by cases v; exact Or.inl rfl; exact Or.inr ⟨_, rfl⟩) (fun t ht hW => ⟨rfl, by rw [ht]; exact hH, hS.F ht⟩) hS.2.2 hdg
end CMCALL
/-- the same with an open end: what is answered and held behind it is told by 'post' -/
def CX (l : Launch) (y : MethodName) (bs : ByteArray) (mL : Nat) (ret : Option FieldType) (rm : Room) (D : va_G) (cy : Nat → ClassId) (N : Nat) (ad : Nat → Nat) (av : List Value) (ct : Nat → Option va_E) (post : Option Value → (Nat → Option va_E) → Prop) : Prop :=
  ∀ sz : Nat, Met l y (Cond.code y bs mL ret :: gtbl) rm (va_Pc av (fun U => U.heap.size = sz ∧ hp D (fun _ => True) N ad ct U.heap ∧ kx D cy U))
    (fun _ st o t => (∃ (v : Option Value) (ct' : Nat → Option va_E), o = .returned v ∧ post v ct' ∧ hp D (cA N ad ct sz) N ad ct' t.heap) ∧ va_F (cA N ad ct sz) st t) 0 0 (cA N ad ct sz)
section CXOF
variable {l : Launch} {y : MethodName} {bs : ByteArray} {mL : Nat} {rm : Room} {D : va_G} {cy : Nat → ClassId} {N : Nat} {ad : Nat → Nat} {av : List Value} {ct : Nat → Option va_E}
theorem CX.start {ret : Option FieldType} {post : Option Value → (Nat → Option va_E) → Prop} (hy : plainName y.cls = true) (hav : (lg_sl av).length ≤ mL)
    (body : ∀ (p : Program) (e : Env) (s : State) (m : MethodId) (below : List Frame) (meth : Method) (c : Code) (A : Nat → Prop) (ls : Array Slot), CallFix p m c bs mL s av.toArray gtbl y.cls → meth.sig.returnType = ret → meth.locks = false → (y.name = "<init>" → meth.name = "<init>") → kx D cy s → (∀ q, s.heap.size ≤ q → A q) → hp D A N ad ct s.heap → lv_has ls mL (lv_args 0 av) →
      W p l e rm s m av.toArray below meth c s.heap [] 0 0 (MQ below (fun _ st o t => (∃ (v : Option Value) (ct' : Nat → Option va_E), o = .returned v ∧ post v ct' ∧ hp D A N ad ct' t.heap) ∧ va_F A st t) av.toArray s 0 0 A) (F0 m 0 ls [])) : CX l y bs mL ret rm D cy N ad av ct post := by
  intro sz
  refine Met.ofW (cc := bs) (maxL := mL) (ret := ret) hy rfl ?_
  intro p e s m args below meth c s₁ B hml hv
  obtain ⟨rfl, hsz, hP, hK⟩ := hv
  subst hsz
  have hl := lv_entry av (n := mL) hav
  rw [lg_entry_eq]
  refine body p e s m below meth c _ _ ⟨B.exec, B.bytes, hml, findClass_of_methodNamed B.named, fun w hw => atoms_spec (ws := Cond.code y bs mL ret :: gtbl) B.pre w (List.mem_cons_of_mem _ hw)⟩ B.returns B.notSynchronized (fun h => by rw [← h]; exact (name_of_methodNamed B.named B.method).1) hK (fun q h => Or.inr h) hP.self hl
theorem CM.cx {ret : Option FieldType} {r : Option Value} {ct' : Nat → Option va_E} {post : Option Value → (Nat → Option va_E) → Prop} (h : CM l y bs mL ret rm D cy N ad av ct r ct') (hp : post r ct') : CX l y bs mL ret rm D cy N ad av ct post := by
  intro sz p e ha hc hk s m args below hf happ hpre hT
  obtain ⟨k, o, h1, h2, h3, ⟨hv, hb, hz⟩, hL⟩ := h sz p e ha hc hk s m args below hf happ hpre hT
  exact ⟨k, o, h1, h2, h3, ⟨⟨r, ct', hv, hp, hb⟩, hz⟩, hL⟩
end CXOF
section CXCALL
variable {p : Program} {l : Launch} {e : Env} {R : Room} {s : State} {m : MethodId} {args : Array Value} {below : List Frame} {meth : Method} {c : Code} {H : Heap} {locs : List Loc} {cells slots : Nat} {Q : State → Prop}
variable {cc : ByteArray} {pc : Nat} {ls : Array Slot} {rest st0 : List Value} {D : va_G} {cy : Nat → ClassId} {A : Nat → Prop} {N nL : Nat} {ad : Nat → Nat} {ct ct' : Nat → Option va_E} {H0 : Heap} {own : String}
variable {y : MethodName} {bs : ByteArray} {mL n index : Nat} {ret : Option FieldType} {rm : Room} {As : List Value} {post : Option Value → (Nat → Option va_E) → Prop}
theorem cx_go (hr : va_Run p l e R s m args below meth c H locs cells slots 0 0 (F0 m pc ls st0) rest (fun st o t => (∃ (v : Option Value) (ct' : Nat → Option va_E), o = .returned v ∧ post v ct' ∧ hp D (cA N ad ct H.size) N ad ct' t.heap) ∧ va_F (cA N ad ct H.size) st t) (cA N ad ct H.size)) (hH : hp D A N ad ct H) (hS : va_S A H0 H locs) (hA : ∀ q, H0.size ≤ q → A q)
    (kk : ∀ (v : Option Value) (ct' : Nat → Option va_E) (H1 : Heap) (locs1 : List Loc), post v ct' → hp D A N ad ct' H1 → va_S A H0 H1 locs1 → (∀ q, q < H.size → ¬ cA N ad ct H.size q → H1[q]? = H[q]?) → W p l e R s m args below meth c H1 locs1 cells slots Q (F0 m (pc + 3) ls (v.toList ++ rest))) : W p l e R s m args below meth c H locs cells slots Q (F0 m pc ls st0) := by
  intro T hT X
  obtain ⟨v, st₀, t, T', L, h0, X', hL, e1, e2, ⟨⟨v', ct', hv, hpo, hb⟩, hz, hk⟩, st⟩ := hr T hT X
  cases hv
  have hfr := hH.free hS hA
  rw [h0] at hz hk
  obtain ⟨t2, a1, b1⟩ := kk v ct' T'.heap (locs ++ L) hpo (by rw [e1]; exact hb.mono (fun i e _ _ h => hfr _ h))
    ⟨Nat.le_trans hS.1 (by rw [e1]; exact hz), fun q h1 h2 => by rw [e1, hk q (Nat.lt_of_lt_of_le h1 hS.1) (fun z => h2 (hfr q z))]; exact hS.2.1 q h1 h2, fun q hq => by
      rcases List.mem_append.mp hq with h | h
      · exact hS.2.2 q h
      · exact hfr _ (hL q h)⟩ (fun q h1 h2 => by rw [e1]; exact hk q h1 h2) T' rfl X'
  exact ⟨t2, st t2 a1, b1⟩
theorem cx_V {b : Nat} {C : String} {As' : List Value} (hC : CallFix p m c cc nL s args gtbl own) (hM : CX l y bs mL ret rm D cy N ad (.ref b :: As') ct post) (ho : mvok C y bs mL ret n) (hlk : Cond.methodLink own index y ∈ gtbl) (hR : (rm.cells = 0 ∧ rm.slots = 0) ∧ rm.frames + 1 ≤ R.frames ∧ 8 + (mL + 11) + rm.locals ≤ R.locals) (hK : kx D cy s) (hH : hp D A N ad ct H) (hS : va_S A H0 H locs) (hA : ∀ q, H0.size ≤ q → A q)
    (hrc : ∃ cell : Cell, H[b]? = some cell ∧ cell.vm.isStatics = false ∧ s.vm.findClass C = some cell.cls)
    (hsize : ls.size = nL) (hf : cells ≤ R.cells ∧ slots ≤ R.slots) (hn : As'.length = n) (hst : st0 = As'.reverse ++ .ref b :: rest) (hW : (rest.map fun v => v.category).sum ≤ 8) (hdg : decode cc pc = .ok (.invokevirtual index, 3))
    (kk : ∀ (v : Option Value) (ct' : Nat → Option va_E) (H1 : Heap) (locs1 : List Loc), post v ct' → hp D A N ad ct' H1 → va_S A H0 H1 locs1 → (∀ q, q < H.size → ¬ cA N ad ct H.size q → H1[q]? = H[q]?) → W p l e R s m args below meth c H1 locs1 cells slots Q (F0 m (pc + 3) ls (v.toList ++ rest))) : W p l e R s m args below meth c H locs cells slots Q (F0 m pc ls st0) := by
  obtain ⟨h1, h2, h3, h4, hd⟩ := ho
  subst hst
  refine cx_go (va_runV (As := As') (rest := rest) hC (hM H.size) (cwV n hC.2.2.2.2 (gw_code h1 (fun w hw => ?_)) rfl hR.1.1 hR.1.2 hd hR.2) ⟨cm_blind, hrc, cm_pre hK hH⟩ rfl hn hsize rfl (lv_room hW) hdg hf) hH hS hA kk
  simp only [List.mem_cons, List.not_mem_nil, or_false] at hw
  rcases hw with rfl | rfl | rfl | rfl <;> assumption
theorem cx_ri {v : Int32} {ctF : Nat → Option va_E} (hC : CallFix p m c cc nL s args gtbl own) (hr : meth.sig.returnType = some .int) (hlocks : meth.locks = false) (hpo : post (some (.int v)) ctF) (hH : hp D A N ad ctF H) (hS : va_S A s.heap H locs) (hdg : decode cc pc = .ok (.ireturn, 1)) :
    W p l e R s m args below meth c H locs 0 0 (MQ below (fun _ st o t => (∃ (v : Option Value) (ct' : Nat → Option va_E), o = .returned v ∧ post v ct' ∧ hp D A N ad ct' t.heap) ∧ va_F A st t) args s 0 0 A) (F0 m pc ls [.int v]) :=
  W.iret hC.1 hC.2.1 hr (fun t ht hW => ⟨⟨_, _, rfl, hpo, by rw [ht]; exact hH⟩, hS.F ht⟩) hS.2.2 hdg
theorem cx_rl {v : Int64} {ctF : Nat → Option va_E} (hC : CallFix p m c cc nL s args gtbl own) (hr : meth.sig.returnType = some .long) (hlocks : meth.locks = false) (hpo : post (some (.long v)) ctF) (hH : hp D A N ad ctF H) (hS : va_S A s.heap H locs) (hdg : decode cc pc = .ok (.lreturn, 1)) :
    W p l e R s m args below meth c H locs 0 0 (MQ below (fun _ st o t => (∃ (v : Option Value) (ct' : Nat → Option va_E), o = .returned v ∧ post v ct' ∧ hp D A N ad ct' t.heap) ∧ va_F A st t) args s 0 0 A) (F0 m pc ls [.long v]) :=
  W.lret hC.1 hC.2.1 hr (fun t ht hW => ⟨⟨_, _, rfl, hpo, by rw [ht]; exact hH⟩, hS.F ht⟩) hS.2.2 hdg
theorem cx_rd {v : UInt64} {ctF : Nat → Option va_E} (hC : CallFix p m c cc nL s args gtbl own) (hr : meth.sig.returnType = some .double) (hlocks : meth.locks = false) (hpo : post (some (.double v)) ctF) (hH : hp D A N ad ctF H) (hS : va_S A s.heap H locs) (hdg : decode cc pc = .ok (.dreturn, 1)) :
    W p l e R s m args below meth c H locs 0 0 (MQ below (fun _ st o t => (∃ (v : Option Value) (ct' : Nat → Option va_E), o = .returned v ∧ post v ct' ∧ hp D A N ad ct' t.heap) ∧ va_F A st t) args s 0 0 A) (F0 m pc ls [.double v]) :=
  W.dret hC.1 hC.2.1 hr (fun t ht hW => ⟨⟨_, _, rfl, hpo, by rw [ht]; exact hH⟩, hS.F ht⟩) hS.2.2 hdg
theorem cx_rz {v : Int32} {ctF : Nat → Option va_E} (hC : CallFix p m c cc nL s args gtbl own) (hr : meth.sig.returnType = some .boolean) (hlocks : meth.locks = false) (h01 : v = 0 ∨ v = 1) (hpo : post (some (.int v)) ctF) (hH : hp D A N ad ctF H) (hS : va_S A s.heap H locs) (hdg : decode cc pc = .ok (.ireturn, 1)) :
    W p l e R s m args below meth c H locs 0 0 (MQ below (fun _ st o t => (∃ (v : Option Value) (ct' : Nat → Option va_E), o = .returned v ∧ post v ct' ∧ hp D A N ad ct' t.heap) ∧ va_F A st t) args s 0 0 A) (F0 m pc ls [.int v]) :=
  W.zret hC.1 hC.2.1 hr (by rcases h01 with rfl | rfl <;> decide) (fun t ht hW => ⟨⟨_, _, rfl, hpo, by rw [ht]; exact hH⟩, hS.F ht⟩) hS.2.2 hdg
theorem cx_rv {ctF : Nat → Option va_E} (hC : CallFix p m c cc nL s args gtbl own) (hr : meth.sig.returnType = none) (hlocks : meth.locks = false) (hpo : post none ctF) (hH : hp D A N ad ctF H) (hS : va_S A s.heap H locs) (hdg : decode cc pc = .ok (.return_, 1)) :
    W p l e R s m args below meth c H locs 0 0 (MQ below (fun _ st o t => (∃ (v : Option Value) (ct' : Nat → Option va_E), o = .returned v ∧ post v ct' ∧ hp D A N ad ct' t.heap) ∧ va_F A st t) args s 0 0 A) (F0 m pc ls []) :=
  W.vret hC.1 hC.2.1 hr (fun t ht hW => ⟨⟨_, _, rfl, hpo, by rw [ht]; exact hH⟩, hS.F ht⟩) hS.2.2 hdg
end CXCALL
section STQ
variable {l : Launch} {y : MethodName} {bs : ByteArray} {mL : Nat} {rm : Room} {D : va_G} {cy : Nat → ClassId} {N : Nat} {ad : Nat → Nat} {av : List Value} {ct ct' : Nat → Option va_E}
theorem CX.startQ {ret : Option FieldType} {post : Option Value → (Nat → Option va_E) → Prop} (hy : plainName y.cls = true) (hav : (lg_sl av).length ≤ mL)
    (body : ∀ (p : Program) (e : Env) (s : State) (m : MethodId) (args : Array Value) (below : List Frame) (meth : Method) (c : Code) (A : Nat → Prop) (ls : Array Slot) (Q : State → Prop), Q = MQ below (fun _ st o t => (∃ (v : Option Value) (ct' : Nat → Option va_E), o = .returned v ∧ post v ct' ∧ hp D A N ad ct' t.heap) ∧ va_F A st t) args s 0 0 A → CallFix p m c bs mL s args gtbl y.cls → meth.sig.returnType = ret → meth.locks = false → kx D cy s → (∀ q, s.heap.size ≤ q → A q) → hp D A N ad ct s.heap → lv_has ls mL (lv_args 0 av) →
      W p l e rm s m args below meth c s.heap [] 0 0 Q (F0 m 0 ls [])) : CX l y bs mL ret rm D cy N ad av ct post :=
  CX.start hy hav (fun p e s m below meth c A ls hC hr hlk _ hK hA hH hl => body p e s m _ below meth c A ls _ rfl hC hr hlk hK hA hH hl)
theorem CM.startQ {ret : Option FieldType} {r : Option Value} (hy : plainName y.cls = true) (hav : (lg_sl av).length ≤ mL)
    (body : ∀ (p : Program) (e : Env) (s : State) (m : MethodId) (args : Array Value) (below : List Frame) (meth : Method) (c : Code) (A : Nat → Prop) (ls : Array Slot) (Q : State → Prop), Q = MQ below (fun _ st o t => o = .returned r ∧ hp D A N ad ct' t.heap ∧ va_F A st t) args s 0 0 A → CallFix p m c bs mL s args gtbl y.cls → meth.sig.returnType = ret → meth.locks = false → kx D cy s → (∀ q, s.heap.size ≤ q → A q) → hp D A N ad ct s.heap → lv_has ls mL (lv_args 0 av) →
      W p l e rm s m args below meth c s.heap [] 0 0 Q (F0 m 0 ls [])) : CM l y bs mL ret rm D cy N ad av ct r ct' :=
  CM.start hy hav (fun p e s m below meth c A ls hC hr hlk _ hK hA hH hl => body p e s m _ below meth c A ls _ rfl hC hr hlk hK hA hH hl)
end STQ
end
section
/-! THE STATE, in mathematics: how many things; of each its kind, length, tag; of each place its whole and its real; what each column holds (0: NOTHING, t + 1: thing t) -/
abbrev AS : Type := Nat × (Nat → Nat) × (Nat → Nat) × (Nat → Int32) × (Nat → Nat → Int64) × (Nat → Nat → UInt64) × (Nat → Nat)
abbrev AS.n (P : AS) : Nat := P.1
abbrev AS.kd (P : AS) : Nat → Nat := P.2.1
abbrev AS.ln (P : AS) : Nat → Nat := P.2.2.1
abbrev AS.tg (P : AS) : Nat → Int32 := P.2.2.2.1
abbrev AS.wh (P : AS) : Nat → Nat → Int64 := P.2.2.2.2.1
abbrev AS.re (P : AS) : Nat → Nat → UInt64 := P.2.2.2.2.2.1
abbrev AS.co (P : AS) : Nat → Nat := P.2.2.2.2.2.2
def up2 {α : Type} (f : Nat → Nat → α) (t i : Nat) (v : α) : Nat → Nat → α := fun a b => if a = t ∧ b = i then v else f a b
abbrev AS.setCo (P : AS) (c v : Nat) : AS := (P.n, P.kd, P.ln, P.tg, P.wh, P.re, va_up P.co c v)
abbrev AS.setW (P : AS) (t i : Nat) (v : Int64) : AS := (P.n, P.kd, P.ln, P.tg, up2 P.wh t i v, P.re, P.co)
abbrev AS.setR (P : AS) (t i : Nat) (v : UInt64) : AS := (P.n, P.kd, P.ln, P.tg, P.wh, up2 P.re t i v, P.co)
def b2i (b : Bool) : Int32 := if b then 1 else 0
theorem b2i_01 (b : Bool) : b2i b = 0 ∨ b2i b = 1 := by cases b; exact Or.inl rfl; exact Or.inr rfl
theorem b2i_t {b : Bool} (h : ¬ b2i b = 0) : b = true := by cases b; exact absurd rfl h; rfl
theorem b2i_f {b : Bool} (h : b2i b = 0) : b = false := by cases b; rfl; exact absurd h (by decide)
theorem b2i_ne {b : Bool} (h : b = true) : ¬ b2i b = 0 := by subst h; decide
/-- the model's cells -/
def gof : Nat → Int32 := fun k => if k = 0 then 1 else if k = 1 then 250 else if k = 2 then 244 else if k = 3 then 248 else if k = 4 then 240 else if k = 5 then 224 else if k = 6 then 192 else 128
def mcl (cy : Nat → ClassId) (ad : Nat → Nat) (P : AS) (wy so : Int32) (w : Int64) (r : UInt64) (ns : Nat → Int32) (nw : Nat → Int64) (nr : Nat → UInt64) (fr tt : Nat → Int32) : List va_E :=
  [.inr (6, [.ref (ad 1), .ref (ad 2), .ref (ad 3), .ref (ad 4), .ref (ad 5), .ref (ad 6), .int (nI P.n), .ref (ad 7), .int wy, .int so, .long w, .double r, .ref (ad 8), .ref (ad 9), .ref (ad 10), .ref (ad 11), .ref (ad 12)]),
   .inl (cy 0, 8, .inl gof), .inl (cy 0, 513, .inl (fun t => nI (P.kd t))), .inl (cy 0, 513, .inl (fun t => nI (P.ln t))), .inl (cy 0, 513, .inl P.tg),
   .inl (cy 1, 12312, .inr (.inl (fun k => P.wh (k / 24) (k % 24)))), .inl (cy 2, 12312, .inr (.inr (.inr (.inl (fun k => P.re (k / 24) (k % 24)))))), .inl (cy 0, 12, .inl (fun k => nI (P.co k))),
   .inl (cy 0, 24, .inl ns), .inl (cy 1, 24, .inr (.inl nw)), .inl (cy 2, 24, .inr (.inr (.inr (.inl nr)))), .inl (cy 0, 24, .inl fr), .inl (cy 0, 24, .inl tt)]
def mct (cy : Nat → ClassId) (ad : Nat → Nat) (P : AS) (wy so : Int32) (w : Int64) (r : UInt64) (ns : Nat → Int32) (nw : Nat → Int64) (nr : Nat → UInt64) (fr tt : Nat → Int32) : Nat → Option va_E := fun i => (mcl cy ad P wy so w r ns nw nr fr tt)[i]?
theorem mct_0 {cy : Nat → ClassId} {ad : Nat → Nat} {P : AS} {wy wy' so so' : Int32} {w w' : Int64} {r r' : UInt64} {ns : Nat → Int32} {nw : Nat → Int64} {nr : Nat → UInt64} {fr tt : Nat → Int32} : ∀ j, j ≠ 0 → mct cy ad P wy' so' w' r' ns nw nr fr tt j = mct cy ad P wy so w r ns nw nr fr tt j := by
  intro j hj
  cases j with
  | zero => exact absurd rfl hj
  | succ j => rfl
/-- what always holds -/
def WF (P : AS) : Prop := (∀ t, P.kd t ≤ 14) ∧ (∀ t, P.ln t ≤ 24) ∧ P.n ≤ 513 ∧ (∀ c, P.co c ≤ P.n) ∧ ∀ t i, 8 ≤ P.kd t → ∃ q, P.wh t i = lN q ∧ q ≤ P.n
/-- a number within bounds, as Java tests it -/
def inR (v lo hi : Int32) : Bool := decide (lo ≤ v) && decide (v ≤ hi)
def isC (c : Int32) : Bool := inR c 0 11
abbrev rm_ (f k : Nat) : Room := { frames := f, cells := 0, slots := 0, locals := k }
/-- 32-bit numbers by their integers -/
theorem i_lt (a b : Int32) : a < b ↔ a.toInt < b.toInt := Int32.lt_iff_toInt_lt
theorem i_le (a b : Int32) : a ≤ b ↔ a.toInt ≤ b.toInt := Int32.le_iff_toInt_le
theorem i_eq (a b : Int32) : a = b ↔ a.toInt = b.toInt := Int32.toInt_inj.symm
theorem inR_lo {v lo hi : Int32} (h : v < lo) : inR v lo hi = false := by
  unfold inR; rw [decide_eq_false (fun h2 => by rw [i_lt] at h; rw [i_le] at h2; omega)]; rfl
theorem inR_hi {v lo hi : Int32} (h : hi < v) : inR v lo hi = false := by
  unfold inR; rw [decide_eq_false (p := v ≤ hi) (fun h2 => by rw [i_lt] at h; rw [i_le] at h2; omega), Bool.and_false]
theorem inR_in {v lo hi : Int32} (h : ¬ v < lo) (h2 : ¬ hi < v) : inR v lo hi = true := by
  unfold inR; rw [decide_eq_true (by rw [i_lt] at h; rw [i_le]; omega), decide_eq_true (by rw [i_lt] at h2; rw [i_le]; omega)]; rfl
theorem inR_ex {v : Int32} {n : Nat} (hn : n < 2 ^ 31) (h : inR v 0 (nI n) = true) : ∃ j, j ≤ n ∧ v = nI j := by
  unfold inR at h
  rw [Bool.and_eq_true, decide_eq_true_eq, decide_eq_true_eq] at h
  exact nI_of2 (nI_toInt hn) (fun h2 => by rw [i_lt] at h2; have h1 := h.1; rw [i_le] at h1; omega) h.2
theorem inR_nI {j n : Nat} (hn : n < 2 ^ 31) (h : j ≤ n) : inR (nI j) 0 (nI n) = true := by
  unfold inR
  rw [decide_eq_true (nI_pos' (by omega)), decide_eq_true (nI_le h hn)]; rfl
theorem isC_ex {c : Int32} (h : isC c = true) : ∃ j, j < 12 ∧ c = nI j := by
  obtain ⟨j, h1, h2⟩ := inR_ex (n := 11) (by decide) h
  exact ⟨j, by omega, h2⟩
theorem isC_nI {j : Nat} (h : j < 12) : isC (nI j) = true := inR_nI (n := 11) (by decide) (by omega)
theorem nc_lt {a b : Nat} (ha : a < 2 ^ 31) (hb : b < 2 ^ 31) (h : nI a < nI b) : a < b := (nI_ltI ha hb).mp h
theorem nc_nlt {a b : Nat} (ha : a < 2 ^ 31) (hb : b < 2 ^ 31) (h : ¬ nI a < nI b) : b ≤ a := Nat.not_lt.mp (fun x => h ((nI_ltI ha hb).mpr x))
theorem nc_le {a b : Nat} (ha : a < 2 ^ 31) (hb : b < 2 ^ 31) (h : nI a ≤ nI b) : a ≤ b := (nI_leI ha hb).mp h
theorem nc_nle {a b : Nat} (ha : a < 2 ^ 31) (hb : b < 2 ^ 31) (h : ¬ nI a ≤ nI b) : b < a := Nat.not_le.mp (fun x => h ((nI_leI ha hb).mpr x))
theorem nc_eq {a b : Nat} (ha : a < 2 ^ 31) (hb : b < 2 ^ 31) (h : nI a = nI b) : a = b := (nI_eq ha hb).mp h
theorem nc_ne {a b : Nat} (ha : a < 2 ^ 31) (hb : b < 2 ^ 31) (h : ¬ nI a = nI b) : a ≠ b := fun x => h (by rw [x])
theorem b2d_t {p : Prop} [Decidable p] (h : ¬ b2i (decide p) = 0) : p := of_decide_eq_true (b2i_t h)
theorem b2d_f {p : Prop} [Decidable p] (h : b2i (decide p) = 0) : ¬ p := of_decide_eq_false (b2i_f h)
theorem b2d_1 {p : Prop} [Decidable p] (h : p) : (1 : Int32) = b2i (decide p) := by rw [decide_eq_true h]; rfl
theorem b2d_0 {p : Prop} [Decidable p] (h : ¬ p) : (0 : Int32) = b2i (decide p) := by rw [decide_eq_false h]; rfl
/-- a place that thing t has -/
def hasP (P : AS) (t : Nat) (i : Int32) : Bool := decide (0 ≤ i.toInt ∧ i.toInt < P.ln t)
theorem hasP_ex {P : AS} {t : Nat} {i : Int32} (h : hasP P t i = true) : ∃ k, k < P.ln t ∧ i = nI k := by
  unfold hasP at h
  rw [decide_eq_true_eq] at h
  have hb : i.toInt < 2147483648 := by have := Int32.toInt_lt i; omega
  refine ⟨i.toInt.toNat, by omega, ?_⟩
  rw [i_eq, nI_toInt (by omega)]; omega
theorem hasP_nI {P : AS} {t k : Nat} (h : k < P.ln t) (hk : k < 2 ^ 31) : hasP P t (nI k) = true := by
  unfold hasP; rw [nI_toInt hk, decide_eq_true_eq]; omega
def rsRow (P : AS) (j : Nat) : Nat := if P.co j = 0 then 2 else if P.kd (P.co j - 1) < 12 then 0 else 3
def rsRows (P : AS) (j k u : Nat) : Nat := if P.co j = 0 ∨ P.co k = 0 ∨ P.co u = 0 then 2 else if P.kd (P.co j - 1) < 12 ∧ P.kd (P.co k - 1) < 12 ∧ P.kd (P.co u - 1) < 12 then 0 else 3
def rsPl (P : AS) (j : Nat) (i : Int32) : Nat := if rsRow P j = 0 then (if hasP P (P.co j - 1) i = true then 0 else 4) else rsRow P j
theorem rsRow_le (P : AS) (j : Nat) : rsRow P j ≤ 3 := by unfold rsRow; split <;> (try split) <;> omega
theorem rsRows_le (P : AS) (j k u : Nat) : rsRows P j k u ≤ 3 := by unfold rsRows; split <;> (try split) <;> omega
theorem rsPl_le (P : AS) (j : Nat) (i : Int32) : rsPl P j i ≤ 4 := by unfold rsPl; have := rsRow_le P j; split <;> (try split) <;> omega
theorem rsRow_0 {P : AS} {j : Nat} (h : rsRow P j = 0) : ∃ t, P.co j = t + 1 ∧ P.kd t < 12 := by
  unfold rsRow at h
  split at h
  · omega
  · split at h
    · exact ⟨P.co j - 1, by omega, by assumption⟩
    · omega
theorem rsPl_0 {P : AS} {j : Nat} {i : Int32} (h : rsPl P j i = 0) : ∃ t k, P.co j = t + 1 ∧ P.kd t < 12 ∧ k < P.ln t ∧ i = nI k := by
  unfold rsPl at h
  split at h
  · rename_i h0
    obtain ⟨t, h1, h2⟩ := rsRow_0 h0
    rw [h1] at h
    split at h
    · rename_i h3
      obtain ⟨k, h4, h5⟩ := hasP_ex h3
      exact ⟨t, k, h1, h2, h4, h5⟩
    · omega
  · omega
theorem rsRows_0 {P : AS} {j k u : Nat} (h : rsRows P j k u = 0) : ∃ a b c, P.co j = a + 1 ∧ P.co k = b + 1 ∧ P.co u = c + 1 ∧ P.kd a < 12 ∧ P.kd b < 12 ∧ P.kd c < 12 := by
  unfold rsRows at h
  split at h
  · omega
  · rename_i h0
    split at h
    · rename_i h1
      exact ⟨P.co j - 1, P.co k - 1, P.co u - 1, by omega, by omega, by omega, h1.1, h1.2.1, h1.2.2⟩
    · omega
theorem co_cases (x : Nat) : x = 0 ∨ ∃ t, x = t + 1 := by cases x; exact Or.inl rfl; exact Or.inr ⟨_, rfl⟩
end
section
/-! rows at an index that is a number; rows of the model's own arrays -/
section NROWS
variable {p : Program} {l : Launch} {e : Env} {R : Room} {s : State} {m : MethodId} {args : Array Value} {below : List Frame} {meth : Method} {c : Code} {H : Heap} {locs : List Loc} {cells slots : Nat} {Q : State → Prop}
variable {cc : ByteArray} {pc : Nat} {ls : Array Slot} {rest : List Value} {D : va_G} {cy : Nat → ClassId} {A : Nat → Prop} {N nL : Nat} {ad : Nat → Nat} {ct ct' : Nat → Option va_E} {H0 : Heap} {own : String}
theorem lv_chg {x y : Int32} (h : x = y) (k : W p l e R s m args below meth c H locs cells slots Q (F0 m pc ls (.int y :: rest))) : W p l e R s m args below meth c H locs cells slots Q (F0 m pc ls (.int x :: rest)) := by
  subst h; exact k
theorem lv_chgl {x y : Int64} (h : x = y) (k : W p l e R s m args below meth c H locs cells slots Q (F0 m pc ls (.long y :: rest))) : W p l e R s m args below meth c H locs cells slots Q (F0 m pc ls (.long x :: rest)) := by
  subst h; exact k
theorem lv_chgd {x y : UInt64} (h : x = y) (k : W p l e R s m args below meth c H locs cells slots Q (F0 m pc ls (.double y :: rest))) : W p l e R s m args below meth c H locs cells slots Q (F0 m pc ls (.double x :: rest)) := by
  subst h; exact k
theorem gN_iald (hC : CallFix p m c cc nL s args gtbl own) (hK : kx D cy s) (hH : hp D A N ad ct H) (i : Nat) (hi : i < N) {n : Nat} {f : Nat → Int32} (he : ct i = some (.inl (cy 0, n, .inl f))) (u : Nat) (hu : u < n ∧ n < 2 ^ 31) (hdg : decode cc pc = .ok (.iaload, 1))
    (kk : W p l e R s m args below meth c H locs cells slots Q (F0 m (pc + 1) ls (.int (f u) :: rest))) : W p l e R s m args below meth c H locs cells slots Q (F0 m pc ls (.int (nI u) :: .ref (ad i) :: rest)) :=
  g_iald hC hK hH i hi he (vp_in_nI hu.1 hu.2) hdg (by rw [nI_clamp (by omega)]; exact kk)
theorem gN_lald (hC : CallFix p m c cc nL s args gtbl own) (hK : kx D cy s) (hH : hp D A N ad ct H) (i : Nat) (hi : i < N) {n : Nat} {f : Nat → Int64} (he : ct i = some (.inl (cy 1, n, .inr (.inl f)))) (u : Nat) (hu : u < n ∧ n < 2 ^ 31) (hdg : decode cc pc = .ok (.laload, 1))
    (kk : W p l e R s m args below meth c H locs cells slots Q (F0 m (pc + 1) ls (.long (f u) :: rest))) : W p l e R s m args below meth c H locs cells slots Q (F0 m pc ls (.int (nI u) :: .ref (ad i) :: rest)) :=
  g_lald hC hK hH i hi he (vp_in_nI hu.1 hu.2) hdg (by rw [nI_clamp (by omega)]; exact kk)
theorem gN_dald (hC : CallFix p m c cc nL s args gtbl own) (hK : kx D cy s) (hH : hp D A N ad ct H) (i : Nat) (hi : i < N) {n : Nat} {f : Nat → UInt64} (he : ct i = some (.inl (cy 2, n, .inr (.inr (.inr (.inl f)))))) (u : Nat) (hu : u < n ∧ n < 2 ^ 31) (hdg : decode cc pc = .ok (.daload, 1))
    (kk : W p l e R s m args below meth c H locs cells slots Q (F0 m (pc + 1) ls (.double (f u) :: rest))) : W p l e R s m args below meth c H locs cells slots Q (F0 m pc ls (.int (nI u) :: .ref (ad i) :: rest)) :=
  g_dald hC hK hH i hi he (vp_in_nI hu.1 hu.2) hdg (by rw [nI_clamp (by omega)]; exact kk)
theorem gN_iast (hC : CallFix p m c cc nL s args gtbl own) (hK : kx D cy s) (hH : hp D A N ad ct H) (hS : va_S A H0 H locs) (i : Nat) (hi : i < N) {n : Nat} {f : Nat → Int32} (he : ct i = some (.inl (cy 0, n, .inl f))) (u : Nat) (hu : u < n ∧ n < 2 ^ 31) {v : Int32} (he' : ct' i = some (.inl (cy 0, n, .inl (upd f u v)))) (ho : ∀ j, j ≠ i → ct' j = ct j) (hdg : decode cc pc = .ok (.iastore, 1))
    (kk : ∀ (H1 : Heap) (locs1 : List Loc), hp D A N ad ct' H1 → va_S A H0 H1 locs1 → W p l e R s m args below meth c H1 locs1 cells slots Q (F0 m (pc + 1) ls rest)) : W p l e R s m args below meth c H locs cells slots Q (F0 m pc ls (.int v :: .int (nI u) :: .ref (ad i) :: rest)) :=
  g_iast hC hK hH hS i hi he (vp_in_nI hu.1 hu.2) (by rw [nI_clamp (by omega)]; exact he') ho hdg kk
theorem gN_last (hC : CallFix p m c cc nL s args gtbl own) (hK : kx D cy s) (hH : hp D A N ad ct H) (hS : va_S A H0 H locs) (i : Nat) (hi : i < N) {n : Nat} {f : Nat → Int64} (he : ct i = some (.inl (cy 1, n, .inr (.inl f)))) (u : Nat) (hu : u < n ∧ n < 2 ^ 31) {v : Int64} (he' : ct' i = some (.inl (cy 1, n, .inr (.inl (vp_updL f u v))))) (ho : ∀ j, j ≠ i → ct' j = ct j) (hdg : decode cc pc = .ok (.lastore, 1))
    (kk : ∀ (H1 : Heap) (locs1 : List Loc), hp D A N ad ct' H1 → va_S A H0 H1 locs1 → W p l e R s m args below meth c H1 locs1 cells slots Q (F0 m (pc + 1) ls rest)) : W p l e R s m args below meth c H locs cells slots Q (F0 m pc ls (.long v :: .int (nI u) :: .ref (ad i) :: rest)) :=
  g_last hC hK hH hS i hi he (vp_in_nI hu.1 hu.2) (by rw [nI_clamp (by omega)]; exact he') ho hdg kk
theorem gN_dast (hC : CallFix p m c cc nL s args gtbl own) (hK : kx D cy s) (hH : hp D A N ad ct H) (hS : va_S A H0 H locs) (i : Nat) (hi : i < N) {n : Nat} {f : Nat → UInt64} (he : ct i = some (.inl (cy 2, n, .inr (.inr (.inr (.inl f)))))) (u : Nat) (hu : u < n ∧ n < 2 ^ 31) {v : UInt64} (he' : ct' i = some (.inl (cy 2, n, .inr (.inr (.inr (.inl (vf_upd f u v))))))) (ho : ∀ j, j ≠ i → ct' j = ct j) (hdg : decode cc pc = .ok (.dastore, 1))
    (kk : ∀ (H1 : Heap) (locs1 : List Loc), hp D A N ad ct' H1 → va_S A H0 H1 locs1 → W p l e R s m args below meth c H1 locs1 cells slots Q (F0 m (pc + 1) ls rest)) : W p l e R s m args below meth c H locs cells slots Q (F0 m pc ls (.double v :: .int (nI u) :: .ref (ad i) :: rest)) :=
  g_dast hC hK hH hS i hi he (vp_in_nI hu.1 hu.2) (by rw [nI_clamp (by omega)]; exact he') ho hdg kk
end NROWS
theorem ix24 (t i : Nat) : (24 : Int32) * nI t + nI i = nI (24 * t + i) := by
  rw [show (24 : Int32) = nI 24 from rfl, pk_mul, nI_add]
theorem ix24d {t i : Nat} (hi : i < 24) : (24 * t + i) / 24 = t ∧ (24 * t + i) % 24 = i := by omega
abbrev AS.setN (P : AS) (v : Nat) : AS := (v, P.kd, P.ln, P.tg, P.wh, P.re, P.co)
abbrev AS.setKd (P : AS) (t v : Nat) : AS := (P.n, va_up P.kd t v, P.ln, P.tg, P.wh, P.re, P.co)
abbrev AS.setLn (P : AS) (t v : Nat) : AS := (P.n, P.kd, va_up P.ln t v, P.tg, P.wh, P.re, P.co)
abbrev AS.setTg (P : AS) (t : Nat) (v : Int32) : AS := (P.n, P.kd, P.ln, va_up P.tg t v, P.wh, P.re, P.co)
section MROWS
variable {p : Program} {l : Launch} {e : Env} {R : Room} {s : State} {m : MethodId} {args : Array Value} {below : List Frame} {meth : Method} {c : Code} {H : Heap} {locs : List Loc} {cells slots : Nat} {Q : State → Prop}
variable {cc : ByteArray} {pc : Nat} {ls : Array Slot} {rest : List Value} {D : va_G} {cy : Nat → ClassId} {A : Nat → Prop} {nL : Nat} {ad : Nat → Nat} {H0 : Heap} {own : String}
variable {P : AS} {wy so : Int32} {w : Int64} {r : UInt64} {ns : Nat → Int32} {nw : Nat → Int64} {nr : Nat → UInt64} {fr tt : Nat → Int32}
theorem mr_wh (hC : CallFix p m c cc nL s args gtbl own) (hK : kx D cy s) (hH : hp D A 13 ad (mct cy ad P wy so w r ns nw nr fr tt) H) (t i : Nat) (hu : t < 513 ∧ i < 24) (hdg : decode cc pc = .ok (.laload, 1))
    (kk : W p l e R s m args below meth c H locs cells slots Q (F0 m (pc + 1) ls (.long (P.wh t i) :: rest))) : W p l e R s m args below meth c H locs cells slots Q (F0 m pc ls (.int ((24 : Int32) * nI t + nI i) :: .ref (ad 5) :: rest)) := by
  rw [ix24]
  refine gN_lald hC hK hH 5 (by decide) rfl (24 * t + i) ⟨by omega, by decide⟩ hdg ?_
  rw [(ix24d hu.2).1, (ix24d hu.2).2]
  exact kk
theorem mr_re (hC : CallFix p m c cc nL s args gtbl own) (hK : kx D cy s) (hH : hp D A 13 ad (mct cy ad P wy so w r ns nw nr fr tt) H) (t i : Nat) (hu : t < 513 ∧ i < 24) (hdg : decode cc pc = .ok (.daload, 1))
    (kk : W p l e R s m args below meth c H locs cells slots Q (F0 m (pc + 1) ls (.double (P.re t i) :: rest))) : W p l e R s m args below meth c H locs cells slots Q (F0 m pc ls (.int ((24 : Int32) * nI t + nI i) :: .ref (ad 6) :: rest)) := by
  rw [ix24]
  refine gN_dald hC hK hH 6 (by decide) rfl (24 * t + i) ⟨by omega, by decide⟩ hdg ?_
  rw [(ix24d hu.2).1, (ix24d hu.2).2]
  exact kk
theorem up2_flat {α : Type} (f : Nat → Nat → α) {t i : Nat} (hi : i < 24) (v : α) (k : Nat) : up2 f t i v (k / 24) (k % 24) = if k = 24 * t + i then v else f (k / 24) (k % 24) := by
  unfold up2
  by_cases h : k = 24 * t + i
  · rw [if_pos h, if_pos (by omega)]
  · rw [if_neg h, if_neg (by omega)]
theorem mr_whs (hC : CallFix p m c cc nL s args gtbl own) (hK : kx D cy s) (hH : hp D A 13 ad (mct cy ad P wy so w r ns nw nr fr tt) H) (hS : va_S A H0 H locs) (t i : Nat) (hu : t < 513 ∧ i < 24) {v : Int64} (hdg : decode cc pc = .ok (.lastore, 1))
    (kk : ∀ (H1 : Heap) (locs1 : List Loc), hp D A 13 ad (mct cy ad (P.setW t i v) wy so w r ns nw nr fr tt) H1 → va_S A H0 H1 locs1 → W p l e R s m args below meth c H1 locs1 cells slots Q (F0 m (pc + 1) ls rest)) : W p l e R s m args below meth c H locs cells slots Q (F0 m pc ls (.long v :: .int ((24 : Int32) * nI t + nI i) :: .ref (ad 5) :: rest)) := by
  rw [ix24]
  refine gN_last (ct' := mct cy ad (P.setW t i v) wy so w r ns nw nr fr tt) hC hK hH hS 5 (by decide) rfl (24 * t + i) ⟨by omega, by decide⟩ ?_ ?_ hdg kk
  · show some _ = some _
    congr 6
    funext k
    exact up2_flat P.wh hu.2 v k
  · intro j hj
    rcases j with _ | _ | _ | _ | _ | _ | j <;> first | rfl | exact absurd rfl hj
theorem mr_res (hC : CallFix p m c cc nL s args gtbl own) (hK : kx D cy s) (hH : hp D A 13 ad (mct cy ad P wy so w r ns nw nr fr tt) H) (hS : va_S A H0 H locs) (t i : Nat) (hu : t < 513 ∧ i < 24) {v : UInt64} (hdg : decode cc pc = .ok (.dastore, 1))
    (kk : ∀ (H1 : Heap) (locs1 : List Loc), hp D A 13 ad (mct cy ad (P.setR t i v) wy so w r ns nw nr fr tt) H1 → va_S A H0 H1 locs1 → W p l e R s m args below meth c H1 locs1 cells slots Q (F0 m (pc + 1) ls rest)) : W p l e R s m args below meth c H locs cells slots Q (F0 m pc ls (.double v :: .int ((24 : Int32) * nI t + nI i) :: .ref (ad 6) :: rest)) := by
  rw [ix24]
  refine gN_dast (ct' := mct cy ad (P.setR t i v) wy so w r ns nw nr fr tt) hC hK hH hS 6 (by decide) rfl (24 * t + i) ⟨by omega, by decide⟩ ?_ ?_ hdg kk
  · show some _ = some _
    congr 8
    funext k
    exact up2_flat P.re hu.2 v k
  · intro j hj
    rcases j with _ | _ | _ | _ | _ | _ | _ | j <;> first | rfl | exact absurd rfl hj
theorem va_up_nI (f : Nat → Nat) (k v : Nat) : (fun j => nI (va_up f k v j)) = upd (fun j => nI (f j)) k (nI v) := by
  funext j
  unfold va_up upd
  by_cases h : j = k
  · rw [if_pos h, if_pos h]
  · rw [if_neg h, if_neg h]
theorem mr_cos (hC : CallFix p m c cc nL s args gtbl own) (hK : kx D cy s) (hH : hp D A 13 ad (mct cy ad P wy so w r ns nw nr fr tt) H) (hS : va_S A H0 H locs) (j v : Nat) (hu : j < 12) (hdg : decode cc pc = .ok (.iastore, 1))
    (kk : ∀ (H1 : Heap) (locs1 : List Loc), hp D A 13 ad (mct cy ad (P.setCo j v) wy so w r ns nw nr fr tt) H1 → va_S A H0 H1 locs1 → W p l e R s m args below meth c H1 locs1 cells slots Q (F0 m (pc + 1) ls rest)) : W p l e R s m args below meth c H locs cells slots Q (F0 m pc ls (.int (nI v) :: .int (nI j) :: .ref (ad 7) :: rest)) := by
  refine gN_iast (ct' := mct cy ad (P.setCo j v) wy so w r ns nw nr fr tt) hC hK hH hS 7 (by decide) rfl j ⟨hu, by decide⟩ ?_ ?_ hdg kk
  · show some (Sum.inl (cy 0, 12, Sum.inl (fun k => nI (va_up P.co j v k)))) = _
    rw [va_up_nI]
  · intro j hj
    rcases j with _ | _ | _ | _ | _ | _ | _ | _ | j <;> first | rfl | exact absurd rfl hj
theorem mr_kds (hC : CallFix p m c cc nL s args gtbl own) (hK : kx D cy s) (hH : hp D A 13 ad (mct cy ad P wy so w r ns nw nr fr tt) H) (hS : va_S A H0 H locs) (j v : Nat) (hu : j < 513) (hdg : decode cc pc = .ok (.iastore, 1))
    (kk : ∀ (H1 : Heap) (locs1 : List Loc), hp D A 13 ad (mct cy ad (P.setKd j v) wy so w r ns nw nr fr tt) H1 → va_S A H0 H1 locs1 → W p l e R s m args below meth c H1 locs1 cells slots Q (F0 m (pc + 1) ls rest)) : W p l e R s m args below meth c H locs cells slots Q (F0 m pc ls (.int (nI v) :: .int (nI j) :: .ref (ad 2) :: rest)) := by
  refine gN_iast (ct' := mct cy ad (P.setKd j v) wy so w r ns nw nr fr tt) hC hK hH hS 2 (by decide) rfl j ⟨hu, by decide⟩ ?_ ?_ hdg kk
  · show some (Sum.inl (cy 0, 513, Sum.inl (fun k => nI (va_up P.kd j v k)))) = _
    rw [va_up_nI]
  · intro j hj
    rcases j with _ | _ | _ | j <;> first | rfl | exact absurd rfl hj
theorem mr_lns (hC : CallFix p m c cc nL s args gtbl own) (hK : kx D cy s) (hH : hp D A 13 ad (mct cy ad P wy so w r ns nw nr fr tt) H) (hS : va_S A H0 H locs) (j v : Nat) (hu : j < 513) (hdg : decode cc pc = .ok (.iastore, 1))
    (kk : ∀ (H1 : Heap) (locs1 : List Loc), hp D A 13 ad (mct cy ad (P.setLn j v) wy so w r ns nw nr fr tt) H1 → va_S A H0 H1 locs1 → W p l e R s m args below meth c H1 locs1 cells slots Q (F0 m (pc + 1) ls rest)) : W p l e R s m args below meth c H locs cells slots Q (F0 m pc ls (.int (nI v) :: .int (nI j) :: .ref (ad 3) :: rest)) := by
  refine gN_iast (ct' := mct cy ad (P.setLn j v) wy so w r ns nw nr fr tt) hC hK hH hS 3 (by decide) rfl j ⟨hu, by decide⟩ ?_ ?_ hdg kk
  · show some (Sum.inl (cy 0, 513, Sum.inl (fun k => nI (va_up P.ln j v k)))) = _
    rw [va_up_nI]
  · intro j hj
    rcases j with _ | _ | _ | _ | j <;> first | rfl | exact absurd rfl hj
theorem mr_tgs (hC : CallFix p m c cc nL s args gtbl own) (hK : kx D cy s) (hH : hp D A 13 ad (mct cy ad P wy so w r ns nw nr fr tt) H) (hS : va_S A H0 H locs) (j : Nat) (v : Int32) (hu : j < 513) (hdg : decode cc pc = .ok (.iastore, 1))
    (kk : ∀ (H1 : Heap) (locs1 : List Loc), hp D A 13 ad (mct cy ad (P.setTg j v) wy so w r ns nw nr fr tt) H1 → va_S A H0 H1 locs1 → W p l e R s m args below meth c H1 locs1 cells slots Q (F0 m (pc + 1) ls rest)) : W p l e R s m args below meth c H locs cells slots Q (F0 m pc ls (.int v :: .int (nI j) :: .ref (ad 4) :: rest)) := by
  refine gN_iast (ct' := mct cy ad (P.setTg j v) wy so w r ns nw nr fr tt) hC hK hH hS 4 (by decide) rfl j ⟨hu, by decide⟩ ?_ ?_ hdg kk
  · rfl
  · intro j hj
    rcases j with _ | _ | _ | _ | _ | j <;> first | rfl | exact absurd rfl hj
theorem mct_8 {ns' : Nat → Int32} : ∀ j, j ≠ 8 → mct cy ad P wy so w r ns' nw nr fr tt j = mct cy ad P wy so w r ns nw nr fr tt j := by
  intro j hj
  rcases j with _ | _ | _ | _ | _ | _ | _ | _ | _ | j <;> first | rfl | exact absurd rfl hj
theorem mct_9 {nw' : Nat → Int64} : ∀ j, j ≠ 9 → mct cy ad P wy so w r ns nw' nr fr tt j = mct cy ad P wy so w r ns nw nr fr tt j := by
  intro j hj
  rcases j with _ | _ | _ | _ | _ | _ | _ | _ | _ | _ | j <;> first | rfl | exact absurd rfl hj
theorem mct_10 {nr' : Nat → UInt64} : ∀ j, j ≠ 10 → mct cy ad P wy so w r ns nw nr' fr tt j = mct cy ad P wy so w r ns nw nr fr tt j := by
  intro j hj
  rcases j with _ | _ | _ | _ | _ | _ | _ | _ | _ | _ | _ | j <;> first | rfl | exact absurd rfl hj
theorem mct_11 {fr' : Nat → Int32} : ∀ j, j ≠ 11 → mct cy ad P wy so w r ns nw nr fr' tt j = mct cy ad P wy so w r ns nw nr fr tt j := by
  intro j hj
  rcases j with _ | _ | _ | _ | _ | _ | _ | _ | _ | _ | _ | _ | j <;> first | rfl | exact absurd rfl hj
theorem mct_12 {tt' : Nat → Int32} : ∀ j, j ≠ 12 → mct cy ad P wy so w r ns nw nr fr tt' j = mct cy ad P wy so w r ns nw nr fr tt j := by
  intro j hj
  rcases j with _ | _ | _ | _ | _ | _ | _ | _ | _ | _ | _ | _ | _ | j <;> first | rfl | exact absurd rfl hj
theorem mct_n {v : Nat} : ∀ j, j ≠ 0 → mct cy ad (P.setN v) wy so w r ns nw nr fr tt j = mct cy ad P wy so w r ns nw nr fr tt j := by
  intro j hj
  cases j with
  | zero => exact absurd rfl hj
  | succ j => rfl
end MROWS
end
section
/-! floating numbers: none of the values that are made is a NaN -/
theorem fpn_fd (v : Int64) : vf_n32 (FP.fdiv (FP.l2f v) 1090519040) := by sorry
theorem fpn_f2d (v : Int64) : vf_n64 (FP.f2d (FP.fdiv (FP.l2f v) 1090519040)) := by sorry
theorem fpn_dd (v : Int64) : vf_n64 (FP.ddiv (FP.l2d v) 4620693217682128896) := by sorry
theorem fpn_lf (v : Int64) : vf_n64 (FP.f2d (FP.l2f v)) := by sorry
end
section
/-! WHAT EACH CALL ANSWERS AND DOES, over the state: the answer, the state behind it, WHY -/
def cN (c : Int32) : Nat := c.toNatClampNeg
theorem cN_nI {j : Nat} (h : j < 2 ^ 31) : cN (nI j) = j := nI_clamp h
theorem cN_c {j : Nat} (h : j < 12) : cN (nI j) = j := nI_clamp (by omega)
theorem cN_s {j n : Nat} (h : j ≤ n) (hn : n < 1000) : cN (nI j) = j := nI_clamp (by omega)
theorem cN_p {P : AS} {t k : Nat} (hw : WF P) (h : k < P.ln t) : cN (nI k) = k := nI_clamp (by have := hw.2.1 t; omega)
/-- a sort goes into another -/
def goes (a b : Nat) : Bool := decide ((gof a >>> (nI b &&& 31)) &&& 1 = 1)
/-- a value of sort a, its whole and real, as one of sort k -/
def wdn (a k : Nat) (w : Int64) (r : UInt64) : Int64 × UInt64 := if 6 ≤ k ∧ a ≤ 5 then (0, if k = 6 then FP.f2d (FP.l2f w) else FP.l2d w) else (w, r)
def tv (a b : Int32) : Int64 := (a.toInt64 <<< ((32 : Int32).toInt64 &&& 63)) ||| (b.toInt64 &&& 4294967295)
def told (k : Nat) (a b : Int32) : Int64 × UInt64 :=
  if k = 0 then (tv a b &&& 1, 0) else if k = 1 then ((tv a b).toInt32.toInt8.toInt32.toInt64, 0) else if k = 2 then (((tv a b).toInt32.toUInt32 % 65536).toInt32.toInt64, 0)
  else if k = 3 then ((tv a b).toInt32.toInt16.toInt32.toInt64, 0) else if k = 4 then ((tv a b).toInt32.toInt64, 0) else if k = 5 then (tv a b, 0)
  else if k = 6 then (0, FP.f2d (FP.fdiv (FP.l2f (tv a b)) 1090519040)) else (0, FP.ddiv (FP.l2d (tv a b)) 4620693217682128896)
/-- the DOUBLE that a value becomes -/
def dbl (k : Nat) (w : Int64) (r : UInt64) : UInt64 := if k ≤ 5 then FP.l2d w else r
def ordW (a : Nat) (w : Int64) (b : Nat) (w' : Int64) : Int32 := if decide (a = 0) = decide (b = 0) then (if w < w' then -1 else if w > w' then 1 else 0) else 2
def cmpD (x y : UInt64) : Int32 := if 0 ≤ Op.cmpValue (FP.dcmp x y) CmpOp.g then (if Op.cmpValue (FP.dcmp x y) CmpOp.l ≤ 0 then 0 else 1) else -1
/-- a value held against another: -1 less, 0 like, 1 greater, 2 not to be compared -/
def agn (a : Nat) (w : Int64) (r : UInt64) (b : Nat) (w' : Int64) (r' : UInt64) : Int32 :=
  if a ≠ 0 ∧ b ≠ 0 ∧ (6 ≤ a ∨ 6 ≤ b) then cmpD (dbl a w r) (dbl b w' r') else ordW a w b w'
/-- what fits a row of things -/
def fitK (k rk : Nat) : Bool := if rk = 8 then decide (12 ≤ k) else if rk = 9 then decide (k = 14) else if rk = 10 then decide (k = 4) else decide (k = 8) || decide (k = 9)
def fitP (P : AS) (u q : Nat) : Bool := decide (q = 0) || fitK (P.kd (q - 1)) (P.kd u)
/-- what a cell of sort or kind a with the whole w does in row u -/
def goesI (P : AS) (a : Nat) (w : Int64) (u : Nat) : Bool := if decide (a < 8) = decide (P.kd u < 8) then (if a < 8 then goes a (P.kd u) else fitP P u w.toNatClampNeg) else false
def rf (P : AS) (k : Nat) : Int32 × AS × Int32 := (0, P, nI k)
def AS.add (P : AS) (j k len : Nat) (tag : Int32) : AS := (P.n + 1, va_up P.kd P.n k, va_up P.ln P.n len, va_up P.tg P.n tag, P.wh, P.re, va_up P.co j (P.n + 1))
def sp_make (P : AS) (c k n : Int32) : Int32 × AS × Int32 :=
  if isC c = true ∧ inR k 0 14 = true ∧ (12 ≤ cN k ∨ inR n 0 24 = true) then (1, P.add (cN c) (cN k) (if cN k < 12 then cN n else 0) n, 0) else rf P 1
def sp_lay (P : AS) (c d : Int32) : Int32 × AS × Int32 := if isC c = true ∧ isC d = true then (if P.co (cN c) = 0 then 0 else 1, P.setCo (cN d) (P.co (cN c)), 0) else rf P 1
def sp_places (P : AS) (c : Int32) : Int32 × AS × Int32 := if isC c = true then (if rsRow P (cN c) = 0 then (nI (P.ln (P.co (cN c) - 1)), P, 0) else rf P (rsRow P (cN c))) else rf P 1
def sp_kind (P : AS) (c : Int32) : Int32 × AS × Int32 := if isC c = true then (if P.co (cN c) = 0 then -1 else nI (P.kd (P.co (cN c) - 1)), P, 0) else rf P 1
def isCd (P : AS) (j : Nat) : Bool := decide (P.co j ≠ 0 ∧ 12 ≤ P.kd (P.co j - 1))
def sp_tag (P : AS) (c : Int32) : Int32 × AS × Int32 := if isC c = true then (if isCd P (cN c) = true then (P.tg (P.co (cN c) - 1), P, 0) else rf P 5) else rf P 1
def sp_load (P : AS) (c : Int32) : Int32 × AS × Int32 :=
  if isC c = true then (if isCd P (cN c) = true then ((if P.kd (P.co (cN c) - 1) = 14 then 2 * P.tg (P.co (cN c) - 1) + 1 else P.tg (P.co (cN c) - 1)), P, 0) else rf P 5) else rf P 1
/-- place i of thing t gets a value told as one of sort a -/
def AS.put (P : AS) (t i : Nat) (x : Int64 × UInt64) : AS := (P.setW t i x.1).setR t i x.2
def sp_put (P : AS) (c i sort a b : Int32) : Int32 × AS × Int32 :=
  if isC c = true ∧ inR sort 0 7 = true then
    (if rsPl P (cN c) i = 0 then
      (if P.kd (P.co (cN c) - 1) < 8 ∧ goes (cN sort) (P.kd (P.co (cN c) - 1)) = true then
        (1, P.put (P.co (cN c) - 1) (cN i) (wdn (cN sort) (P.kd (P.co (cN c) - 1)) (told (cN sort) a b).1 (told (cN sort) a b).2), 0) else rf P 5) else rf P (rsPl P (cN c) i)) else rf P 1
def sp_putThing (P : AS) (c i d : Int32) : Int32 × AS × Int32 :=
  if isC c = true ∧ isC d = true then
    (if rsPl P (cN c) i = 0 then
      (if 8 ≤ P.kd (P.co (cN c) - 1) ∧ fitP P (P.co (cN c) - 1) (P.co (cN d)) = true then
        (if P.co (cN d) = 0 then 0 else 1, P.setW (P.co (cN c) - 1) (cN i) (lN (P.co (cN d))), 0) else rf P 5) else rf P (rsPl P (cN c) i)) else rf P 1
def rsVal (P : AS) (j : Nat) (i : Int32) (k : Nat) : Nat := if rsPl P j i = 0 then (if P.kd (P.co j - 1) < 8 ∧ goes (P.kd (P.co j - 1)) k = true then 0 else 5) else rsPl P j i
def valAs (P : AS) (t i k : Nat) : Int64 × UInt64 := wdn (P.kd t) k (P.wh t i) (P.re t i)
def sp_number (P : AS) (c i sort : Int32) : Int64 × AS × Int32 :=
  if isC c = true ∧ inR sort 0 5 = true then (if rsVal P (cN c) i (cN sort) = 0 then ((valAs P (P.co (cN c) - 1) (cN i) (cN sort)).1, P, 0) else (0, P, nI (rsVal P (cN c) i (cN sort)))) else (0, P, 1)
def sp_point (P : AS) (c i sort : Int32) : UInt64 × AS × Int32 :=
  if isC c = true ∧ inR sort 6 7 = true then (if rsVal P (cN c) i (cN sort) = 0 then ((valAs P (P.co (cN c) - 1) (cN i) (cN sort)).2, P, 0) else (0, P, nI (rsVal P (cN c) i (cN sort)))) else (0, P, 1)
def kOf (P : AS) (q : Nat) : Int32 := if q = 0 then -1 else nI (P.kd (q - 1))
def sp_what (P : AS) (c i : Int32) : Int32 × AS × Int32 :=
  if isC c = true then (if rsPl P (cN c) i = 0 then (if P.kd (P.co (cN c) - 1) < 8 then (nI (P.kd (P.co (cN c) - 1)), P, 0) else (kOf P (P.wh (P.co (cN c) - 1) (cN i)).toNatClampNeg, P, 0)) else rf P (rsPl P (cN c) i)) else rf P 1
def sp_take (P : AS) (c i d : Int32) : Int32 × AS × Int32 :=
  if isC c = true ∧ isC d = true then
    (if rsRow P (cN c) = 0 then
      (if P.kd (P.co (cN c) - 1) < 8 then rf P 6 else if hasP P (P.co (cN c) - 1) i = true then
        (if (P.wh (P.co (cN c) - 1) (cN i)).toNatClampNeg = 0 then 0 else 1, P.setCo (cN d) (P.wh (P.co (cN c) - 1) (cN i)).toNatClampNeg, 0) else rf P 4) else rf P (rsRow P (cN c))) else rf P 1
/-- the model's end: the answer, and the model's cells with the new state; its own scratch is free -/
def mpost (cy : Nat → ClassId) (ad : Nat → Nat) (x : Int32 × AS × Int32) : Option Value → (Nat → Option va_E) → Prop := fun v c' => v = some (.int x.1) ∧ ∃ (so : Int32) (w : Int64) (r : UInt64) (ns : Nat → Int32) (nw : Nat → Int64) (nr : Nat → UInt64) (fr tt : Nat → Int32), c' = mct cy ad x.2.1 x.2.2 so w r ns nw nr fr tt
theorem mpost.mk {cy : Nat → ClassId} {ad : Nat → Nat} {x : Int32 × AS × Int32} {v : Int32} {P : AS} {wy so : Int32} {w : Int64} {r : UInt64} {ns : Nat → Int32} {nw : Nat → Int64} {nr : Nat → UInt64} {fr tt : Nat → Int32} (h : x = (v, P, wy)) : mpost cy ad x (some (.int v)) (mct cy ad P wy so w r ns nw nr fr tt) := by
  subst h; exact ⟨rfl, _, _, _, _, _, _, _, _, rfl⟩
def mpostL (cy : Nat → ClassId) (ad : Nat → Nat) (x : Int64 × AS × Int32) : Option Value → (Nat → Option va_E) → Prop := fun v c' => v = some (.long x.1) ∧ ∃ (so : Int32) (w : Int64) (r : UInt64) (ns : Nat → Int32) (nw : Nat → Int64) (nr : Nat → UInt64) (fr tt : Nat → Int32), c' = mct cy ad x.2.1 x.2.2 so w r ns nw nr fr tt
theorem mpostL.mk {cy : Nat → ClassId} {ad : Nat → Nat} {x : Int64 × AS × Int32} {v : Int64} {P : AS} {wy so : Int32} {w : Int64} {r : UInt64} {ns : Nat → Int32} {nw : Nat → Int64} {nr : Nat → UInt64} {fr tt : Nat → Int32} (h : x = (v, P, wy)) : mpostL cy ad x (some (.long v)) (mct cy ad P wy so w r ns nw nr fr tt) := by
  subst h; exact ⟨rfl, _, _, _, _, _, _, _, _, rfl⟩
def mpostD (cy : Nat → ClassId) (ad : Nat → Nat) (x : UInt64 × AS × Int32) : Option Value → (Nat → Option va_E) → Prop := fun v c' => v = some (.double x.1) ∧ ∃ (so : Int32) (w : Int64) (r : UInt64) (ns : Nat → Int32) (nw : Nat → Int64) (nr : Nat → UInt64) (fr tt : Nat → Int32), c' = mct cy ad x.2.1 x.2.2 so w r ns nw nr fr tt
theorem mpostD.mk {cy : Nat → ClassId} {ad : Nat → Nat} {x : UInt64 × AS × Int32} {v : UInt64} {P : AS} {wy so : Int32} {w : Int64} {r : UInt64} {ns : Nat → Int32} {nw : Nat → Int64} {nr : Nat → UInt64} {fr tt : Nat → Int32} (h : x = (v, P, wy)) : mpostD cy ad x (some (.double v)) (mct cy ad P wy so w r ns nw nr fr tt) := by
  subst h; exact ⟨rfl, _, _, _, _, _, _, _, _, rfl⟩
theorem hasP_1 {P : AS} {t : Nat} {i : Int32} (h : ¬ i < 0) (h2 : ¬ nI (P.ln t) ≤ i) (hb : P.ln t < 2 ^ 31) : (1 : Int32) = b2i (hasP P t i) := by
  have : hasP P t i = true := by
    unfold hasP; rw [decide_eq_true_eq]; rw [i_lt] at h; rw [i_le, nI_toInt hb] at h2
    exact ⟨Int.not_lt.mp h, Int.not_le.mp h2⟩
  rw [this]; rfl
theorem hasP_0a {P : AS} {t : Nat} {i : Int32} (h : i < 0) : (0 : Int32) = b2i (hasP P t i) := by
  have : hasP P t i = false := by
    unfold hasP; rw [decide_eq_false_iff_not]; rw [i_lt] at h
    exact fun x => absurd h (Int.not_lt.mpr x.1)
  rw [this]; rfl
theorem hasP_0b {P : AS} {t : Nat} {i : Int32} (h2 : nI (P.ln t) ≤ i) (hb : P.ln t < 2 ^ 31) : (0 : Int32) = b2i (hasP P t i) := by
  have : hasP P t i = false := by
    unfold hasP; rw [decide_eq_false_iff_not]; rw [i_le, nI_toInt hb] at h2
    exact fun x => absurd x.2 (Int.not_lt.mpr h2)
  rw [this]; rfl
theorem lc_iff (x y : Int64) : (lg_cmp x y = 0 ↔ x = y) ∧ (0 ≤ lg_cmp x y ↔ ¬ x < y) ∧ (lg_cmp x y ≤ 0 ↔ ¬ x > y) := by
  unfold lg_cmp
  have e1 : x = y ↔ x.toInt = y.toInt := Int64.toInt_inj.symm
  have e2 : x < y ↔ x.toInt < y.toInt := Int64.lt_iff_toInt_lt
  have e3 : x > y ↔ y.toInt < x.toInt := Int64.lt_iff_toInt_lt
  by_cases h : x > y
  · rw [if_pos h]; refine ⟨⟨fun h0 => absurd h0 (by decide), fun h0 => by rw [e3] at h; rw [e1] at h0; omega⟩, ⟨fun _ h0 => by rw [e3] at h; rw [e2] at h0; omega, fun _ => by decide⟩, ⟨fun h0 => absurd h0 (by decide), fun h0 => absurd h h0⟩⟩
  · rw [if_neg h]
    by_cases h2 : x = y
    · rw [if_pos h2]; refine ⟨⟨fun _ => h2, fun _ => rfl⟩, ⟨fun _ h0 => by rw [e2] at h0; rw [e1] at h2; omega, fun _ => by decide⟩, ⟨fun _ => h, fun _ => by decide⟩⟩
    · rw [if_neg h2]; refine ⟨⟨fun h0 => absurd h0 (by decide), fun h0 => absurd h0 h2⟩, ⟨fun h0 => absurd h0 (by decide), fun h0 => by rw [e2] at h0; rw [e3] at h; rw [e1] at h2; omega⟩, ⟨fun _ => h, fun _ => by decide⟩⟩
theorem lc_eqT {x y : Int64} (h : lg_cmp x y = 0) : x = y := (lc_iff x y).1.mp h
theorem lc_eqF {x y : Int64} (h : ¬ lg_cmp x y = 0) : ¬ x = y := fun e => h ((lc_iff x y).1.mpr e)
theorem lc_neT {x y : Int64} (h : ¬ lg_cmp x y = 0) : ¬ x = y := lc_eqF h
theorem lc_neF {x y : Int64} (h : lg_cmp x y = 0) : x = y := lc_eqT h
theorem lc_geT {x y : Int64} (h : 0 ≤ lg_cmp x y) : ¬ x < y := (lc_iff x y).2.1.mp h
theorem lc_geF {x y : Int64} (h : ¬ 0 ≤ lg_cmp x y) : x < y := Classical.byContradiction (fun e => h ((lc_iff x y).2.1.mpr e))
theorem lc_leT {x y : Int64} (h : lg_cmp x y ≤ 0) : ¬ x > y := (lc_iff x y).2.2.mp h
theorem lc_leF {x y : Int64} (h : ¬ lg_cmp x y ≤ 0) : x > y := Classical.byContradiction (fun e => h ((lc_iff x y).2.2.mpr e))
theorem wdn_no {a k : Nat} {w : Int64} {r : UInt64} (h : ¬ (6 ≤ k ∧ a ≤ 5)) : wdn a k w r = (w, r) := by unfold wdn; rw [if_neg h]
theorem wdn_6 {a k : Nat} {w : Int64} {r : UInt64} (h : k = 6 ∧ a ≤ 5) : wdn a k w r = (0, FP.f2d (FP.l2f w)) := by unfold wdn; rw [if_pos (by omega), if_pos h.1]
theorem wdn_7 {a k : Nat} {w : Int64} {r : UInt64} (h : 6 ≤ k ∧ k ≠ 6 ∧ a ≤ 5) : wdn a k w r = (0, FP.l2d w) := by unfold wdn; rw [if_pos (by omega), if_neg h.2.1]
theorem lN_clamp {n : Nat} (h : n < 2 ^ 31) : (lN n).toNatClampNeg = n := by
  show (lN n).toInt.toNat = n
  rw [lN_toInt h]; rfl
theorem lN_z {n : Nat} (h : n < 2 ^ 31) : lN n = 0 ↔ n = 0 := lN_eq (b := 0) h (by decide)
/-- what a cell of a thing's kind holds: nothing, or a thing -/
def TH (P : AS) (a : Nat) (w : Int64) : Prop := 8 ≤ a → ∃ q, w = lN q ∧ q ≤ P.n
theorem fitK_r8 {k rk : Nat} (h : rk = 8) : fitK k rk = decide (12 ≤ k) := by unfold fitK; rw [if_pos h]
theorem fitK_r9 {k rk : Nat} (h : rk = 9) : fitK k rk = decide (k = 14) := by unfold fitK; rw [if_neg (by omega), if_pos h]
theorem fitK_r10 {k rk : Nat} (h : rk = 10) : fitK k rk = decide (k = 4) := by unfold fitK; rw [if_neg (by omega), if_neg (by omega), if_pos h]
theorem fitK_r11 {k rk : Nat} (h : rk = 11) : fitK k rk = decide (k = 8 ∨ k = 9) := by unfold fitK; rw [if_neg (by omega), if_neg (by omega), if_neg (by omega)]; by_cases h1 : k = 8 <;> by_cases h2 : k = 9 <;> simp [h1, h2]
theorem fitP_0 (P : AS) (u : Nat) : fitP P u 0 = true := rfl
theorem fitP_s (P : AS) (u x : Nat) : fitP P u (x + 1) = fitK (P.kd x) (P.kd u) := by unfold fitP; rw [decide_eq_false (by omega), Bool.false_or]; rfl
theorem goesI_ne {P : AS} {a : Nat} {w : Int64} {u : Nat} (h : ¬ (a < 8 ↔ P.kd u < 8)) : goesI P a w u = false := by
  unfold goesI; rw [if_neg (fun h2 => h (by rw [decide_eq_decide] at h2; exact h2))]
theorem goesI_v {P : AS} {a : Nat} {w : Int64} {u : Nat} (h : a < 8) (h2 : P.kd u < 8) : goesI P a w u = goes a (P.kd u) := by
  unfold goesI; rw [if_pos (by rw [decide_eq_true h, decide_eq_true h2]), if_pos h]
theorem goesI_t {P : AS} {a q : Nat} {u : Nat} (h : ¬ a < 8) (h2 : ¬ P.kd u < 8) (hq : q < 2 ^ 31) : goesI P a (lN q) u = fitP P u q := by
  unfold goesI; rw [if_pos (by rw [decide_eq_false h, decide_eq_false h2]), if_neg h, lN_clamp hq]
theorem i2d_0 : FP.i2d 0 = 0 := by decide +kernel
theorem isCd_t {P : AS} {j t : Nat} (h : P.co j = t + 1) (h2 : ¬ P.kd t < 12) : isCd P j = true := by unfold isCd; rw [h, decide_eq_true_eq]; exact ⟨by omega, by show 12 ≤ P.kd t; omega⟩
theorem isCd_r {P : AS} {j t : Nat} (h : P.co j = t + 1) (h2 : P.kd t < 12) : isCd P j = false := by unfold isCd; rw [h, decide_eq_false_iff_not]; intro h3; have : 12 ≤ P.kd t := h3.2; omega
theorem isCd_0 {P : AS} {j : Nat} (h : P.co j = 0) : isCd P j = false := by unfold isCd; rw [h, decide_eq_false_iff_not]; exact fun h3 => h3.1 rfl
theorem isCd_ex {P : AS} {j : Nat} (h : isCd P j = true) : ∃ t, P.co j = t + 1 ∧ 12 ≤ P.kd t := by
  unfold isCd at h; rw [decide_eq_true_eq] at h
  exact ⟨P.co j - 1, by omega, h.2⟩
theorem goesI_k {P : AS} {a : Nat} {w : Int64} {u : Nat} (h : a < 8) (h2 : goesI P a w u = true) : P.kd u < 8 ∧ goes a (P.kd u) = true := by
  by_cases h3 : P.kd u < 8
  · rw [goesI_v h h3] at h2; exact ⟨h3, h2⟩
  · rw [goesI_ne (by omega)] at h2; cases h2
theorem goesI_nk {P : AS} {a : Nat} {w : Int64} {u : Nat} (h : a < 8) (h2 : goesI P a w u = false) : ¬ (P.kd u < 8 ∧ goes a (P.kd u) = true) := by
  intro h3
  rw [goesI_v h h3.1, h3.2] at h2; cases h2
theorem rsVal_le (P : AS) (j : Nat) (i : Int32) (k : Nat) : rsVal P j i k ≤ 5 := by unfold rsVal; have := rsPl_le P j i; split <;> (try split) <;> omega
theorem inR_67 {v : Int32} (h : inR v 6 7 = true) : ∃ j, j ≤ 7 ∧ 6 ≤ j ∧ v = nI j := by
  unfold inR at h
  rw [Bool.and_eq_true, decide_eq_true_eq, decide_eq_true_eq] at h
  have h1 := h.1
  have h2 := h.2
  rw [i_le] at h1 h2
  have e6 : (6 : Int32).toInt = 6 := by decide
  have e7 : (7 : Int32).toInt = 7 := by decide
  rw [e6] at h1
  rw [e7] at h2
  refine ⟨v.toInt.toNat, by omega, by omega, ?_⟩
  rw [i_eq, nI_toInt (by omega)]; omega
end
section
theorem mv_X8_refuse : mvok RX8 yX8_refuse cX8_refuse 2 (some .int) 1 := ⟨qK_X8_refuse, qI_X8_refuse, qSel_X8_X8_refuse, qInit_X8, by decide +kernel⟩
set_option maxHeartbeats 4000000 in
set_option maxRecDepth 100000 in
theorem c_X8_refuse {l : Launch} {D : va_G} {cy : Nat → ClassId} {ad : Nat → Nat} {P : AS} {wy : Int32} {so : Int32} {w : Int64} {r : UInt64} {ns : Nat → Int32} {nw : Nat → Int64} {nr : Nat → UInt64} {fr : Nat → Int32} {tt : Nat → Int32} {k : Int32}  : CM l yX8_refuse cX8_refuse 2 (some .int) (rm_ 0 0) D cy 13 ad [.ref (ad 0), .int (k)] (mct cy ad P wy so w r ns nw nr fr tt) (some (.int (0))) (mct cy ad P k so w r ns nw nr fr tt) := by
  refine CM.start (by decide) (Nat.le_of_ble_eq_true rfl) ?_
  intro p_ e_ s m_ below meth cd A ls hC hr hlk hin hK hA hH hl
  obtain ⟨hx, hb, hml, hown, hts⟩ := id hC
  have hS : va_S A s.heap s.heap [] := va_S.rf
  have hl : lv_has ls 2 [(0, .ref (ad 0)), (1, .int (k))] := hl
  refine lv_aload_n hx hb dX8_refuse_0 rfl (lv_at hl 0 rfl) ?_
  refine lv_iload_n hx hb dX8_refuse_1 rfl (lv_at hl 1 rfl) ?_
  refine g_put (ct' := mct cy ad P k so w r ns nw nr fr tt) hC hK inG8 tyX8 tyX8_ok nmX8 hH hS 0 (by decide) rfl rfl 8 (by decide) qF_X8_48 rfl rfl rfl rfl (Nat.le_of_ble_eq_true rfl) rfl mct_0 dX8_refuse_2 (fun H locs hH hS => ?_)
  refine lv_iconst (v := 0) hx hb dX8_refuse_5 (by decide) ?_
  exact cm_ri hC hr hlk (rfl) (rfl) hH hS dX8_refuse_6
theorem ms_X8_isIn : msok yX8_isIn cX8_isIn 3 (some .boolean) 3 := ⟨qK_X8_isIn, qSt_X8_isIn, qInit_X8, by decide +kernel⟩
set_option maxHeartbeats 4000000 in
set_option maxRecDepth 100000 in
theorem c_X8_isIn {l : Launch} {D : va_G} {cy : Nat → ClassId} {ad : Nat → Nat} {N : Nat} {ct : Nat → Option va_E} {v lo hi : Int32}  : CM l yX8_isIn cX8_isIn 3 (some .boolean) (rm_ 0 0) D cy N ad [.int (v), .int (lo), .int (hi)] ct (some (.int (b2i (inR v lo hi)))) ct := by
  refine CM.start (by decide) (Nat.le_of_ble_eq_true rfl) ?_
  intro p_ e_ s m_ below meth cd A ls hC hr hlk hin hK hA hH hl
  obtain ⟨hx, hb, hml, hown, hts⟩ := id hC
  have hS : va_S A s.heap s.heap [] := va_S.rf
  have hl : lv_has ls 3 [(0, .int (v)), (1, .int (lo)), (2, .int (hi))] := hl
  refine lv_iload_n hx hb dX8_isIn_0 rfl (lv_at hl 0 rfl) ?_
  refine lv_iload_n hx hb dX8_isIn_1 rfl (lv_at hl 1 rfl) ?_
  refine lv_icmp_lt (tgt := 14) hx hb dX8_isIn_2 (by decide) (fun c_2 => ?_) (fun c_2 => ?_)
  · refine lv_iconst (v := 0) hx hb dX8_isIn_14 (by decide) ?_
    exact cm_rz hC hr hlk (by first | exact Or.inl rfl | exact Or.inr rfl | exact b2i_01 _) (by first | (rw [inR_lo (by assumption)]; rfl) | (rw [inR_hi (by assumption)]; rfl) | (rw [inR_in (by assumption) (by assumption)]; rfl)) (rfl) hH hS dX8_isIn_15
  · refine lv_iload_n hx hb dX8_isIn_5 rfl (lv_at hl 0 rfl) ?_
    refine lv_iload_n hx hb dX8_isIn_6 rfl (lv_at hl 2 rfl) ?_
    refine lv_icmp_gt (tgt := 14) hx hb dX8_isIn_7 (by decide) (fun c_7 => ?_) (fun c_7 => ?_)
    · refine lv_iconst (v := 0) hx hb dX8_isIn_14 (by decide) ?_
      exact cm_rz hC hr hlk (by first | exact Or.inl rfl | exact Or.inr rfl | exact b2i_01 _) (by first | (rw [inR_lo (by assumption)]; rfl) | (rw [inR_hi (by assumption)]; rfl) | (rw [inR_in (by assumption) (by assumption)]; rfl)) (rfl) hH hS dX8_isIn_15
    · refine lv_iconst (v := 1) hx hb dX8_isIn_10 (by decide) ?_
      refine lv_goto (tgt := 15) hx hb dX8_isIn_11 (by decide) ?_
      exact cm_rz hC hr hlk (by first | exact Or.inl rfl | exact Or.inr rfl | exact b2i_01 _) (by first | (rw [inR_lo (by assumption)]; rfl) | (rw [inR_hi (by assumption)]; rfl) | (rw [inR_in (by assumption) (by assumption)]; rfl)) (rfl) hH hS dX8_isIn_15
theorem ms_X8_isColumn : msok yX8_isColumn cX8_isColumn 1 (some .boolean) 1 := ⟨qK_X8_isColumn, qSt_X8_isColumn, qInit_X8, by decide +kernel⟩
set_option maxHeartbeats 4000000 in
set_option maxRecDepth 100000 in
theorem c_X8_isColumn {l : Launch} {D : va_G} {cy : Nat → ClassId} {ad : Nat → Nat} {N : Nat} {ct : Nat → Option va_E} {v : Int32}  : CM l yX8_isColumn cX8_isColumn 1 (some .boolean) (rm_ 1 22) D cy N ad [.int (v)] ct (some (.int (b2i (isC v)))) ct := by
  refine CM.start (by decide) (Nat.le_of_ble_eq_true rfl) ?_
  intro p_ e_ s m_ below meth cd A ls hC hr hlk hin hK hA hH hl
  obtain ⟨hx, hb, hml, hown, hts⟩ := id hC
  have hS : va_S A s.heap s.heap [] := va_S.rf
  have hl : lv_has ls 1 [(0, .int (v))] := hl
  refine lv_iload_n hx hb dX8_isColumn_0 rfl (lv_at hl 0 rfl) ?_
  refine lv_iconst (v := 0) hx hb dX8_isColumn_1 (by decide) ?_
  refine lv_bipush (v := 11) hx hb dX8_isColumn_2 (by decide) ?_
  refine cm_S (As := [.int (v), .int (0), .int (11)]) (rest := []) hC (c_X8_isIn) ms_X8_isIn qM_X8_52 ⟨⟨rfl, rfl⟩, Nat.le_of_ble_eq_true rfl, Nat.le_of_ble_eq_true rfl⟩ hK hH hS hA hl.1 ⟨Nat.zero_le _, Nat.zero_le _⟩ rfl rfl (Nat.le_of_ble_eq_true rfl) dX8_isColumn_4 (fun H locs hH hS => ?_)
  exact cm_rz hC hr hlk (by first | exact Or.inl rfl | exact Or.inr rfl | exact b2i_01 _) (rfl) (rfl) hH hS dX8_isColumn_7
theorem mv_X8_in : mvok RX8 yX8_in cX8_in 2 (some .int) 1 := ⟨qK_X8_in, qI_X8_in, qSel_X8_X8_in, qInit_X8, by decide +kernel⟩
set_option maxHeartbeats 4000000 in
set_option maxRecDepth 100000 in
theorem c_X8_in {l : Launch} {D : va_G} {cy : Nat → ClassId} {ad : Nat → Nat} {P : AS} {wy : Int32} {so : Int32} {w : Int64} {r : UInt64} {ns : Nat → Int32} {nw : Nat → Int64} {nr : Nat → UInt64} {fr : Nat → Int32} {tt : Nat → Int32} {j : Nat} (hj : j < 12) : CM l yX8_in cX8_in 2 (some .int) (rm_ 0 0) D cy 13 ad [.ref (ad 0), .int (nI j)] (mct cy ad P wy so w r ns nw nr fr tt) (some (.int (nI (P.co j) - 1))) (mct cy ad P wy so w r ns nw nr fr tt) := by
  refine CM.start (by decide) (Nat.le_of_ble_eq_true rfl) ?_
  intro p_ e_ s m_ below meth cd A ls hC hr hlk hin hK hA hH hl
  obtain ⟨hx, hb, hml, hown, hts⟩ := id hC
  have hS : va_S A s.heap s.heap [] := va_S.rf
  have hl : lv_has ls 2 [(0, .ref (ad 0)), (1, .int (nI j))] := hl
  refine lv_aload_n hx hb dX8_in_0 rfl (lv_at hl 0 rfl) ?_
  refine g_get hC hK inG8 hH 0 (by decide) rfl rfl 7 (by decide) qF_X8_30 (Or.inl rfl) rfl dX8_in_1 ?_
  refine lv_iload_n hx hb dX8_in_4 rfl (lv_at hl 1 rfl) ?_
  refine gN_iald hC hK hH 7 (by decide) rfl j (by omega) dX8_in_5 ?_
  refine lv_iconst (v := 1) hx hb dX8_in_6 (by decide) ?_
  refine lv_isub hx hb dX8_in_7 ?_
  exact cm_ri hC hr hlk (rfl) (rfl) hH hS dX8_in_8
theorem c_X8_in1 {l : Launch} {D : va_G} {cy : Nat → ClassId} {ad : Nat → Nat} {P : AS} {wy so : Int32} {w : Int64} {r : UInt64} {ns : Nat → Int32} {nw : Nat → Int64} {nr : Nat → UInt64} {fr tt : Nat → Int32} {j t : Nat} (hj : j < 12) (hco : P.co j = t + 1) : CM l yX8_in cX8_in 2 (some .int) (rm_ 0 0) D cy 13 ad [.ref (ad 0), .int (nI j)] (mct cy ad P wy so w r ns nw nr fr tt) (some (.int (nI t))) (mct cy ad P wy so w r ns nw nr fr tt) := by
  have h := c_X8_in (l := l) (D := D) (cy := cy) (ad := ad) (P := P) (wy := wy) (so := so) (w := w) (r := r) (ns := ns) (nw := nw) (nr := nr) (fr := fr) (tt := tt) hj
  rw [hco, nI_pred] at h
  exact h
theorem c_X8_in0 {l : Launch} {D : va_G} {cy : Nat → ClassId} {ad : Nat → Nat} {P : AS} {wy so : Int32} {w : Int64} {r : UInt64} {ns : Nat → Int32} {nw : Nat → Int64} {nr : Nat → UInt64} {fr tt : Nat → Int32} {j : Nat} (hj : j < 12) (hco : P.co j = 0) : CM l yX8_in cX8_in 2 (some .int) (rm_ 0 0) D cy 13 ad [.ref (ad 0), .int (nI j)] (mct cy ad P wy so w r ns nw nr fr tt) (some (.int (-1))) (mct cy ad P wy so w r ns nw nr fr tt) := by
  have h := c_X8_in (l := l) (D := D) (cy := cy) (ad := ad) (P := P) (wy := wy) (so := so) (w := w) (r := r) (ns := ns) (nw := nw) (nr := nr) (fr := fr) (tt := tt) hj
  rw [hco] at h
  exact h
theorem mv_X8_isRow : mvok RX8 yX8_isRow cX8_isRow 2 (some .boolean) 1 := ⟨qK_X8_isRow, qI_X8_isRow, qSel_X8_X8_isRow, qInit_X8, by decide +kernel⟩
set_option maxHeartbeats 4000000 in
set_option maxRecDepth 100000 in
theorem c_X8_isRow {l : Launch} {D : va_G} {cy : Nat → ClassId} {ad : Nat → Nat} {P : AS} {wy : Int32} {so : Int32} {w : Int64} {r : UInt64} {ns : Nat → Int32} {nw : Nat → Int64} {nr : Nat → UInt64} {fr : Nat → Int32} {tt : Nat → Int32} {u : Nat} (hu : u < 513) (hw : WF P) : CM l yX8_isRow cX8_isRow 2 (some .boolean) (rm_ 0 0) D cy 13 ad [.ref (ad 0), .int (nI u)] (mct cy ad P wy so w r ns nw nr fr tt) (some (.int (b2i (decide (P.kd u < 12))))) (mct cy ad P wy so w r ns nw nr fr tt) := by
  have hku := hw.1 u
  refine CM.start (by decide) (Nat.le_of_ble_eq_true rfl) ?_
  intro p_ e_ s m_ below meth cd A ls hC hr hlk hin hK hA hH hl
  obtain ⟨hx, hb, hml, hown, hts⟩ := id hC
  have hS : va_S A s.heap s.heap [] := va_S.rf
  have hl : lv_has ls 2 [(0, .ref (ad 0)), (1, .int (nI u))] := hl
  refine lv_aload_n hx hb dX8_isRow_0 rfl (lv_at hl 0 rfl) ?_
  refine g_get hC hK inG8 hH 0 (by decide) rfl rfl 1 (by decide) qF_X8_13 (Or.inl rfl) rfl dX8_isRow_1 ?_
  refine lv_iload_n hx hb dX8_isRow_4 rfl (lv_at hl 1 rfl) ?_
  refine gN_iald hC hK hH 2 (by decide) rfl u (by omega) dX8_isRow_5 ?_
  refine lv_bipush (v := 12) hx hb dX8_isRow_6 (by decide) ?_
  refine lv_icmp_ge (tgt := 15) hx hb dX8_isRow_8 (by decide) (fun c_8 => ?_) (fun c_8 => ?_)
  · have c_8 := nc_le (a := 12) (b := (P.kd u)) (by omega) (by omega) c_8
    refine lv_iconst (v := 0) hx hb dX8_isRow_15 (by decide) ?_
    exact cm_rz hC hr hlk (by first | exact Or.inl rfl | exact Or.inr rfl | exact b2i_01 _) (by first | exact b2d_1 (by omega) | exact b2d_0 (by omega)) (rfl) hH hS dX8_isRow_16
  · have c_8 := nc_nle (a := 12) (b := (P.kd u)) (by omega) (by omega) c_8
    refine lv_iconst (v := 1) hx hb dX8_isRow_11 (by decide) ?_
    refine lv_goto (tgt := 16) hx hb dX8_isRow_12 (by decide) ?_
    exact cm_rz hC hr hlk (by first | exact Or.inl rfl | exact Or.inr rfl | exact b2i_01 _) (by first | exact b2d_1 (by omega) | exact b2d_0 (by omega)) (rfl) hH hS dX8_isRow_16
theorem mv_X8_isPlain : mvok RX8 yX8_isPlain cX8_isPlain 2 (some .boolean) 1 := ⟨qK_X8_isPlain, qI_X8_isPlain, qSel_X8_X8_isPlain, qInit_X8, by decide +kernel⟩
set_option maxHeartbeats 4000000 in
set_option maxRecDepth 100000 in
theorem c_X8_isPlain {l : Launch} {D : va_G} {cy : Nat → ClassId} {ad : Nat → Nat} {P : AS} {wy : Int32} {so : Int32} {w : Int64} {r : UInt64} {ns : Nat → Int32} {nw : Nat → Int64} {nr : Nat → UInt64} {fr : Nat → Int32} {tt : Nat → Int32} {u : Nat} (hu : u < 513) (hw : WF P) : CM l yX8_isPlain cX8_isPlain 2 (some .boolean) (rm_ 0 0) D cy 13 ad [.ref (ad 0), .int (nI u)] (mct cy ad P wy so w r ns nw nr fr tt) (some (.int (b2i (decide (P.kd u < 8))))) (mct cy ad P wy so w r ns nw nr fr tt) := by
  have hku := hw.1 u
  refine CM.start (by decide) (Nat.le_of_ble_eq_true rfl) ?_
  intro p_ e_ s m_ below meth cd A ls hC hr hlk hin hK hA hH hl
  obtain ⟨hx, hb, hml, hown, hts⟩ := id hC
  have hS : va_S A s.heap s.heap [] := va_S.rf
  have hl : lv_has ls 2 [(0, .ref (ad 0)), (1, .int (nI u))] := hl
  refine lv_aload_n hx hb dX8_isPlain_0 rfl (lv_at hl 0 rfl) ?_
  refine g_get hC hK inG8 hH 0 (by decide) rfl rfl 1 (by decide) qF_X8_13 (Or.inl rfl) rfl dX8_isPlain_1 ?_
  refine lv_iload_n hx hb dX8_isPlain_4 rfl (lv_at hl 1 rfl) ?_
  refine gN_iald hC hK hH 2 (by decide) rfl u (by omega) dX8_isPlain_5 ?_
  refine lv_bipush (v := 8) hx hb dX8_isPlain_6 (by decide) ?_
  refine lv_icmp_ge (tgt := 15) hx hb dX8_isPlain_8 (by decide) (fun c_8 => ?_) (fun c_8 => ?_)
  · have c_8 := nc_le (a := 8) (b := (P.kd u)) (by omega) (by omega) c_8
    refine lv_iconst (v := 0) hx hb dX8_isPlain_15 (by decide) ?_
    exact cm_rz hC hr hlk (by first | exact Or.inl rfl | exact Or.inr rfl | exact b2i_01 _) (by first | exact b2d_1 (by omega) | exact b2d_0 (by omega)) (rfl) hH hS dX8_isPlain_16
  · have c_8 := nc_nle (a := 8) (b := (P.kd u)) (by omega) (by omega) c_8
    refine lv_iconst (v := 1) hx hb dX8_isPlain_11 (by decide) ?_
    refine lv_goto (tgt := 16) hx hb dX8_isPlain_12 (by decide) ?_
    exact cm_rz hC hr hlk (by first | exact Or.inl rfl | exact Or.inr rfl | exact b2i_01 _) (by first | exact b2d_1 (by omega) | exact b2d_0 (by omega)) (rfl) hH hS dX8_isPlain_16
theorem mv_X8_hasPlace : mvok RX8 yX8_hasPlace cX8_hasPlace 3 (some .boolean) 2 := ⟨qK_X8_hasPlace, qI_X8_hasPlace, qSel_X8_X8_hasPlace, qInit_X8, by decide +kernel⟩
set_option maxHeartbeats 4000000 in
set_option maxRecDepth 100000 in
theorem c_X8_hasPlace {l : Launch} {D : va_G} {cy : Nat → ClassId} {ad : Nat → Nat} {P : AS} {wy : Int32} {so : Int32} {w : Int64} {r : UInt64} {ns : Nat → Int32} {nw : Nat → Int64} {nr : Nat → UInt64} {fr : Nat → Int32} {tt : Nat → Int32} {u : Nat} {i : Int32} (hu : u < 513) (hw : WF P) : CM l yX8_hasPlace cX8_hasPlace 3 (some .boolean) (rm_ 0 0) D cy 13 ad [.ref (ad 0), .int (nI u), .int (i)] (mct cy ad P wy so w r ns nw nr fr tt) (some (.int (b2i (hasP P u i)))) (mct cy ad P wy so w r ns nw nr fr tt) := by
  have hlu := hw.2.1 u
  refine CM.start (by decide) (Nat.le_of_ble_eq_true rfl) ?_
  intro p_ e_ s m_ below meth cd A ls hC hr hlk hin hK hA hH hl
  obtain ⟨hx, hb, hml, hown, hts⟩ := id hC
  have hS : va_S A s.heap s.heap [] := va_S.rf
  have hl : lv_has ls 3 [(0, .ref (ad 0)), (1, .int (nI u)), (2, .int (i))] := hl
  refine lv_iload_n hx hb dX8_hasPlace_0 rfl (lv_at hl 2 rfl) ?_
  refine lv_if_lt (tgt := 18) hx hb dX8_hasPlace_1 (by decide) (fun c_1 => ?_) (fun c_1 => ?_)
  · refine lv_iconst (v := 0) hx hb dX8_hasPlace_18 (by decide) ?_
    exact cm_rz hC hr hlk (by first | exact Or.inl rfl | exact Or.inr rfl | exact b2i_01 _) (by first | exact hasP_1 (by assumption) (by assumption) (by omega) | exact hasP_0a (by assumption) | exact hasP_0b (by assumption) (by omega)) (rfl) hH hS dX8_hasPlace_19
  · refine lv_iload_n hx hb dX8_hasPlace_4 rfl (lv_at hl 2 rfl) ?_
    refine lv_aload_n hx hb dX8_hasPlace_5 rfl (lv_at hl 0 rfl) ?_
    refine g_get hC hK inG8 hH 0 (by decide) rfl rfl 2 (by decide) qF_X8_16 (Or.inl rfl) rfl dX8_hasPlace_6 ?_
    refine lv_iload_n hx hb dX8_hasPlace_9 rfl (lv_at hl 1 rfl) ?_
    refine gN_iald hC hK hH 3 (by decide) rfl u (by omega) dX8_hasPlace_10 ?_
    refine lv_icmp_ge (tgt := 18) hx hb dX8_hasPlace_11 (by decide) (fun c_11 => ?_) (fun c_11 => ?_)
    · refine lv_iconst (v := 0) hx hb dX8_hasPlace_18 (by decide) ?_
      exact cm_rz hC hr hlk (by first | exact Or.inl rfl | exact Or.inr rfl | exact b2i_01 _) (by first | exact hasP_1 (by assumption) (by assumption) (by omega) | exact hasP_0a (by assumption) | exact hasP_0b (by assumption) (by omega)) (rfl) hH hS dX8_hasPlace_19
    · refine lv_iconst (v := 1) hx hb dX8_hasPlace_14 (by decide) ?_
      refine lv_goto (tgt := 19) hx hb dX8_hasPlace_15 (by decide) ?_
      exact cm_rz hC hr hlk (by first | exact Or.inl rfl | exact Or.inr rfl | exact b2i_01 _) (by first | exact hasP_1 (by assumption) (by assumption) (by omega) | exact hasP_0a (by assumption) | exact hasP_0b (by assumption) (by omega)) (rfl) hH hS dX8_hasPlace_19
theorem mv_X8_reasonOfRow : mvok RX8 yX8_reasonOfRow cX8_reasonOfRow 2 (some .int) 1 := ⟨qK_X8_reasonOfRow, qI_X8_reasonOfRow, qSel_X8_X8_reasonOfRow, qInit_X8, by decide +kernel⟩
set_option maxHeartbeats 4000000 in
set_option maxRecDepth 100000 in
theorem c_X8_reasonOfRow {l : Launch} {D : va_G} {cy : Nat → ClassId} {ad : Nat → Nat} {P : AS} {wy : Int32} {so : Int32} {w : Int64} {r : UInt64} {ns : Nat → Int32} {nw : Nat → Int64} {nr : Nat → UInt64} {fr : Nat → Int32} {tt : Nat → Int32} {j : Nat} (hj : j < 12) (hw : WF P) : CM l yX8_reasonOfRow cX8_reasonOfRow 2 (some .int) (rm_ 1 21) D cy 13 ad [.ref (ad 0), .int (nI j)] (mct cy ad P wy so w r ns nw nr fr tt) (some (.int (nI (rsRow P j)))) (mct cy ad P wy so w r ns nw nr fr tt) := by
  refine CM.start (by decide) (Nat.le_of_ble_eq_true rfl) ?_
  intro p_ e_ s m_ below meth cd A ls hC hr hlk hin hK hA hH hl
  obtain ⟨hx, hb, hml, hown, hts⟩ := id hC
  have hS : va_S A s.heap s.heap [] := va_S.rf
  have hl : lv_has ls 2 [(0, .ref (ad 0)), (1, .int (nI j))] := hl
  rcases co_cases (P.co j) with h0j | ⟨t, h1j⟩
  · refine lv_aload_n hx hb dX8_reasonOfRow_0 rfl (lv_at hl 0 rfl) ?_
    refine lv_iload_n hx hb dX8_reasonOfRow_1 rfl (lv_at hl 1 rfl) ?_
    refine cm_V (As' := [.int (nI j)]) (rest := []) hC (c_X8_in0 hj h0j) mv_X8_in qM_X8_56 ⟨⟨rfl, rfl⟩, Nat.le_of_ble_eq_true rfl, Nat.le_of_ble_eq_true rfl⟩ hK hH hS hA (hp.recv hK hH (i := 0) (by decide) rfl rfl) hl.1 ⟨Nat.zero_le _, Nat.zero_le _⟩ rfl rfl (Nat.le_of_ble_eq_true rfl) dX8_reasonOfRow_2 (fun H locs hH hS => ?_)
    refine lv_if_ge (tgt := 10) hx hb dX8_reasonOfRow_5 (by decide) (fun c_5 => absurd c_5 (by decide)) (fun c_5 => ?_)
    refine lv_iconst (v := 2) hx hb dX8_reasonOfRow_8 (by decide) ?_
    exact cm_ri hC hr hlk (by simp [rsRow, h0j]; try rfl) (rfl) hH hS dX8_reasonOfRow_9
  · refine lv_aload_n hx hb dX8_reasonOfRow_0 rfl (lv_at hl 0 rfl) ?_
    refine lv_iload_n hx hb dX8_reasonOfRow_1 rfl (lv_at hl 1 rfl) ?_
    have htt : t < 513 := by have := hw.2.2.2.1 j; have := hw.2.2.1; omega
    refine cm_V (As' := [.int (nI j)]) (rest := []) hC (c_X8_in1 hj h1j) mv_X8_in qM_X8_56 ⟨⟨rfl, rfl⟩, Nat.le_of_ble_eq_true rfl, Nat.le_of_ble_eq_true rfl⟩ hK hH hS hA (hp.recv hK hH (i := 0) (by decide) rfl rfl) hl.1 ⟨Nat.zero_le _, Nat.zero_le _⟩ rfl rfl (Nat.le_of_ble_eq_true rfl) dX8_reasonOfRow_2 (fun H locs hH hS => ?_)
    refine lv_if_ge (tgt := 10) hx hb dX8_reasonOfRow_5 (by decide) (fun c_5 => ?_) (fun c_5 => absurd (nI_pos' (by omega)) c_5)
    refine lv_aload_n hx hb dX8_reasonOfRow_10 rfl (lv_at hl 0 rfl) ?_
    refine lv_aload_n hx hb dX8_reasonOfRow_11 rfl (lv_at hl 0 rfl) ?_
    refine lv_iload_n hx hb dX8_reasonOfRow_12 rfl (lv_at hl 1 rfl) ?_
    refine cm_V (As' := [.int (nI j)]) (rest := [.ref (ad 0)]) hC (c_X8_in1 hj h1j) mv_X8_in qM_X8_56 ⟨⟨rfl, rfl⟩, Nat.le_of_ble_eq_true rfl, Nat.le_of_ble_eq_true rfl⟩ hK hH hS hA (hp.recv hK hH (i := 0) (by decide) rfl rfl) hl.1 ⟨Nat.zero_le _, Nat.zero_le _⟩ rfl rfl (Nat.le_of_ble_eq_true rfl) dX8_reasonOfRow_13 (fun H locs hH hS => ?_)
    refine cm_V (As' := [.int (nI t)]) (rest := []) hC (c_X8_isRow (by omega) hw) mv_X8_isRow qM_X8_60 ⟨⟨rfl, rfl⟩, Nat.le_of_ble_eq_true rfl, Nat.le_of_ble_eq_true rfl⟩ hK hH hS hA (hp.recv hK hH (i := 0) (by decide) rfl rfl) hl.1 ⟨Nat.zero_le _, Nat.zero_le _⟩ rfl rfl (Nat.le_of_ble_eq_true rfl) dX8_reasonOfRow_16 (fun H locs hH hS => ?_)
    refine lv_if_eq (tgt := 26) hx hb dX8_reasonOfRow_19 (by decide) (fun c_19 => ?_) (fun c_19 => ?_)
    · have c_19 := b2d_f c_19
      refine lv_iconst (v := 3) hx hb dX8_reasonOfRow_26 (by decide) ?_
      exact cm_ri hC hr hlk (by simp [rsRow, h1j, c_19]; try rfl) (rfl) hH hS dX8_reasonOfRow_27
    · have c_19 := b2d_t c_19
      refine lv_iconst (v := 0) hx hb dX8_reasonOfRow_22 (by decide) ?_
      refine lv_goto (tgt := 27) hx hb dX8_reasonOfRow_23 (by decide) ?_
      exact cm_ri hC hr hlk (by simp [rsRow, h1j, c_19]; try rfl) (rfl) hH hS dX8_reasonOfRow_27
theorem mv_X8_get : mvok RX8 yX8_get cX8_get 3 none 2 := ⟨qK_X8_get, qI_X8_get, qSel_X8_X8_get, qInit_X8, by decide +kernel⟩
set_option maxHeartbeats 4000000 in
set_option maxRecDepth 100000 in
theorem c_X8_get {l : Launch} {D : va_G} {cy : Nat → ClassId} {ad : Nat → Nat} {P : AS} {wy : Int32} {so : Int32} {w : Int64} {r : UInt64} {ns : Nat → Int32} {nw : Nat → Int64} {nr : Nat → UInt64} {fr : Nat → Int32} {tt : Nat → Int32} {u i : Nat} (hu : u < 513) (hi : i < 24) : CM l yX8_get cX8_get 3 none (rm_ 0 0) D cy 13 ad [.ref (ad 0), .int (nI u), .int (nI i)] (mct cy ad P wy so w r ns nw nr fr tt) none (mct cy ad P wy (nI (P.kd u)) (P.wh u i) (P.re u i) ns nw nr fr tt) := by
  refine CM.start (by decide) (Nat.le_of_ble_eq_true rfl) ?_
  intro p_ e_ s m_ below meth cd A ls hC hr hlk hin hK hA hH hl
  obtain ⟨hx, hb, hml, hown, hts⟩ := id hC
  have hS : va_S A s.heap s.heap [] := va_S.rf
  have hl : lv_has ls 3 [(0, .ref (ad 0)), (1, .int (nI u)), (2, .int (nI i))] := hl
  refine lv_aload_n hx hb dX8_get_0 rfl (lv_at hl 0 rfl) ?_
  refine lv_aload_n hx hb dX8_get_1 rfl (lv_at hl 0 rfl) ?_
  refine g_get hC hK inG8 hH 0 (by decide) rfl rfl 1 (by decide) qF_X8_13 (Or.inl rfl) rfl dX8_get_2 ?_
  refine lv_iload_n hx hb dX8_get_5 rfl (lv_at hl 1 rfl) ?_
  refine gN_iald hC hK hH 2 (by decide) rfl u (by omega) dX8_get_6 ?_
  refine g_put (ct' := mct cy ad P wy (nI (P.kd u)) w r ns nw nr fr tt) hC hK inG8 tyX8 tyX8_ok nmX8 hH hS 0 (by decide) rfl rfl 9 (by decide) qF_X8_66 rfl rfl rfl rfl (Nat.le_of_ble_eq_true rfl) rfl mct_0 dX8_get_7 (fun H locs hH hS => ?_)
  refine lv_aload_n hx hb dX8_get_10 rfl (lv_at hl 0 rfl) ?_
  refine lv_aload_n hx hb dX8_get_11 rfl (lv_at hl 0 rfl) ?_
  refine g_get hC hK inG8 hH 0 (by decide) rfl rfl 4 (by decide) qF_X8_22 (Or.inl rfl) rfl dX8_get_12 ?_
  refine lv_bipush (v := 24) hx hb dX8_get_15 (by decide) ?_
  refine lv_iload_n hx hb dX8_get_17 rfl (lv_at hl 1 rfl) ?_
  refine lv_imul hx hb dX8_get_18 ?_
  refine lv_iload_n hx hb dX8_get_19 rfl (lv_at hl 2 rfl) ?_
  refine lv_iadd hx hb dX8_get_20 ?_
  refine mr_wh hC hK hH u i (by omega) dX8_get_21 ?_
  refine g_put (ct' := mct cy ad P wy (nI (P.kd u)) (P.wh u i) r ns nw nr fr tt) hC hK inG8 tyX8 tyX8_ok nmX8 hH hS 0 (by decide) rfl rfl 10 (by decide) qF_X8_69 rfl rfl rfl rfl (Nat.le_of_ble_eq_true rfl) rfl mct_0 dX8_get_22 (fun H locs hH hS => ?_)
  refine lv_aload_n hx hb dX8_get_25 rfl (lv_at hl 0 rfl) ?_
  refine lv_aload_n hx hb dX8_get_26 rfl (lv_at hl 0 rfl) ?_
  refine g_get hC hK inG8 hH 0 (by decide) rfl rfl 5 (by decide) qF_X8_26 (Or.inl rfl) rfl dX8_get_27 ?_
  refine lv_bipush (v := 24) hx hb dX8_get_30 (by decide) ?_
  refine lv_iload_n hx hb dX8_get_32 rfl (lv_at hl 1 rfl) ?_
  refine lv_imul hx hb dX8_get_33 ?_
  refine lv_iload_n hx hb dX8_get_34 rfl (lv_at hl 2 rfl) ?_
  refine lv_iadd hx hb dX8_get_35 ?_
  refine mr_re hC hK hH u i (by omega) dX8_get_36 ?_
  refine g_put (ct' := mct cy ad P wy (nI (P.kd u)) (P.wh u i) (P.re u i) ns nw nr fr tt) hC hK inG8 tyX8 tyX8_ok nmX8 hH hS 0 (by decide) rfl rfl 11 (by decide) qF_X8_73 rfl rfl rfl rfl (Nat.le_of_ble_eq_true rfl) rfl mct_0 dX8_get_37 (fun H locs hH hS => ?_)
  exact cm_rv hC hr hlk (rfl) hH hS dX8_get_40
theorem mv_X8_set : mvok RX8 yX8_set cX8_set 3 none 2 := ⟨qK_X8_set, qI_X8_set, qSel_X8_X8_set, qInit_X8, by decide +kernel⟩
set_option maxHeartbeats 4000000 in
set_option maxRecDepth 100000 in
theorem c_X8_set {l : Launch} {D : va_G} {cy : Nat → ClassId} {ad : Nat → Nat} {P : AS} {wy : Int32} {so : Int32} {w : Int64} {r : UInt64} {ns : Nat → Int32} {nw : Nat → Int64} {nr : Nat → UInt64} {fr : Nat → Int32} {tt : Nat → Int32} {u i : Nat} (hu : u < 513) (hi : i < 24) : CM l yX8_set cX8_set 3 none (rm_ 0 0) D cy 13 ad [.ref (ad 0), .int (nI u), .int (nI i)] (mct cy ad P wy so w r ns nw nr fr tt) none (mct cy ad (P.put u i (w, r)) wy so w r ns nw nr fr tt) := by
  refine CM.start (by decide) (Nat.le_of_ble_eq_true rfl) ?_
  intro p_ e_ s m_ below meth cd A ls hC hr hlk hin hK hA hH hl
  obtain ⟨hx, hb, hml, hown, hts⟩ := id hC
  have hS : va_S A s.heap s.heap [] := va_S.rf
  have hl : lv_has ls 3 [(0, .ref (ad 0)), (1, .int (nI u)), (2, .int (nI i))] := hl
  refine lv_aload_n hx hb dX8_set_0 rfl (lv_at hl 0 rfl) ?_
  refine g_get hC hK inG8 hH 0 (by decide) rfl rfl 4 (by decide) qF_X8_22 (Or.inl rfl) rfl dX8_set_1 ?_
  refine lv_bipush (v := 24) hx hb dX8_set_4 (by decide) ?_
  refine lv_iload_n hx hb dX8_set_6 rfl (lv_at hl 1 rfl) ?_
  refine lv_imul hx hb dX8_set_7 ?_
  refine lv_iload_n hx hb dX8_set_8 rfl (lv_at hl 2 rfl) ?_
  refine lv_iadd hx hb dX8_set_9 ?_
  refine lv_aload_n hx hb dX8_set_10 rfl (lv_at hl 0 rfl) ?_
  refine g_get hC hK inG8 hH 0 (by decide) rfl rfl 10 (by decide) qF_X8_69 (Or.inl rfl) rfl dX8_set_11 ?_
  refine mr_whs hC hK hH hS u i (by omega) dX8_set_14 (fun H locs hH hS => ?_)
  refine lv_aload_n hx hb dX8_set_15 rfl (lv_at hl 0 rfl) ?_
  refine g_get hC hK inG8 hH 0 (by decide) rfl rfl 5 (by decide) qF_X8_26 (Or.inl rfl) rfl dX8_set_16 ?_
  refine lv_bipush (v := 24) hx hb dX8_set_19 (by decide) ?_
  refine lv_iload_n hx hb dX8_set_21 rfl (lv_at hl 1 rfl) ?_
  refine lv_imul hx hb dX8_set_22 ?_
  refine lv_iload_n hx hb dX8_set_23 rfl (lv_at hl 2 rfl) ?_
  refine lv_iadd hx hb dX8_set_24 ?_
  refine lv_aload_n hx hb dX8_set_25 rfl (lv_at hl 0 rfl) ?_
  refine g_get hC hK inG8 hH 0 (by decide) rfl rfl 11 (by decide) qF_X8_73 (Or.inl rfl) rfl dX8_set_26 ?_
  refine mr_res hC hK hH hS u i (by omega) dX8_set_29 (fun H locs hH hS => ?_)
  exact cm_rv hC hr hlk (rfl) hH hS dX8_set_30
theorem mv_X8_goesInto : mvok RX8 yX8_goesInto cX8_goesInto 3 (some .boolean) 2 := ⟨qK_X8_goesInto, qI_X8_goesInto, qSel_X8_X8_goesInto, qInit_X8, by decide +kernel⟩
set_option maxHeartbeats 4000000 in
set_option maxRecDepth 100000 in
theorem c_X8_goesInto {l : Launch} {D : va_G} {cy : Nat → ClassId} {ad : Nat → Nat} {P : AS} {wy : Int32} {so : Int32} {w : Int64} {r : UInt64} {ns : Nat → Int32} {nw : Nat → Int64} {nr : Nat → UInt64} {fr : Nat → Int32} {tt : Nat → Int32} {a b : Nat} (ha : a < 8) (hb8 : b < 8) : CM l yX8_goesInto cX8_goesInto 3 (some .boolean) (rm_ 0 0) D cy 13 ad [.ref (ad 0), .int (nI a), .int (nI b)] (mct cy ad P wy so w r ns nw nr fr tt) (some (.int (b2i (goes a b)))) (mct cy ad P wy so w r ns nw nr fr tt) := by
  refine CM.start (by decide) (Nat.le_of_ble_eq_true rfl) ?_
  intro p_ e_ s m_ below meth cd A ls hC hr hlk hin hK hA hH hl
  obtain ⟨hx, hb, hml, hown, hts⟩ := id hC
  have hS : va_S A s.heap s.heap [] := va_S.rf
  have hl : lv_has ls 3 [(0, .ref (ad 0)), (1, .int (nI a)), (2, .int (nI b))] := hl
  refine lv_aload_n hx hb dX8_goesInto_0 rfl (lv_at hl 0 rfl) ?_
  refine g_get hC hK inG8 hH 0 (by decide) rfl rfl 0 (by decide) qF_X8_7 (Or.inl rfl) rfl dX8_goesInto_1 ?_
  refine lv_iload_n hx hb dX8_goesInto_4 rfl (lv_at hl 1 rfl) ?_
  refine gN_iald hC hK hH 1 (by decide) rfl a (by omega) dX8_goesInto_5 ?_
  refine lv_iload_n hx hb dX8_goesInto_6 rfl (lv_at hl 2 rfl) ?_
  refine lv_ishr hx hb dX8_goesInto_7 ?_
  refine lv_iconst (v := 1) hx hb dX8_goesInto_8 (by decide) ?_
  refine lv_iand hx hb dX8_goesInto_9 ?_
  refine lv_iconst (v := 1) hx hb dX8_goesInto_10 (by decide) ?_
  refine lv_icmp_ne (tgt := 18) hx hb dX8_goesInto_11 (by decide) (fun c_11 => ?_) (fun c_11 => ?_)
  · refine lv_iconst (v := 0) hx hb dX8_goesInto_18 (by decide) ?_
    exact cm_rz hC hr hlk (by first | exact Or.inl rfl | exact Or.inr rfl | exact b2i_01 _) (by first | exact b2d_1 (by assumption) | exact b2d_0 (by assumption)) (rfl) hH hS dX8_goesInto_19
  · refine lv_iconst (v := 1) hx hb dX8_goesInto_14 (by decide) ?_
    refine lv_goto (tgt := 19) hx hb dX8_goesInto_15 (by decide) ?_
    exact cm_rz hC hr hlk (by first | exact Or.inl rfl | exact Or.inr rfl | exact b2i_01 _) (by first | exact b2d_1 (by assumption) | exact b2d_0 (by assumption)) (rfl) hH hS dX8_goesInto_19
theorem ms_X8_isFloating : msok yX8_isFloating cX8_isFloating 1 (some .boolean) 1 := ⟨qK_X8_isFloating, qSt_X8_isFloating, qInit_X8, by decide +kernel⟩
set_option maxHeartbeats 4000000 in
set_option maxRecDepth 100000 in
theorem c_X8_isFloating {l : Launch} {D : va_G} {cy : Nat → ClassId} {ad : Nat → Nat} {N : Nat} {ct : Nat → Option va_E} {a : Nat} (ha : a < 12) : CM l yX8_isFloating cX8_isFloating 1 (some .boolean) (rm_ 0 0) D cy N ad [.int (nI a)] ct (some (.int (b2i (decide (6 ≤ a))))) ct := by
  refine CM.start (by decide) (Nat.le_of_ble_eq_true rfl) ?_
  intro p_ e_ s m_ below meth cd A ls hC hr hlk hin hK hA hH hl
  obtain ⟨hx, hb, hml, hown, hts⟩ := id hC
  have hS : va_S A s.heap s.heap [] := va_S.rf
  have hl : lv_has ls 1 [(0, .int (nI a))] := hl
  refine lv_iload_n hx hb dX8_isFloating_0 rfl (lv_at hl 0 rfl) ?_
  refine lv_bipush (v := 6) hx hb dX8_isFloating_1 (by decide) ?_
  refine lv_icmp_lt (tgt := 10) hx hb dX8_isFloating_3 (by decide) (fun c_3 => ?_) (fun c_3 => ?_)
  · have c_3 := nc_lt (a := a) (b := 6) (by omega) (by omega) c_3
    refine lv_iconst (v := 0) hx hb dX8_isFloating_10 (by decide) ?_
    exact cm_rz hC hr hlk (by first | exact Or.inl rfl | exact Or.inr rfl | exact b2i_01 _) (by first | exact b2d_1 (by omega) | exact b2d_0 (by omega)) (rfl) hH hS dX8_isFloating_11
  · have c_3 := nc_nlt (a := a) (b := 6) (by omega) (by omega) c_3
    refine lv_iconst (v := 1) hx hb dX8_isFloating_6 (by decide) ?_
    refine lv_goto (tgt := 11) hx hb dX8_isFloating_7 (by decide) ?_
    exact cm_rz hC hr hlk (by first | exact Or.inl rfl | exact Or.inr rfl | exact b2i_01 _) (by first | exact b2d_1 (by omega) | exact b2d_0 (by omega)) (rfl) hH hS dX8_isFloating_11
end
section
theorem mv_X8_widen : mvok RX8 yX8_widen cX8_widen 2 none 1 := ⟨qK_X8_widen, qI_X8_widen, qSel_X8_X8_widen, qInit_X8, by decide +kernel⟩
set_option maxHeartbeats 4000000 in
set_option maxRecDepth 100000 in
theorem c_X8_widen {l : Launch} {D : va_G} {cy : Nat → ClassId} {ad : Nat → Nat} {P : AS} {wy : Int32} {w : Int64} {r : UInt64} {ns : Nat → Int32} {nw : Nat → Int64} {nr : Nat → UInt64} {fr : Nat → Int32} {tt : Nat → Int32} {a k : Nat} (ha : a < 12) (hk : k < 8) : CM l yX8_widen cX8_widen 2 none (rm_ 0 0) D cy 13 ad [.ref (ad 0), .int (nI k)] (mct cy ad P wy (nI a) w r ns nw nr fr tt) none (mct cy ad P wy (nI k) ((wdn a k w r).1) ((wdn a k w r).2) ns nw nr fr tt) := by
  refine CM.start (by decide) (Nat.le_of_ble_eq_true rfl) ?_
  intro p_ e_ s m_ below meth cd A ls hC hr hlk hin hK hA hH hl
  obtain ⟨hx, hb, hml, hown, hts⟩ := id hC
  have hS : va_S A s.heap s.heap [] := va_S.rf
  have hl : lv_has ls 2 [(0, .ref (ad 0)), (1, .int (nI k))] := hl
  refine lv_iload_n hx hb dX8_widen_0 rfl (lv_at hl 1 rfl) ?_
  refine lv_bipush (v := 6) hx hb dX8_widen_1 (by decide) ?_
  refine lv_icmp_lt (tgt := 43) hx hb dX8_widen_3 (by decide) (fun c_3 => ?_) (fun c_3 => ?_)
  · have c_3 := nc_lt (a := k) (b := 6) (by omega) (by omega) c_3
    refine lv_aload_n hx hb dX8_widen_43 rfl (lv_at hl 0 rfl) ?_
    refine lv_iload_n hx hb dX8_widen_44 rfl (lv_at hl 1 rfl) ?_
    refine g_put (ct' := mct cy ad P wy (nI k) w r ns nw nr fr tt) hC hK inG8 tyX8 tyX8_ok nmX8 hH hS 0 (by decide) rfl rfl 9 (by decide) qF_X8_66 rfl rfl rfl rfl (Nat.le_of_ble_eq_true rfl) rfl mct_0 dX8_widen_45 (fun H locs hH hS => ?_)
    exact cm_rv hC hr hlk (by first | rw [wdn_no (by omega)] | rw [wdn_6 (by omega)] | rw [wdn_7 (by omega)]) hH hS dX8_widen_48
  · have c_3 := nc_nlt (a := k) (b := 6) (by omega) (by omega) c_3
    refine lv_aload_n hx hb dX8_widen_6 rfl (lv_at hl 0 rfl) ?_
    refine g_get hC hK inG8 hH 0 (by decide) rfl rfl 9 (by decide) qF_X8_66 (Or.inl rfl) rfl dX8_widen_7 ?_
    refine lv_iconst (v := 5) hx hb dX8_widen_10 (by decide) ?_
    refine lv_icmp_gt (tgt := 43) hx hb dX8_widen_11 (by decide) (fun c_11 => ?_) (fun c_11 => ?_)
    · have c_11 := nc_lt (a := 5) (b := a) (by omega) (by omega) c_11
      refine lv_aload_n hx hb dX8_widen_43 rfl (lv_at hl 0 rfl) ?_
      refine lv_iload_n hx hb dX8_widen_44 rfl (lv_at hl 1 rfl) ?_
      refine g_put (ct' := mct cy ad P wy (nI k) w r ns nw nr fr tt) hC hK inG8 tyX8 tyX8_ok nmX8 hH hS 0 (by decide) rfl rfl 9 (by decide) qF_X8_66 rfl rfl rfl rfl (Nat.le_of_ble_eq_true rfl) rfl mct_0 dX8_widen_45 (fun H locs hH hS => ?_)
      exact cm_rv hC hr hlk (by first | rw [wdn_no (by omega)] | rw [wdn_6 (by omega)] | rw [wdn_7 (by omega)]) hH hS dX8_widen_48
    · have c_11 := nc_nlt (a := 5) (b := a) (by omega) (by omega) c_11
      refine lv_aload_n hx hb dX8_widen_14 rfl (lv_at hl 0 rfl) ?_
      refine lv_iload_n hx hb dX8_widen_15 rfl (lv_at hl 1 rfl) ?_
      refine lv_bipush (v := 6) hx hb dX8_widen_16 (by decide) ?_
      refine lv_icmp_ne (tgt := 30) hx hb dX8_widen_18 (by decide) (fun c_18 => ?_) (fun c_18 => ?_)
      · have c_18 := nc_ne (a := k) (b := 6) (by omega) (by omega) c_18
        refine lv_aload_n hx hb dX8_widen_30 rfl (lv_at hl 0 rfl) ?_
        refine g_get hC hK inG8 hH 0 (by decide) rfl rfl 10 (by decide) qF_X8_69 (Or.inl rfl) rfl dX8_widen_31 ?_
        refine lv_l2d hx hb dX8_widen_34 ?_
        refine g_put (ct' := mct cy ad P wy (nI a) w (FP.l2d (w)) ns nw nr fr tt) hC hK inG8 tyX8 tyX8_ok nmX8 hH hS 0 (by decide) rfl rfl 11 (by decide) qF_X8_73 rfl rfl rfl rfl (Nat.le_of_ble_eq_true rfl) rfl mct_0 dX8_widen_35 (fun H locs hH hS => ?_)
        refine lv_aload_n hx hb dX8_widen_38 rfl (lv_at hl 0 rfl) ?_
        refine lv_lconst (v := 0) hx hb dX8_widen_39 (by decide) ?_
        refine g_put (ct' := mct cy ad P wy (nI a) 0 (FP.l2d (w)) ns nw nr fr tt) hC hK inG8 tyX8 tyX8_ok nmX8 hH hS 0 (by decide) rfl rfl 10 (by decide) qF_X8_69 rfl rfl rfl rfl (Nat.le_of_ble_eq_true rfl) rfl mct_0 dX8_widen_40 (fun H locs hH hS => ?_)
        refine lv_aload_n hx hb dX8_widen_43 rfl (lv_at hl 0 rfl) ?_
        refine lv_iload_n hx hb dX8_widen_44 rfl (lv_at hl 1 rfl) ?_
        refine g_put (ct' := mct cy ad P wy (nI k) 0 (FP.l2d (w)) ns nw nr fr tt) hC hK inG8 tyX8 tyX8_ok nmX8 hH hS 0 (by decide) rfl rfl 9 (by decide) qF_X8_66 rfl rfl rfl rfl (Nat.le_of_ble_eq_true rfl) rfl mct_0 dX8_widen_45 (fun H locs hH hS => ?_)
        exact cm_rv hC hr hlk (by first | rw [wdn_no (by omega)] | rw [wdn_6 (by omega)] | rw [wdn_7 (by omega)]) hH hS dX8_widen_48
      · have c_18 := nc_eq (a := k) (b := 6) (by omega) (by omega) c_18
        refine lv_aload_n hx hb dX8_widen_21 rfl (lv_at hl 0 rfl) ?_
        refine g_get hC hK inG8 hH 0 (by decide) rfl rfl 10 (by decide) qF_X8_69 (Or.inl rfl) rfl dX8_widen_22 ?_
        refine lv_l2f hx hb dX8_widen_25 ?_
        refine lv_f2d hx hb dX8_widen_26 (fpn_lf _) ?_
        refine lv_goto (tgt := 35) hx hb dX8_widen_27 (by decide) ?_
        refine g_put (ct' := mct cy ad P wy (nI a) w (FP.f2d (FP.l2f (w))) ns nw nr fr tt) hC hK inG8 tyX8 tyX8_ok nmX8 hH hS 0 (by decide) rfl rfl 11 (by decide) qF_X8_73 rfl rfl rfl rfl (Nat.le_of_ble_eq_true rfl) rfl mct_0 dX8_widen_35 (fun H locs hH hS => ?_)
        refine lv_aload_n hx hb dX8_widen_38 rfl (lv_at hl 0 rfl) ?_
        refine lv_lconst (v := 0) hx hb dX8_widen_39 (by decide) ?_
        refine g_put (ct' := mct cy ad P wy (nI a) 0 (FP.f2d (FP.l2f (w))) ns nw nr fr tt) hC hK inG8 tyX8 tyX8_ok nmX8 hH hS 0 (by decide) rfl rfl 10 (by decide) qF_X8_69 rfl rfl rfl rfl (Nat.le_of_ble_eq_true rfl) rfl mct_0 dX8_widen_40 (fun H locs hH hS => ?_)
        refine lv_aload_n hx hb dX8_widen_43 rfl (lv_at hl 0 rfl) ?_
        refine lv_iload_n hx hb dX8_widen_44 rfl (lv_at hl 1 rfl) ?_
        refine g_put (ct' := mct cy ad P wy (nI k) 0 (FP.f2d (FP.l2f (w))) ns nw nr fr tt) hC hK inG8 tyX8 tyX8_ok nmX8 hH hS 0 (by decide) rfl rfl 9 (by decide) qF_X8_66 rfl rfl rfl rfl (Nat.le_of_ble_eq_true rfl) rfl mct_0 dX8_widen_45 (fun H locs hH hS => ?_)
        exact cm_rv hC hr hlk (by first | rw [wdn_no (by omega)] | rw [wdn_6 (by omega)] | rw [wdn_7 (by omega)]) hH hS dX8_widen_48
theorem mv_X8_tell : mvok RX8 yX8_tell cX8_tell 6 none 3 := ⟨qK_X8_tell, qI_X8_tell, qSel_X8_X8_tell, qInit_X8, by decide +kernel⟩
set_option maxHeartbeats 4000000 in
set_option maxRecDepth 100000 in
theorem c_X8_tell {l : Launch} {D : va_G} {cy : Nat → ClassId} {ad : Nat → Nat} {P : AS} {wy : Int32} {so : Int32} {w : Int64} {r : UInt64} {ns : Nat → Int32} {nw : Nat → Int64} {nr : Nat → UInt64} {fr : Nat → Int32} {tt : Nat → Int32} {k : Nat} {a b : Int32} (hk : k ≤ 7) : CM l yX8_tell cX8_tell 6 none (rm_ 0 0) D cy 13 ad [.ref (ad 0), .int (nI k), .int (a), .int (b)] (mct cy ad P wy so w r ns nw nr fr tt) none (mct cy ad P wy (nI k) ((told k a b).1) ((told k a b).2) ns nw nr fr tt) := by
  refine CM.start (by decide) (Nat.le_of_ble_eq_true rfl) ?_
  intro p_ e_ s m_ below meth cd A ls hC hr hlk hin hK hA hH hl
  obtain ⟨hx, hb, hml, hown, hts⟩ := id hC
  have hS : va_S A s.heap s.heap [] := va_S.rf
  have hl : lv_has ls 6 [(0, .ref (ad 0)), (1, .int (nI k)), (2, .int (a)), (3, .int (b))] := hl
  refine lv_iload_n hx hb dX8_tell_0 rfl (lv_at hl 2 rfl) ?_
  refine lv_i2l hx hb dX8_tell_1 rfl ?_
  refine lv_bipush (v := 32) hx hb dX8_tell_2 (by decide) ?_
  refine lv_lshl hx hb dX8_tell_4 rfl ?_
  refine lv_iload_n hx hb dX8_tell_5 rfl (lv_at hl 3 rfl) ?_
  refine lv_i2l hx hb dX8_tell_6 rfl ?_
  refine lv_ldc2 hx hb hown (hts _ qKL_X8_64) dX8_tell_7 ?_
  refine lv_land hx hb dX8_tell_10 ?_
  refine lv_lor hx hb dX8_tell_11 ?_
  refine lv_lstore (lv' := [(4, .long ((((a).toInt64 <<< ((32 : Int32).toInt64 &&& 63)) ||| ((b).toInt64 &&& 4294967295)))), (0, .ref (ad 0)), (1, .int (nI k)), (2, .int (a)), (3, .int (b))]) hx hb dX8_tell_12 hl (by decide) rfl (fun ls hl => ?_)
  refine lv_aload_n hx hb dX8_tell_14 rfl (lv_at hl 1 rfl) ?_
  refine lv_iload_n hx hb dX8_tell_15 rfl (lv_at hl 2 rfl) ?_
  refine g_put (ct' := mct cy ad P wy (nI k) w r ns nw nr fr tt) hC hK inG8 tyX8 tyX8_ok nmX8 hH hS 0 (by decide) rfl rfl 9 (by decide) qF_X8_66 rfl rfl rfl rfl (Nat.le_of_ble_eq_true rfl) rfl mct_0 dX8_tell_16 (fun H locs hH hS => ?_)
  refine lv_aload_n hx hb dX8_tell_19 rfl (lv_at hl 1 rfl) ?_
  refine lv_lconst (v := 0) hx hb dX8_tell_20 (by decide) ?_
  refine g_put (ct' := mct cy ad P wy (nI k) 0 r ns nw nr fr tt) hC hK inG8 tyX8 tyX8_ok nmX8 hH hS 0 (by decide) rfl rfl 10 (by decide) qF_X8_69 rfl rfl rfl rfl (Nat.le_of_ble_eq_true rfl) rfl mct_0 dX8_tell_21 (fun H locs hH hS => ?_)
  refine lv_aload_n hx hb dX8_tell_24 rfl (lv_at hl 1 rfl) ?_
  refine lv_dconst0 hx hb dX8_tell_25 ?_
  refine g_put (ct' := mct cy ad P wy (nI k) 0 FP.dconst0 ns nw nr fr tt) hC hK inG8 tyX8 tyX8_ok nmX8 hH hS 0 (by decide) rfl rfl 11 (by decide) qF_X8_73 rfl rfl rfl rfl (Nat.le_of_ble_eq_true rfl) rfl mct_0 dX8_tell_26 (fun H locs hH hS => ?_)
  refine lv_iload_n hx hb dX8_tell_29 rfl (lv_at hl 2 rfl) ?_
  rcases (by omega : k = 0 ∨ k = 1 ∨ k = 2 ∨ k = 3 ∨ k = 4 ∨ k = 5 ∨ k = 6 ∨ k = 7) with rfl | rfl | rfl | rfl | rfl | rfl | rfl | rfl
  · refine lv_tableIn (off := 42) (tgt := 72) hx hb dX8_tell_30 (by decide) (by decide) (by decide) (by decide) ?_
    refine lv_aload_n hx hb dX8_tell_72 rfl (lv_at hl 1 rfl) ?_
    refine lv_lload hx hb dX8_tell_73 (lv_at hl 0 rfl) ?_
    refine lv_lconst (v := 1) hx hb dX8_tell_75 (by decide) ?_
    refine lv_land hx hb dX8_tell_76 ?_
    refine g_put (ct' := mct cy ad P wy (nI (0)) (((((a).toInt64 <<< ((32 : Int32).toInt64 &&& 63)) ||| ((b).toInt64 &&& 4294967295)) &&& 1)) FP.dconst0 ns nw nr fr tt) hC hK inG8 tyX8 tyX8_ok nmX8 hH hS 0 (by decide) rfl rfl 10 (by decide) qF_X8_69 rfl rfl rfl rfl (Nat.le_of_ble_eq_true rfl) rfl mct_0 dX8_tell_77 (fun H locs hH hS => ?_)
    refine lv_goto (tgt := 164) hx hb dX8_tell_80 (by decide) ?_
    exact cm_rv hC hr hlk (rfl) hH hS dX8_tell_164
  · refine lv_tableIn (off := 53) (tgt := 83) hx hb dX8_tell_30 (by decide) (by decide) (by decide) (by decide) ?_
    refine lv_aload_n hx hb dX8_tell_83 rfl (lv_at hl 1 rfl) ?_
    refine lv_lload hx hb dX8_tell_84 (lv_at hl 0 rfl) ?_
    refine lv_l2i hx hb dX8_tell_86 rfl ?_
    refine lv_i2b hx hb dX8_tell_87 rfl ?_
    refine lv_i2l hx hb dX8_tell_88 rfl ?_
    refine g_put (ct' := mct cy ad P wy (nI (1)) (((((((a).toInt64 <<< ((32 : Int32).toInt64 &&& 63)) ||| ((b).toInt64 &&& 4294967295))).toInt32).toInt8.toInt32).toInt64) FP.dconst0 ns nw nr fr tt) hC hK inG8 tyX8 tyX8_ok nmX8 hH hS 0 (by decide) rfl rfl 10 (by decide) qF_X8_69 rfl rfl rfl rfl (Nat.le_of_ble_eq_true rfl) rfl mct_0 dX8_tell_89 (fun H locs hH hS => ?_)
    refine lv_goto (tgt := 164) hx hb dX8_tell_92 (by decide) ?_
    exact cm_rv hC hr hlk (rfl) hH hS dX8_tell_164
  · refine lv_tableIn (off := 65) (tgt := 95) hx hb dX8_tell_30 (by decide) (by decide) (by decide) (by decide) ?_
    refine lv_aload_n hx hb dX8_tell_95 rfl (lv_at hl 1 rfl) ?_
    refine lv_lload hx hb dX8_tell_96 (lv_at hl 0 rfl) ?_
    refine lv_l2i hx hb dX8_tell_98 rfl ?_
    refine lv_i2c hx hb dX8_tell_99 rfl ?_
    refine lv_i2l hx hb dX8_tell_100 rfl ?_
    refine g_put (ct' := mct cy ad P wy (nI (2)) ((((((((a).toInt64 <<< ((32 : Int32).toInt64 &&& 63)) ||| ((b).toInt64 &&& 4294967295))).toInt32).toUInt32 % 65536).toInt32).toInt64) FP.dconst0 ns nw nr fr tt) hC hK inG8 tyX8 tyX8_ok nmX8 hH hS 0 (by decide) rfl rfl 10 (by decide) qF_X8_69 rfl rfl rfl rfl (Nat.le_of_ble_eq_true rfl) rfl mct_0 dX8_tell_101 (fun H locs hH hS => ?_)
    refine lv_goto (tgt := 164) hx hb dX8_tell_104 (by decide) ?_
    exact cm_rv hC hr hlk (rfl) hH hS dX8_tell_164
  · refine lv_tableIn (off := 77) (tgt := 107) hx hb dX8_tell_30 (by decide) (by decide) (by decide) (by decide) ?_
    refine lv_aload_n hx hb dX8_tell_107 rfl (lv_at hl 1 rfl) ?_
    refine lv_lload hx hb dX8_tell_108 (lv_at hl 0 rfl) ?_
    refine lv_l2i hx hb dX8_tell_110 rfl ?_
    refine lv_i2s hx hb dX8_tell_111 rfl ?_
    refine lv_i2l hx hb dX8_tell_112 rfl ?_
    refine g_put (ct' := mct cy ad P wy (nI (3)) (((((((a).toInt64 <<< ((32 : Int32).toInt64 &&& 63)) ||| ((b).toInt64 &&& 4294967295))).toInt32).toInt16.toInt32).toInt64) FP.dconst0 ns nw nr fr tt) hC hK inG8 tyX8 tyX8_ok nmX8 hH hS 0 (by decide) rfl rfl 10 (by decide) qF_X8_69 rfl rfl rfl rfl (Nat.le_of_ble_eq_true rfl) rfl mct_0 dX8_tell_113 (fun H locs hH hS => ?_)
    refine lv_goto (tgt := 164) hx hb dX8_tell_116 (by decide) ?_
    exact cm_rv hC hr hlk (rfl) hH hS dX8_tell_164
  · refine lv_tableIn (off := 89) (tgt := 119) hx hb dX8_tell_30 (by decide) (by decide) (by decide) (by decide) ?_
    refine lv_aload_n hx hb dX8_tell_119 rfl (lv_at hl 1 rfl) ?_
    refine lv_lload hx hb dX8_tell_120 (lv_at hl 0 rfl) ?_
    refine lv_l2i hx hb dX8_tell_122 rfl ?_
    refine lv_i2l hx hb dX8_tell_123 rfl ?_
    refine g_put (ct' := mct cy ad P wy (nI (4)) ((((((a).toInt64 <<< ((32 : Int32).toInt64 &&& 63)) ||| ((b).toInt64 &&& 4294967295))).toInt32).toInt64) FP.dconst0 ns nw nr fr tt) hC hK inG8 tyX8 tyX8_ok nmX8 hH hS 0 (by decide) rfl rfl 10 (by decide) qF_X8_69 rfl rfl rfl rfl (Nat.le_of_ble_eq_true rfl) rfl mct_0 dX8_tell_124 (fun H locs hH hS => ?_)
    refine lv_goto (tgt := 164) hx hb dX8_tell_127 (by decide) ?_
    exact cm_rv hC hr hlk (rfl) hH hS dX8_tell_164
  · refine lv_tableIn (off := 100) (tgt := 130) hx hb dX8_tell_30 (by decide) (by decide) (by decide) (by decide) ?_
    refine lv_aload_n hx hb dX8_tell_130 rfl (lv_at hl 1 rfl) ?_
    refine lv_lload hx hb dX8_tell_131 (lv_at hl 0 rfl) ?_
    refine g_put (ct' := mct cy ad P wy (nI (5)) ((((a).toInt64 <<< ((32 : Int32).toInt64 &&& 63)) ||| ((b).toInt64 &&& 4294967295))) FP.dconst0 ns nw nr fr tt) hC hK inG8 tyX8 tyX8_ok nmX8 hH hS 0 (by decide) rfl rfl 10 (by decide) qF_X8_69 rfl rfl rfl rfl (Nat.le_of_ble_eq_true rfl) rfl mct_0 dX8_tell_133 (fun H locs hH hS => ?_)
    refine lv_goto (tgt := 164) hx hb dX8_tell_136 (by decide) ?_
    exact cm_rv hC hr hlk (rfl) hH hS dX8_tell_164
  · refine lv_tableIn (off := 109) (tgt := 139) hx hb dX8_tell_30 (by decide) (by decide) (by decide) (by decide) ?_
    refine lv_aload_n hx hb dX8_tell_139 rfl (lv_at hl 1 rfl) ?_
    refine lv_lload hx hb dX8_tell_140 (lv_at hl 0 rfl) ?_
    refine lv_l2f hx hb dX8_tell_142 ?_
    refine lv_ldcf hx hb hown (hts _ qKF_X8_77) dX8_tell_143 ?_
    refine lv_fdiv hx hb dX8_tell_145 (fpn_fd _) ?_
    refine lv_f2d hx hb dX8_tell_146 (fpn_f2d _) ?_
    refine g_put (ct' := mct cy ad P wy (nI (6)) 0 (FP.f2d (FP.fdiv (FP.l2f ((((a).toInt64 <<< ((32 : Int32).toInt64 &&& 63)) ||| ((b).toInt64 &&& 4294967295)))) (1090519040))) ns nw nr fr tt) hC hK inG8 tyX8 tyX8_ok nmX8 hH hS 0 (by decide) rfl rfl 11 (by decide) qF_X8_73 rfl rfl rfl rfl (Nat.le_of_ble_eq_true rfl) rfl mct_0 dX8_tell_147 (fun H locs hH hS => ?_)
    refine lv_goto (tgt := 164) hx hb dX8_tell_150 (by decide) ?_
    exact cm_rv hC hr hlk (rfl) hH hS dX8_tell_164
  · refine lv_tableOut (tgt := 153) hx hb dX8_tell_30 (by decide) (by decide) ?_
    refine lv_aload_n hx hb dX8_tell_153 rfl (lv_at hl 1 rfl) ?_
    refine lv_lload hx hb dX8_tell_154 (lv_at hl 0 rfl) ?_
    refine lv_l2d hx hb dX8_tell_156 ?_
    refine lv_ldc2d hx hb hown (hts _ qKD_X8_78) dX8_tell_157 ?_
    refine lv_ddiv hx hb dX8_tell_160 (fpn_dd _) ?_
    refine g_put (ct' := mct cy ad P wy (nI (7)) 0 (FP.ddiv (FP.l2d ((((a).toInt64 <<< ((32 : Int32).toInt64 &&& 63)) ||| ((b).toInt64 &&& 4294967295)))) (4620693217682128896)) ns nw nr fr tt) hC hK inG8 tyX8 tyX8_ok nmX8 hH hS 0 (by decide) rfl rfl 11 (by decide) qF_X8_73 rfl rfl rfl rfl (Nat.le_of_ble_eq_true rfl) rfl mct_0 dX8_tell_161 (fun H locs hH hS => ?_)
    exact cm_rv hC hr hlk (rfl) hH hS dX8_tell_164
theorem ms_X8_doubleOf : msok yX8_doubleOf cX8_doubleOf 5 (some .double) 3 := ⟨qK_X8_doubleOf, qSt_X8_doubleOf, qInit_X8, by decide +kernel⟩
set_option maxHeartbeats 4000000 in
set_option maxRecDepth 100000 in
theorem c_X8_doubleOf {l : Launch} {D : va_G} {cy : Nat → ClassId} {ad : Nat → Nat} {N : Nat} {ct : Nat → Option va_E} {a : Nat} {w1 : Int64} {r1 : UInt64} (ha : a < 12) : CM l yX8_doubleOf cX8_doubleOf 5 (some .double) (rm_ 0 0) D cy N ad [.int (nI a), .long (w1), .double (r1)] ct (some (.double (dbl a w1 r1))) ct := by
  refine CM.start (by decide) (Nat.le_of_ble_eq_true rfl) ?_
  intro p_ e_ s m_ below meth cd A ls hC hr hlk hin hK hA hH hl
  obtain ⟨hx, hb, hml, hown, hts⟩ := id hC
  have hS : va_S A s.heap s.heap [] := va_S.rf
  have hl : lv_has ls 5 [(0, .int (nI a)), (1, .long (w1)), (3, .double (r1))] := hl
  refine lv_iload_n hx hb dX8_doubleOf_0 rfl (lv_at hl 0 rfl) ?_
  refine lv_iconst (v := 5) hx hb dX8_doubleOf_1 (by decide) ?_
  refine lv_icmp_gt (tgt := 10) hx hb dX8_doubleOf_2 (by decide) (fun c_2 => ?_) (fun c_2 => ?_)
  · have c_2 := nc_lt (a := 5) (b := a) (by omega) (by omega) c_2
    refine lv_dload_n hx hb dX8_doubleOf_10 rfl (lv_at hl 2 rfl) ?_
    exact cm_rd hC hr hlk (by unfold dbl; first | rw [if_pos (by omega)] | rw [if_neg (by omega)]) (rfl) hH hS dX8_doubleOf_11
  · have c_2 := nc_nlt (a := 5) (b := a) (by omega) (by omega) c_2
    refine lv_lload_n hx hb dX8_doubleOf_5 rfl (lv_at hl 1 rfl) ?_
    refine lv_l2d hx hb dX8_doubleOf_6 ?_
    refine lv_goto (tgt := 11) hx hb dX8_doubleOf_7 (by decide) ?_
    exact cm_rd hC hr hlk (by unfold dbl; first | rw [if_pos (by omega)] | rw [if_neg (by omega)]) (rfl) hH hS dX8_doubleOf_11
theorem ms_X8_order : msok yX8_order cX8_order 6 (some .int) 4 := ⟨qK_X8_order, qSt_X8_order, qInit_X8, by decide +kernel⟩
set_option maxHeartbeats 4000000 in
set_option maxRecDepth 100000 in
theorem c_X8_order {l : Launch} {D : va_G} {cy : Nat → ClassId} {ad : Nat → Nat} {N : Nat} {ct : Nat → Option va_E} {a b : Nat} {w1 w2 : Int64} (ha : a < 12) (hb9 : b < 12) : CM l yX8_order cX8_order 6 (some .int) (rm_ 0 0) D cy N ad [.int (nI a), .long (w1), .int (nI b), .long (w2)] ct (some (.int (ordW a w1 b w2))) ct := by
  refine CM.start (by decide) (Nat.le_of_ble_eq_true rfl) ?_
  intro p_ e_ s m_ below meth cd A ls hC hr hlk hin hK hA hH hl
  obtain ⟨hx, hb, hml, hown, hts⟩ := id hC
  have hS : va_S A s.heap s.heap [] := va_S.rf
  have hl : lv_has ls 6 [(0, .int (nI a)), (1, .long (w1)), (3, .int (nI b)), (4, .long (w2))] := hl
  refine lv_iload_n hx hb dX8_order_0 rfl (lv_at hl 0 rfl) ?_
  refine lv_if_ne (tgt := 8) hx hb dX8_order_1 (by decide) (fun c_1 => ?_) (fun c_1 => ?_)
  · have c_1 := nc_ne (a := a) (b := 0) (by omega) (by omega) c_1
    refine lv_iconst (v := 0) hx hb dX8_order_8 (by decide) ?_
    refine lv_iload_n hx hb dX8_order_9 rfl (lv_at hl 2 rfl) ?_
    refine lv_if_ne (tgt := 17) hx hb dX8_order_10 (by decide) (fun c_10 => ?_) (fun c_10 => ?_)
    · have c_10 := nc_ne (a := b) (b := 0) (by omega) (by omega) c_10
      refine lv_iconst (v := 0) hx hb dX8_order_17 (by decide) ?_
      refine lv_icmp_eq (tgt := 23) hx hb dX8_order_18 (by decide) (fun c_18 => ?_) (fun c_18 => absurd c_18 (by decide))
      refine lv_lload_n hx hb dX8_order_23 rfl (lv_at hl 1 rfl) ?_
      refine lv_lload hx hb dX8_order_24 (lv_at hl 3 rfl) ?_
      refine W.lcmp hx hb dX8_order_26 ?_
      refine lv_if_ge (tgt := 34) hx hb dX8_order_27 (by decide) (fun c_27 => ?_) (fun c_27 => ?_)
      · have c_27 := lc_geT c_27
        refine lv_lload_n hx hb dX8_order_34 rfl (lv_at hl 1 rfl) ?_
        refine lv_lload hx hb dX8_order_35 (lv_at hl 3 rfl) ?_
        refine W.lcmp hx hb dX8_order_37 ?_
        refine lv_if_le (tgt := 45) hx hb dX8_order_38 (by decide) (fun c_38 => ?_) (fun c_38 => ?_)
        · have c_38 := lc_leT c_38
          refine lv_iconst (v := 0) hx hb dX8_order_45 (by decide) ?_
          exact cm_ri hC hr hlk (by simp [ordW, c_1, c_10, c_27, c_38]) (rfl) hH hS dX8_order_46
        · have c_38 := lc_leF c_38
          refine lv_iconst (v := 1) hx hb dX8_order_41 (by decide) ?_
          refine lv_goto (tgt := 46) hx hb dX8_order_42 (by decide) ?_
          exact cm_ri hC hr hlk (by simp [ordW, c_1, c_10, c_27, c_38]) (rfl) hH hS dX8_order_46
      · have c_27 := lc_geF c_27
        refine lv_iconst (v := (-1)) hx hb dX8_order_30 (by decide) ?_
        refine lv_goto (tgt := 46) hx hb dX8_order_31 (by decide) ?_
        exact cm_ri hC hr hlk (by simp [ordW, c_1, c_10, c_27]) (rfl) hH hS dX8_order_46
    · have c_10 := nc_eq (a := b) (b := 0) (by omega) (by omega) c_10
      refine lv_iconst (v := 1) hx hb dX8_order_13 (by decide) ?_
      refine lv_goto (tgt := 18) hx hb dX8_order_14 (by decide) ?_
      refine lv_icmp_eq (tgt := 23) hx hb dX8_order_18 (by decide) (fun c_18 => absurd c_18 (by decide)) (fun c_18 => ?_)
      refine lv_iconst (v := 2) hx hb dX8_order_21 (by decide) ?_
      exact cm_ri hC hr hlk (by simp [ordW, c_1, c_10]) (rfl) hH hS dX8_order_22
  · have c_1 := nc_eq (a := a) (b := 0) (by omega) (by omega) c_1
    refine lv_iconst (v := 1) hx hb dX8_order_4 (by decide) ?_
    refine lv_goto (tgt := 9) hx hb dX8_order_5 (by decide) ?_
    refine lv_iload_n hx hb dX8_order_9 rfl (lv_at hl 2 rfl) ?_
    refine lv_if_ne (tgt := 17) hx hb dX8_order_10 (by decide) (fun c_10 => ?_) (fun c_10 => ?_)
    · have c_10 := nc_ne (a := b) (b := 0) (by omega) (by omega) c_10
      refine lv_iconst (v := 0) hx hb dX8_order_17 (by decide) ?_
      refine lv_icmp_eq (tgt := 23) hx hb dX8_order_18 (by decide) (fun c_18 => absurd c_18 (by decide)) (fun c_18 => ?_)
      refine lv_iconst (v := 2) hx hb dX8_order_21 (by decide) ?_
      exact cm_ri hC hr hlk (by simp [ordW, c_1, c_10]) (rfl) hH hS dX8_order_22
    · have c_10 := nc_eq (a := b) (b := 0) (by omega) (by omega) c_10
      refine lv_iconst (v := 1) hx hb dX8_order_13 (by decide) ?_
      refine lv_goto (tgt := 18) hx hb dX8_order_14 (by decide) ?_
      refine lv_icmp_eq (tgt := 23) hx hb dX8_order_18 (by decide) (fun c_18 => ?_) (fun c_18 => absurd c_18 (by decide))
      refine lv_lload_n hx hb dX8_order_23 rfl (lv_at hl 1 rfl) ?_
      refine lv_lload hx hb dX8_order_24 (lv_at hl 3 rfl) ?_
      refine W.lcmp hx hb dX8_order_26 ?_
      refine lv_if_ge (tgt := 34) hx hb dX8_order_27 (by decide) (fun c_27 => ?_) (fun c_27 => ?_)
      · have c_27 := lc_geT c_27
        refine lv_lload_n hx hb dX8_order_34 rfl (lv_at hl 1 rfl) ?_
        refine lv_lload hx hb dX8_order_35 (lv_at hl 3 rfl) ?_
        refine W.lcmp hx hb dX8_order_37 ?_
        refine lv_if_le (tgt := 45) hx hb dX8_order_38 (by decide) (fun c_38 => ?_) (fun c_38 => ?_)
        · have c_38 := lc_leT c_38
          refine lv_iconst (v := 0) hx hb dX8_order_45 (by decide) ?_
          exact cm_ri hC hr hlk (by simp [ordW, c_1, c_10, c_27, c_38]) (rfl) hH hS dX8_order_46
        · have c_38 := lc_leF c_38
          refine lv_iconst (v := 1) hx hb dX8_order_41 (by decide) ?_
          refine lv_goto (tgt := 46) hx hb dX8_order_42 (by decide) ?_
          exact cm_ri hC hr hlk (by simp [ordW, c_1, c_10, c_27, c_38]) (rfl) hH hS dX8_order_46
      · have c_27 := lc_geF c_27
        refine lv_iconst (v := (-1)) hx hb dX8_order_30 (by decide) ?_
        refine lv_goto (tgt := 46) hx hb dX8_order_31 (by decide) ?_
        exact cm_ri hC hr hlk (by simp [ordW, c_1, c_10, c_27]) (rfl) hH hS dX8_order_46
theorem mv_X8_against : mvok RX8 yX8_against cX8_against 10 (some .int) 3 := ⟨qK_X8_against, qI_X8_against, qSel_X8_X8_against, qInit_X8, by decide +kernel⟩
set_option maxHeartbeats 4000000 in
set_option maxRecDepth 100000 in
theorem c_X8_against {l : Launch} {D : va_G} {cy : Nat → ClassId} {ad : Nat → Nat} {P : AS} {wy : Int32} {w : Int64} {r : UInt64} {ns : Nat → Int32} {nw : Nat → Int64} {nr : Nat → UInt64} {fr : Nat → Int32} {tt : Nat → Int32} {a b : Nat} {w2 : Int64} {r2 : UInt64} (ha : a < 12) (hb9 : b < 12) : CM l yX8_against cX8_against 10 (some .int) (rm_ 1 25) D cy 13 ad [.ref (ad 0), .int (nI b), .long (w2), .double (r2)] (mct cy ad P wy (nI a) w r ns nw nr fr tt) (some (.int (agn a w r b w2 r2))) (mct cy ad P wy (nI a) w r ns nw nr fr tt) := by
  refine CM.start (by decide) (Nat.le_of_ble_eq_true rfl) ?_
  intro p_ e_ s m_ below meth cd A ls hC hr hlk hin hK hA hH hl
  obtain ⟨hx, hb, hml, hown, hts⟩ := id hC
  have hS : va_S A s.heap s.heap [] := va_S.rf
  have hl : lv_has ls 10 [(0, .ref (ad 0)), (1, .int (nI b)), (2, .long (w2)), (4, .double (r2))] := hl
  refine lv_aload_n hx hb dX8_against_0 rfl (lv_at hl 0 rfl) ?_
  refine g_get hC hK inG8 hH 0 (by decide) rfl rfl 9 (by decide) qF_X8_66 (Or.inl rfl) rfl dX8_against_1 ?_
  refine lv_if_eq (tgt := 80) hx hb dX8_against_4 (by decide) (fun c_4 => ?_) (fun c_4 => ?_)
  · have c_4 := nc_eq (a := a) (b := 0) (by omega) (by omega) c_4
    refine lv_aload_n hx hb dX8_against_80 rfl (lv_at hl 0 rfl) ?_
    refine g_get hC hK inG8 hH 0 (by decide) rfl rfl 9 (by decide) qF_X8_66 (Or.inl rfl) rfl dX8_against_81 ?_
    refine lv_aload_n hx hb dX8_against_84 rfl (lv_at hl 0 rfl) ?_
    refine g_get hC hK inG8 hH 0 (by decide) rfl rfl 10 (by decide) qF_X8_69 (Or.inl rfl) rfl dX8_against_85 ?_
    refine lv_iload_n hx hb dX8_against_88 rfl (lv_at hl 1 rfl) ?_
    refine lv_lload_n hx hb dX8_against_89 rfl (lv_at hl 2 rfl) ?_
    refine cm_S (As := [.int (nI a), .long (w), .int (nI b), .long (w2)]) (rest := []) hC (c_X8_order (by omega) (by omega)) ms_X8_order qM_X8_87 ⟨⟨rfl, rfl⟩, Nat.le_of_ble_eq_true rfl, Nat.le_of_ble_eq_true rfl⟩ hK hH hS hA hl.1 ⟨Nat.zero_le _, Nat.zero_le _⟩ rfl rfl (Nat.le_of_ble_eq_true rfl) dX8_against_90 (fun H locs hH hS => ?_)
    exact cm_ri hC hr hlk (by unfold agn; rw [if_neg (by omega)]) (rfl) hH hS dX8_against_93
  · have c_4 := nc_ne (a := a) (b := 0) (by omega) (by omega) c_4
    refine lv_iload_n hx hb dX8_against_7 rfl (lv_at hl 1 rfl) ?_
    refine lv_if_eq (tgt := 80) hx hb dX8_against_8 (by decide) (fun c_8 => ?_) (fun c_8 => ?_)
    · have c_8 := nc_eq (a := b) (b := 0) (by omega) (by omega) c_8
      refine lv_aload_n hx hb dX8_against_80 rfl (lv_at hl 0 rfl) ?_
      refine g_get hC hK inG8 hH 0 (by decide) rfl rfl 9 (by decide) qF_X8_66 (Or.inl rfl) rfl dX8_against_81 ?_
      refine lv_aload_n hx hb dX8_against_84 rfl (lv_at hl 0 rfl) ?_
      refine g_get hC hK inG8 hH 0 (by decide) rfl rfl 10 (by decide) qF_X8_69 (Or.inl rfl) rfl dX8_against_85 ?_
      refine lv_iload_n hx hb dX8_against_88 rfl (lv_at hl 1 rfl) ?_
      refine lv_lload_n hx hb dX8_against_89 rfl (lv_at hl 2 rfl) ?_
      refine cm_S (As := [.int (nI a), .long (w), .int (nI b), .long (w2)]) (rest := []) hC (c_X8_order (by omega) (by omega)) ms_X8_order qM_X8_87 ⟨⟨rfl, rfl⟩, Nat.le_of_ble_eq_true rfl, Nat.le_of_ble_eq_true rfl⟩ hK hH hS hA hl.1 ⟨Nat.zero_le _, Nat.zero_le _⟩ rfl rfl (Nat.le_of_ble_eq_true rfl) dX8_against_90 (fun H locs hH hS => ?_)
      exact cm_ri hC hr hlk (by unfold agn; rw [if_neg (by omega)]) (rfl) hH hS dX8_against_93
    · have c_8 := nc_ne (a := b) (b := 0) (by omega) (by omega) c_8
      refine lv_aload_n hx hb dX8_against_11 rfl (lv_at hl 0 rfl) ?_
      refine g_get hC hK inG8 hH 0 (by decide) rfl rfl 9 (by decide) qF_X8_66 (Or.inl rfl) rfl dX8_against_12 ?_
      refine cm_S (As := [.int (nI a)]) (rest := []) hC (c_X8_isFloating (by omega)) ms_X8_isFloating qM_X8_80 ⟨⟨rfl, rfl⟩, Nat.le_of_ble_eq_true rfl, Nat.le_of_ble_eq_true rfl⟩ hK hH hS hA hl.1 ⟨Nat.zero_le _, Nat.zero_le _⟩ rfl rfl (Nat.le_of_ble_eq_true rfl) dX8_against_15 (fun H locs hH hS => ?_)
      refine lv_if_ne (tgt := 28) hx hb dX8_against_18 (by decide) (fun c_18 => ?_) (fun c_18 => ?_)
      · have c_18 := b2d_t c_18
        refine lv_aload_n hx hb dX8_against_28 rfl (lv_at hl 0 rfl) ?_
        refine g_get hC hK inG8 hH 0 (by decide) rfl rfl 9 (by decide) qF_X8_66 (Or.inl rfl) rfl dX8_against_29 ?_
        refine lv_aload_n hx hb dX8_against_32 rfl (lv_at hl 0 rfl) ?_
        refine g_get hC hK inG8 hH 0 (by decide) rfl rfl 10 (by decide) qF_X8_69 (Or.inl rfl) rfl dX8_against_33 ?_
        refine lv_aload_n hx hb dX8_against_36 rfl (lv_at hl 0 rfl) ?_
        refine g_get hC hK inG8 hH 0 (by decide) rfl rfl 11 (by decide) qF_X8_73 (Or.inl rfl) rfl dX8_against_37 ?_
        refine cm_S (As := [.int (nI a), .long (w), .double (r)]) (rest := []) hC (c_X8_doubleOf (by omega)) ms_X8_doubleOf qM_X8_83 ⟨⟨rfl, rfl⟩, Nat.le_of_ble_eq_true rfl, Nat.le_of_ble_eq_true rfl⟩ hK hH hS hA hl.1 ⟨Nat.zero_le _, Nat.zero_le _⟩ rfl rfl (Nat.le_of_ble_eq_true rfl) dX8_against_40 (fun H locs hH hS => ?_)
        refine lv_dstore (lv' := [(6, .double (dbl a w r)), (0, .ref (ad 0)), (1, .int (nI b)), (2, .long (w2)), (4, .double (r2))]) hx hb dX8_against_43 hl (by decide) rfl (fun ls hl => ?_)
        refine lv_iload_n hx hb dX8_against_45 rfl (lv_at hl 2 rfl) ?_
        refine lv_lload_n hx hb dX8_against_46 rfl (lv_at hl 3 rfl) ?_
        refine lv_dload hx hb dX8_against_47 (lv_at hl 4 rfl) ?_
        refine cm_S (As := [.int (nI b), .long (w2), .double (r2)]) (rest := []) hC (c_X8_doubleOf (by omega)) ms_X8_doubleOf qM_X8_83 ⟨⟨rfl, rfl⟩, Nat.le_of_ble_eq_true rfl, Nat.le_of_ble_eq_true rfl⟩ hK hH hS hA hl.1 ⟨Nat.zero_le _, Nat.zero_le _⟩ rfl rfl (Nat.le_of_ble_eq_true rfl) dX8_against_49 (fun H locs hH hS => ?_)
        refine lv_dstore (lv' := [(8, .double (dbl b w2 r2)), (6, .double (dbl a w r)), (0, .ref (ad 0)), (1, .int (nI b)), (2, .long (w2)), (4, .double (r2))]) hx hb dX8_against_52 hl (by decide) rfl (fun ls hl => ?_)
        refine lv_dload hx hb dX8_against_54 (lv_at hl 1 rfl) ?_
        refine lv_dload hx hb dX8_against_56 (lv_at hl 0 rfl) ?_
        refine lv_dcmp hx hb dX8_against_58 ?_
        refine lv_if_ge (tgt := 66) hx hb dX8_against_59 (by decide) (fun c_59 => ?_) (fun c_59 => ?_)
        · refine lv_dload hx hb dX8_against_66 (lv_at hl 1 rfl) ?_
          refine lv_dload hx hb dX8_against_68 (lv_at hl 0 rfl) ?_
          refine lv_dcmp hx hb dX8_against_70 ?_
          refine lv_if_le (tgt := 78) hx hb dX8_against_71 (by decide) (fun c_71 => ?_) (fun c_71 => ?_)
          · refine lv_iconst (v := 0) hx hb dX8_against_78 (by decide) ?_
            exact cm_ri hC hr hlk (by unfold agn; rw [if_pos (by omega)]; simp [cmpD, c_59, c_71]) (rfl) hH hS dX8_against_79
          · refine lv_iconst (v := 1) hx hb dX8_against_74 (by decide) ?_
            refine lv_goto (tgt := 79) hx hb dX8_against_75 (by decide) ?_
            exact cm_ri hC hr hlk (by unfold agn; rw [if_pos (by omega)]; simp [cmpD, c_59, c_71]) (rfl) hH hS dX8_against_79
        · refine lv_iconst (v := (-1)) hx hb dX8_against_62 (by decide) ?_
          refine lv_goto (tgt := 79) hx hb dX8_against_63 (by decide) ?_
          exact cm_ri hC hr hlk (by unfold agn; rw [if_pos (by omega)]; simp [cmpD, c_59]) (rfl) hH hS dX8_against_79
      · have c_18 := b2d_f c_18
        refine lv_iload_n hx hb dX8_against_21 rfl (lv_at hl 1 rfl) ?_
        refine cm_S (As := [.int (nI b)]) (rest := []) hC (c_X8_isFloating (by omega)) ms_X8_isFloating qM_X8_80 ⟨⟨rfl, rfl⟩, Nat.le_of_ble_eq_true rfl, Nat.le_of_ble_eq_true rfl⟩ hK hH hS hA hl.1 ⟨Nat.zero_le _, Nat.zero_le _⟩ rfl rfl (Nat.le_of_ble_eq_true rfl) dX8_against_22 (fun H locs hH hS => ?_)
        refine lv_if_eq (tgt := 80) hx hb dX8_against_25 (by decide) (fun c_25 => ?_) (fun c_25 => ?_)
        · have c_25 := b2d_f c_25
          refine lv_aload_n hx hb dX8_against_80 rfl (lv_at hl 0 rfl) ?_
          refine g_get hC hK inG8 hH 0 (by decide) rfl rfl 9 (by decide) qF_X8_66 (Or.inl rfl) rfl dX8_against_81 ?_
          refine lv_aload_n hx hb dX8_against_84 rfl (lv_at hl 0 rfl) ?_
          refine g_get hC hK inG8 hH 0 (by decide) rfl rfl 10 (by decide) qF_X8_69 (Or.inl rfl) rfl dX8_against_85 ?_
          refine lv_iload_n hx hb dX8_against_88 rfl (lv_at hl 1 rfl) ?_
          refine lv_lload_n hx hb dX8_against_89 rfl (lv_at hl 2 rfl) ?_
          refine cm_S (As := [.int (nI a), .long (w), .int (nI b), .long (w2)]) (rest := []) hC (c_X8_order (by omega) (by omega)) ms_X8_order qM_X8_87 ⟨⟨rfl, rfl⟩, Nat.le_of_ble_eq_true rfl, Nat.le_of_ble_eq_true rfl⟩ hK hH hS hA hl.1 ⟨Nat.zero_le _, Nat.zero_le _⟩ rfl rfl (Nat.le_of_ble_eq_true rfl) dX8_against_90 (fun H locs hH hS => ?_)
          exact cm_ri hC hr hlk (by unfold agn; rw [if_neg (by omega)]) (rfl) hH hS dX8_against_93
        · have c_25 := b2d_t c_25
          refine lv_aload_n hx hb dX8_against_28 rfl (lv_at hl 0 rfl) ?_
          refine g_get hC hK inG8 hH 0 (by decide) rfl rfl 9 (by decide) qF_X8_66 (Or.inl rfl) rfl dX8_against_29 ?_
          refine lv_aload_n hx hb dX8_against_32 rfl (lv_at hl 0 rfl) ?_
          refine g_get hC hK inG8 hH 0 (by decide) rfl rfl 10 (by decide) qF_X8_69 (Or.inl rfl) rfl dX8_against_33 ?_
          refine lv_aload_n hx hb dX8_against_36 rfl (lv_at hl 0 rfl) ?_
          refine g_get hC hK inG8 hH 0 (by decide) rfl rfl 11 (by decide) qF_X8_73 (Or.inl rfl) rfl dX8_against_37 ?_
          refine cm_S (As := [.int (nI a), .long (w), .double (r)]) (rest := []) hC (c_X8_doubleOf (by omega)) ms_X8_doubleOf qM_X8_83 ⟨⟨rfl, rfl⟩, Nat.le_of_ble_eq_true rfl, Nat.le_of_ble_eq_true rfl⟩ hK hH hS hA hl.1 ⟨Nat.zero_le _, Nat.zero_le _⟩ rfl rfl (Nat.le_of_ble_eq_true rfl) dX8_against_40 (fun H locs hH hS => ?_)
          refine lv_dstore (lv' := [(6, .double (dbl a w r)), (0, .ref (ad 0)), (1, .int (nI b)), (2, .long (w2)), (4, .double (r2))]) hx hb dX8_against_43 hl (by decide) rfl (fun ls hl => ?_)
          refine lv_iload_n hx hb dX8_against_45 rfl (lv_at hl 2 rfl) ?_
          refine lv_lload_n hx hb dX8_against_46 rfl (lv_at hl 3 rfl) ?_
          refine lv_dload hx hb dX8_against_47 (lv_at hl 4 rfl) ?_
          refine cm_S (As := [.int (nI b), .long (w2), .double (r2)]) (rest := []) hC (c_X8_doubleOf (by omega)) ms_X8_doubleOf qM_X8_83 ⟨⟨rfl, rfl⟩, Nat.le_of_ble_eq_true rfl, Nat.le_of_ble_eq_true rfl⟩ hK hH hS hA hl.1 ⟨Nat.zero_le _, Nat.zero_le _⟩ rfl rfl (Nat.le_of_ble_eq_true rfl) dX8_against_49 (fun H locs hH hS => ?_)
          refine lv_dstore (lv' := [(8, .double (dbl b w2 r2)), (6, .double (dbl a w r)), (0, .ref (ad 0)), (1, .int (nI b)), (2, .long (w2)), (4, .double (r2))]) hx hb dX8_against_52 hl (by decide) rfl (fun ls hl => ?_)
          refine lv_dload hx hb dX8_against_54 (lv_at hl 1 rfl) ?_
          refine lv_dload hx hb dX8_against_56 (lv_at hl 0 rfl) ?_
          refine lv_dcmp hx hb dX8_against_58 ?_
          refine lv_if_ge (tgt := 66) hx hb dX8_against_59 (by decide) (fun c_59 => ?_) (fun c_59 => ?_)
          · refine lv_dload hx hb dX8_against_66 (lv_at hl 1 rfl) ?_
            refine lv_dload hx hb dX8_against_68 (lv_at hl 0 rfl) ?_
            refine lv_dcmp hx hb dX8_against_70 ?_
            refine lv_if_le (tgt := 78) hx hb dX8_against_71 (by decide) (fun c_71 => ?_) (fun c_71 => ?_)
            · refine lv_iconst (v := 0) hx hb dX8_against_78 (by decide) ?_
              exact cm_ri hC hr hlk (by unfold agn; rw [if_pos (by omega)]; simp [cmpD, c_59, c_71]) (rfl) hH hS dX8_against_79
            · refine lv_iconst (v := 1) hx hb dX8_against_74 (by decide) ?_
              refine lv_goto (tgt := 79) hx hb dX8_against_75 (by decide) ?_
              exact cm_ri hC hr hlk (by unfold agn; rw [if_pos (by omega)]; simp [cmpD, c_59, c_71]) (rfl) hH hS dX8_against_79
          · refine lv_iconst (v := (-1)) hx hb dX8_against_62 (by decide) ?_
            refine lv_goto (tgt := 79) hx hb dX8_against_63 (by decide) ?_
            exact cm_ri hC hr hlk (by unfold agn; rw [if_pos (by omega)]; simp [cmpD, c_59]) (rfl) hH hS dX8_against_79
theorem mv_X8_fits : mvok RX8 yX8_fits cX8_fits 5 (some .boolean) 2 := ⟨qK_X8_fits, qI_X8_fits, qSel_X8_X8_fits, qInit_X8, by decide +kernel⟩
set_option maxHeartbeats 4000000 in
set_option maxRecDepth 100000 in
theorem c_X8_fits {l : Launch} {D : va_G} {cy : Nat → ClassId} {ad : Nat → Nat} {P : AS} {wy : Int32} {so : Int32} {w : Int64} {r : UInt64} {ns : Nat → Int32} {nw : Nat → Int64} {nr : Nat → UInt64} {fr : Nat → Int32} {tt : Nat → Int32} {u q : Nat} (hu : u < 513) (hq : q ≤ 513) (hw : WF P) (h8u : 8 ≤ P.kd u) (h12 : P.kd u < 12) : CM l yX8_fits cX8_fits 5 (some .boolean) (rm_ 0 0) D cy 13 ad [.ref (ad 0), .int (nI u), .long (lN q)] (mct cy ad P wy so w r ns nw nr fr tt) (some (.int (b2i (fitP P u q)))) (mct cy ad P wy so w r ns nw nr fr tt) := by
  refine CM.start (by decide) (Nat.le_of_ble_eq_true rfl) ?_
  intro p_ e_ s m_ below meth cd A ls hC hr hlk hin hK hA hH hl
  obtain ⟨hx, hb, hml, hown, hts⟩ := id hC
  have hS : va_S A s.heap s.heap [] := va_S.rf
  have hl : lv_has ls 5 [(0, .ref (ad 0)), (1, .int (nI u)), (2, .long (lN q))] := hl
  rcases co_cases q with rfl | ⟨x, rfl⟩
  · refine lv_lload_n hx hb dX8_fits_0 rfl (lv_at hl 2 rfl) ?_
    refine lv_lconst (v := 0) hx hb dX8_fits_1 (by decide) ?_
    refine W.lcmp hx hb dX8_fits_2 ?_
    refine lv_if_ne (tgt := 8) hx hb dX8_fits_3 (by decide) (fun c_3 => absurd c_3 (by decide)) (fun c_3 => ?_)
    refine lv_iconst (v := 1) hx hb dX8_fits_6 (by decide) ?_
    exact cm_rz hC hr hlk (by first | exact Or.inl rfl | exact Or.inr rfl | exact b2i_01 _) (rfl) (rfl) hH hS dX8_fits_7
  · refine lv_lload_n hx hb dX8_fits_0 rfl (lv_at hl 2 rfl) ?_
    refine lv_lconst (v := 0) hx hb dX8_fits_1 (by decide) ?_
    refine W.lcmp hx hb dX8_fits_2 ?_
    refine lv_if_ne (tgt := 8) hx hb dX8_fits_3 (by decide) (fun c_3 => ?_) (fun c_3 => absurd (lc_eqT c_3) (fun h => absurd ((lN_z (by omega)).mp h) (by omega)))
    refine lv_aload_n hx hb dX8_fits_8 rfl (lv_at hl 0 rfl) ?_
    refine g_get hC hK inG8 hH 0 (by decide) rfl rfl 1 (by decide) qF_X8_13 (Or.inl rfl) rfl dX8_fits_9 ?_
    refine lv_lload_n hx hb dX8_fits_12 rfl (lv_at hl 2 rfl) ?_
    refine lv_l2i hx hb dX8_fits_13 rfl ?_
    refine lv_iconst (v := 1) hx hb dX8_fits_14 (by decide) ?_
    refine lv_isub hx hb dX8_fits_15 ?_
    have hkx := hw.1 x
    refine lv_chg (y := nI x) (by rw [lN_i, nI_pred]) ?_
    refine gN_iald hC hK hH 2 (by decide) rfl x (by omega) dX8_fits_16 ?_
    refine lv_istore (lv' := [(4, .int (nI (P.kd x))), (0, .ref (ad 0)), (1, .int (nI u)), (2, .long (lN (x + 1)))]) hx hb dX8_fits_17 hl (by decide) rfl (fun ls hl => ?_)
    refine lv_aload_n hx hb dX8_fits_19 rfl (lv_at hl 1 rfl) ?_
    refine g_get hC hK inG8 hH 0 (by decide) rfl rfl 1 (by decide) qF_X8_13 (Or.inl rfl) rfl dX8_fits_20 ?_
    refine lv_iload_n hx hb dX8_fits_23 rfl (lv_at hl 2 rfl) ?_
    refine gN_iald hC hK hH 2 (by decide) rfl u (by omega) dX8_fits_24 ?_
    rcases (by omega : P.kd u = 8 ∨ P.kd u = 9 ∨ P.kd u = 10 ∨ P.kd u = 11) with h8 | h8 | h8 | h8
    · refine lv_chg (y := nI 8) (by rw [h8]) ?_
      refine lv_tableIn (off := 27) (tgt := 52) hx hb dX8_fits_25 (by decide) (by decide) (by decide) (by decide) ?_
      refine lv_iload hx hb dX8_fits_52 (lv_at hl 0 rfl) ?_
      refine lv_bipush (v := 12) hx hb dX8_fits_54 (by decide) ?_
      refine lv_icmp_lt (tgt := 63) hx hb dX8_fits_56 (by decide) (fun c_56 => ?_) (fun c_56 => ?_)
      · have c_56 := nc_lt (a := (P.kd x)) (b := 12) (by omega) (by omega) c_56
        refine lv_iconst (v := 0) hx hb dX8_fits_63 (by decide) ?_
        exact cm_rz hC hr hlk (by first | exact Or.inl rfl | exact Or.inr rfl | exact b2i_01 _) (by rw [fitP_s, fitK_r8 h8]; first | exact b2d_1 (by omega) | exact b2d_0 (by omega)) (rfl) hH hS dX8_fits_64
      · have c_56 := nc_nlt (a := (P.kd x)) (b := 12) (by omega) (by omega) c_56
        refine lv_iconst (v := 1) hx hb dX8_fits_59 (by decide) ?_
        refine lv_goto (tgt := 64) hx hb dX8_fits_60 (by decide) ?_
        exact cm_rz hC hr hlk (by first | exact Or.inl rfl | exact Or.inr rfl | exact b2i_01 _) (by rw [fitP_s, fitK_r8 h8]; first | exact b2d_1 (by omega) | exact b2d_0 (by omega)) (rfl) hH hS dX8_fits_64
    · refine lv_chg (y := nI 9) (by rw [h8]) ?_
      refine lv_tableIn (off := 40) (tgt := 65) hx hb dX8_fits_25 (by decide) (by decide) (by decide) (by decide) ?_
      refine lv_iload hx hb dX8_fits_65 (lv_at hl 0 rfl) ?_
      refine lv_bipush (v := 14) hx hb dX8_fits_67 (by decide) ?_
      refine lv_icmp_ne (tgt := 76) hx hb dX8_fits_69 (by decide) (fun c_69 => ?_) (fun c_69 => ?_)
      · have c_69 := nc_ne (a := (P.kd x)) (b := 14) (by omega) (by omega) c_69
        refine lv_iconst (v := 0) hx hb dX8_fits_76 (by decide) ?_
        exact cm_rz hC hr hlk (by first | exact Or.inl rfl | exact Or.inr rfl | exact b2i_01 _) (by rw [fitP_s, fitK_r9 h8]; first | exact b2d_1 (by omega) | exact b2d_0 (by omega)) (rfl) hH hS dX8_fits_77
      · have c_69 := nc_eq (a := (P.kd x)) (b := 14) (by omega) (by omega) c_69
        refine lv_iconst (v := 1) hx hb dX8_fits_72 (by decide) ?_
        refine lv_goto (tgt := 77) hx hb dX8_fits_73 (by decide) ?_
        exact cm_rz hC hr hlk (by first | exact Or.inl rfl | exact Or.inr rfl | exact b2i_01 _) (by rw [fitP_s, fitK_r9 h8]; first | exact b2d_1 (by omega) | exact b2d_0 (by omega)) (rfl) hH hS dX8_fits_77
    · refine lv_chg (y := nI 10) (by rw [h8]) ?_
      refine lv_tableIn (off := 53) (tgt := 78) hx hb dX8_fits_25 (by decide) (by decide) (by decide) (by decide) ?_
      refine lv_iload hx hb dX8_fits_78 (lv_at hl 0 rfl) ?_
      refine lv_iconst (v := 4) hx hb dX8_fits_80 (by decide) ?_
      refine lv_icmp_ne (tgt := 88) hx hb dX8_fits_81 (by decide) (fun c_81 => ?_) (fun c_81 => ?_)
      · have c_81 := nc_ne (a := (P.kd x)) (b := 4) (by omega) (by omega) c_81
        refine lv_iconst (v := 0) hx hb dX8_fits_88 (by decide) ?_
        exact cm_rz hC hr hlk (by first | exact Or.inl rfl | exact Or.inr rfl | exact b2i_01 _) (by rw [fitP_s, fitK_r10 h8]; first | exact b2d_1 (by omega) | exact b2d_0 (by omega)) (rfl) hH hS dX8_fits_89
      · have c_81 := nc_eq (a := (P.kd x)) (b := 4) (by omega) (by omega) c_81
        refine lv_iconst (v := 1) hx hb dX8_fits_84 (by decide) ?_
        refine lv_goto (tgt := 89) hx hb dX8_fits_85 (by decide) ?_
        exact cm_rz hC hr hlk (by first | exact Or.inl rfl | exact Or.inr rfl | exact b2i_01 _) (by rw [fitP_s, fitK_r10 h8]; first | exact b2d_1 (by omega) | exact b2d_0 (by omega)) (rfl) hH hS dX8_fits_89
    · refine lv_chg (y := nI 11) (by rw [h8]) ?_
      refine lv_tableOut (tgt := 90) hx hb dX8_fits_25 (by decide) (by decide) ?_
      refine lv_iload hx hb dX8_fits_90 (lv_at hl 0 rfl) ?_
      refine lv_bipush (v := 8) hx hb dX8_fits_92 (by decide) ?_
      refine lv_icmp_eq (tgt := 104) hx hb dX8_fits_94 (by decide) (fun c_94 => ?_) (fun c_94 => ?_)
      · have c_94 := nc_eq (a := (P.kd x)) (b := 8) (by omega) (by omega) c_94
        refine lv_iconst (v := 1) hx hb dX8_fits_104 (by decide) ?_
        refine lv_goto (tgt := 109) hx hb dX8_fits_105 (by decide) ?_
        exact cm_rz hC hr hlk (by first | exact Or.inl rfl | exact Or.inr rfl | exact b2i_01 _) (by rw [fitP_s, fitK_r11 h8]; first | exact b2d_1 (by omega) | exact b2d_0 (by omega)) (rfl) hH hS dX8_fits_109
      · have c_94 := nc_ne (a := (P.kd x)) (b := 8) (by omega) (by omega) c_94
        refine lv_iload hx hb dX8_fits_97 (lv_at hl 0 rfl) ?_
        refine lv_bipush (v := 9) hx hb dX8_fits_99 (by decide) ?_
        refine lv_icmp_ne (tgt := 108) hx hb dX8_fits_101 (by decide) (fun c_101 => ?_) (fun c_101 => ?_)
        · have c_101 := nc_ne (a := (P.kd x)) (b := 9) (by omega) (by omega) c_101
          refine lv_iconst (v := 0) hx hb dX8_fits_108 (by decide) ?_
          exact cm_rz hC hr hlk (by first | exact Or.inl rfl | exact Or.inr rfl | exact b2i_01 _) (by rw [fitP_s, fitK_r11 h8]; first | exact b2d_1 (by omega) | exact b2d_0 (by omega)) (rfl) hH hS dX8_fits_109
        · have c_101 := nc_eq (a := (P.kd x)) (b := 9) (by omega) (by omega) c_101
          refine lv_iconst (v := 1) hx hb dX8_fits_104 (by decide) ?_
          refine lv_goto (tgt := 109) hx hb dX8_fits_105 (by decide) ?_
          exact cm_rz hC hr hlk (by first | exact Or.inl rfl | exact Or.inr rfl | exact b2i_01 _) (by rw [fitP_s, fitK_r11 h8]; first | exact b2d_1 (by omega) | exact b2d_0 (by omega)) (rfl) hH hS dX8_fits_109
theorem mv_X8_goesIn : mvok RX8 yX8_goesIn cX8_goesIn 3 (some .boolean) 1 := ⟨qK_X8_goesIn, qI_X8_goesIn, qSel_X8_X8_goesIn, qInit_X8, by decide +kernel⟩
set_option maxHeartbeats 4000000 in
set_option maxRecDepth 100000 in
theorem c_X8_goesIn {l : Launch} {D : va_G} {cy : Nat → ClassId} {ad : Nat → Nat} {P : AS} {wy : Int32} {w : Int64} {r : UInt64} {ns : Nat → Int32} {nw : Nat → Int64} {nr : Nat → UInt64} {fr : Nat → Int32} {tt : Nat → Int32} {a u : Nat} (ha : a < 12) (hu : u < 513) (hw : WF P) (hth : TH P a w) (h12 : P.kd u < 12) : CM l yX8_goesIn cX8_goesIn 3 (some .boolean) (rm_ 1 24) D cy 13 ad [.ref (ad 0), .int (nI u)] (mct cy ad P wy (nI a) w r ns nw nr fr tt) (some (.int (b2i (goesI P a w u)))) (mct cy ad P wy (nI a) w r ns nw nr fr tt) := by
  refine CM.start (by decide) (Nat.le_of_ble_eq_true rfl) ?_
  intro p_ e_ s m_ below meth cd A ls hC hr hlk hin hK hA hH hl
  obtain ⟨hx, hb, hml, hown, hts⟩ := id hC
  have hS : va_S A s.heap s.heap [] := va_S.rf
  have hl : lv_has ls 3 [(0, .ref (ad 0)), (1, .int (nI u))] := hl
  refine lv_aload_n hx hb dX8_goesIn_0 rfl (lv_at hl 0 rfl) ?_
  refine g_get hC hK inG8 hH 0 (by decide) rfl rfl 9 (by decide) qF_X8_66 (Or.inl rfl) rfl dX8_goesIn_1 ?_
  refine lv_bipush (v := 8) hx hb dX8_goesIn_4 (by decide) ?_
  refine lv_icmp_ge (tgt := 13) hx hb dX8_goesIn_6 (by decide) (fun c_6 => ?_) (fun c_6 => ?_)
  · have c_6 := nc_le (a := 8) (b := a) (by omega) (by omega) c_6
    refine lv_iconst (v := 0) hx hb dX8_goesIn_13 (by decide) ?_
    refine lv_istore_n (lv' := [(2, .int (0)), (0, .ref (ad 0)), (1, .int (nI u))]) hx hb dX8_goesIn_14 rfl hl (by decide) rfl (fun ls hl => ?_)
    refine lv_iload_n hx hb dX8_goesIn_15 rfl (lv_at hl 0 rfl) ?_
    refine lv_aload_n hx hb dX8_goesIn_16 rfl (lv_at hl 1 rfl) ?_
    refine lv_iload_n hx hb dX8_goesIn_17 rfl (lv_at hl 2 rfl) ?_
    refine cm_V (As' := [.int (nI u)]) (rest := [.int (0)]) hC (c_X8_isPlain (by omega) hw) mv_X8_isPlain qM_X8_91 ⟨⟨rfl, rfl⟩, Nat.le_of_ble_eq_true rfl, Nat.le_of_ble_eq_true rfl⟩ hK hH hS hA (hp.recv hK hH (i := 0) (by decide) rfl rfl) hl.1 ⟨Nat.zero_le _, Nat.zero_le _⟩ rfl rfl (Nat.le_of_ble_eq_true rfl) dX8_goesIn_18 (fun H locs hH hS => ?_)
    rcases Decidable.em (P.kd u < 8) with h8 | h8
    · refine lv_chg (y := 1) (b2d_1 h8).symm ?_
      refine lv_icmp_eq (tgt := 26) hx hb dX8_goesIn_21 (by decide) (fun c_21 => absurd c_21 (by decide)) (fun c_21 => ?_)
      refine lv_iconst (v := 0) hx hb dX8_goesIn_24 (by decide) ?_
      exact cm_rz hC hr hlk (by first | exact Or.inl rfl | exact Or.inr rfl | exact b2i_01 _) (by rw [goesI_ne (by omega)]; rfl) (rfl) hH hS dX8_goesIn_25
    · refine lv_chg (y := 0) (b2d_0 h8).symm ?_
      refine lv_icmp_eq (tgt := 26) hx hb dX8_goesIn_21 (by decide) (fun c_21 => ?_) (fun c_21 => absurd c_21 (by decide))
      refine lv_iload_n hx hb dX8_goesIn_26 rfl (lv_at hl 0 rfl) ?_
      refine lv_if_eq (tgt := 47) hx hb dX8_goesIn_27 (by decide) (fun c_27 => ?_) (fun c_27 => absurd c_27 (by decide))
      obtain ⟨q, rfl, hq⟩ := hth (by omega)
      have hn513 := hw.2.2.1
      refine lv_aload_n hx hb dX8_goesIn_47 rfl (lv_at hl 1 rfl) ?_
      refine lv_iload_n hx hb dX8_goesIn_48 rfl (lv_at hl 2 rfl) ?_
      refine lv_aload_n hx hb dX8_goesIn_49 rfl (lv_at hl 1 rfl) ?_
      refine g_get hC hK inG8 hH 0 (by decide) rfl rfl 10 (by decide) qF_X8_69 (Or.inl rfl) rfl dX8_goesIn_50 ?_
      refine cm_V (As' := [.int (nI u), .long (lN q)]) (rest := []) hC (c_X8_fits (by omega) (by omega) hw (by omega) (by omega)) mv_X8_fits qM_X8_98 ⟨⟨rfl, rfl⟩, Nat.le_of_ble_eq_true rfl, Nat.le_of_ble_eq_true rfl⟩ hK hH hS hA (hp.recv hK hH (i := 0) (by decide) rfl rfl) hl.1 ⟨Nat.zero_le _, Nat.zero_le _⟩ rfl rfl (Nat.le_of_ble_eq_true rfl) dX8_goesIn_53 (fun H locs hH hS => ?_)
      exact cm_rz hC hr hlk (by first | exact Or.inl rfl | exact Or.inr rfl | exact b2i_01 _) (by rw [goesI_t (by omega) (by omega) (by omega)]) (rfl) hH hS dX8_goesIn_56
  · have c_6 := nc_nle (a := 8) (b := a) (by omega) (by omega) c_6
    refine lv_iconst (v := 1) hx hb dX8_goesIn_9 (by decide) ?_
    refine lv_goto (tgt := 14) hx hb dX8_goesIn_10 (by decide) ?_
    refine lv_istore_n (lv' := [(2, .int (1)), (0, .ref (ad 0)), (1, .int (nI u))]) hx hb dX8_goesIn_14 rfl hl (by decide) rfl (fun ls hl => ?_)
    refine lv_iload_n hx hb dX8_goesIn_15 rfl (lv_at hl 0 rfl) ?_
    refine lv_aload_n hx hb dX8_goesIn_16 rfl (lv_at hl 1 rfl) ?_
    refine lv_iload_n hx hb dX8_goesIn_17 rfl (lv_at hl 2 rfl) ?_
    refine cm_V (As' := [.int (nI u)]) (rest := [.int (1)]) hC (c_X8_isPlain (by omega) hw) mv_X8_isPlain qM_X8_91 ⟨⟨rfl, rfl⟩, Nat.le_of_ble_eq_true rfl, Nat.le_of_ble_eq_true rfl⟩ hK hH hS hA (hp.recv hK hH (i := 0) (by decide) rfl rfl) hl.1 ⟨Nat.zero_le _, Nat.zero_le _⟩ rfl rfl (Nat.le_of_ble_eq_true rfl) dX8_goesIn_18 (fun H locs hH hS => ?_)
    rcases Decidable.em (P.kd u < 8) with h8 | h8
    · refine lv_chg (y := 1) (b2d_1 h8).symm ?_
      refine lv_icmp_eq (tgt := 26) hx hb dX8_goesIn_21 (by decide) (fun c_21 => ?_) (fun c_21 => absurd c_21 (by decide))
      refine lv_iload_n hx hb dX8_goesIn_26 rfl (lv_at hl 0 rfl) ?_
      refine lv_if_eq (tgt := 47) hx hb dX8_goesIn_27 (by decide) (fun c_27 => absurd c_27 (by decide)) (fun c_27 => ?_)
      refine lv_aload_n hx hb dX8_goesIn_30 rfl (lv_at hl 1 rfl) ?_
      refine lv_aload_n hx hb dX8_goesIn_31 rfl (lv_at hl 1 rfl) ?_
      refine g_get hC hK inG8 hH 0 (by decide) rfl rfl 9 (by decide) qF_X8_66 (Or.inl rfl) rfl dX8_goesIn_32 ?_
      refine lv_aload_n hx hb dX8_goesIn_35 rfl (lv_at hl 1 rfl) ?_
      refine g_get hC hK inG8 hH 0 (by decide) rfl rfl 1 (by decide) qF_X8_13 (Or.inl rfl) rfl dX8_goesIn_36 ?_
      refine lv_iload_n hx hb dX8_goesIn_39 rfl (lv_at hl 2 rfl) ?_
      refine gN_iald hC hK hH 2 (by decide) rfl u (by omega) dX8_goesIn_40 ?_
      refine cm_V (As' := [.int (nI a), .int (nI (P.kd u))]) (rest := []) hC (c_X8_goesInto (a := a) (b := (P.kd u)) (by omega) (by omega)) mv_X8_goesInto qM_X8_94 ⟨⟨rfl, rfl⟩, Nat.le_of_ble_eq_true rfl, Nat.le_of_ble_eq_true rfl⟩ hK hH hS hA (hp.recv hK hH (i := 0) (by decide) rfl rfl) hl.1 ⟨Nat.zero_le _, Nat.zero_le _⟩ rfl rfl (Nat.le_of_ble_eq_true rfl) dX8_goesIn_41 (fun H locs hH hS => ?_)
      refine lv_goto (tgt := 56) hx hb dX8_goesIn_44 (by decide) ?_
      exact cm_rz hC hr hlk (by first | exact Or.inl rfl | exact Or.inr rfl | exact b2i_01 _) (by rw [goesI_v (by omega) (by omega)]) (rfl) hH hS dX8_goesIn_56
    · refine lv_chg (y := 0) (b2d_0 h8).symm ?_
      refine lv_icmp_eq (tgt := 26) hx hb dX8_goesIn_21 (by decide) (fun c_21 => absurd c_21 (by decide)) (fun c_21 => ?_)
      refine lv_iconst (v := 0) hx hb dX8_goesIn_24 (by decide) ?_
      exact cm_rz hC hr hlk (by first | exact Or.inl rfl | exact Or.inr rfl | exact b2i_01 _) (by rw [goesI_ne (by omega)]; rfl) (rfl) hH hS dX8_goesIn_25
end
section
theorem mv_X8_isCard : mvok RX8 yX8_isCard cX8_isCard 2 (some .boolean) 1 := ⟨qK_X8_isCard, qI_X8_isCard, qSel_X8_X8_isCard, qInit_X8, by decide +kernel⟩
set_option maxHeartbeats 4000000 in
set_option maxRecDepth 100000 in
theorem c_X8_isCard {l : Launch} {D : va_G} {cy : Nat → ClassId} {ad : Nat → Nat} {P : AS} {wy : Int32} {so : Int32} {w : Int64} {r : UInt64} {ns : Nat → Int32} {nw : Nat → Int64} {nr : Nat → UInt64} {fr : Nat → Int32} {tt : Nat → Int32} {j : Nat} (hj : j < 12) (hw : WF P) : CM l yX8_isCard cX8_isCard 2 (some .boolean) (rm_ 1 21) D cy 13 ad [.ref (ad 0), .int (nI j)] (mct cy ad P wy so w r ns nw nr fr tt) (some (.int (b2i (isCd P j)))) (mct cy ad P wy so w r ns nw nr fr tt) := by
  refine CM.start (by decide) (Nat.le_of_ble_eq_true rfl) ?_
  intro p_ e_ s m_ below meth cd A ls hC hr hlk hin hK hA hH hl
  obtain ⟨hx, hb, hml, hown, hts⟩ := id hC
  have hS : va_S A s.heap s.heap [] := va_S.rf
  have hl : lv_has ls 2 [(0, .ref (ad 0)), (1, .int (nI j))] := hl
  rcases co_cases (P.co j) with h0j | ⟨t, h1j⟩
  · refine lv_aload_n hx hb dX8_isCard_0 rfl (lv_at hl 0 rfl) ?_
    refine lv_iload_n hx hb dX8_isCard_1 rfl (lv_at hl 1 rfl) ?_
    refine cm_V (As' := [.int (nI j)]) (rest := []) hC (c_X8_in0 hj h0j) mv_X8_in qM_X8_56 ⟨⟨rfl, rfl⟩, Nat.le_of_ble_eq_true rfl, Nat.le_of_ble_eq_true rfl⟩ hK hH hS hA (hp.recv hK hH (i := 0) (by decide) rfl rfl) hl.1 ⟨Nat.zero_le _, Nat.zero_le _⟩ rfl rfl (Nat.le_of_ble_eq_true rfl) dX8_isCard_2 (fun H locs hH hS => ?_)
    refine lv_if_lt (tgt := 24) hx hb dX8_isCard_5 (by decide) (fun c_5 => ?_) (fun c_5 => absurd c_5 (by decide))
    refine lv_iconst (v := 0) hx hb dX8_isCard_24 (by decide) ?_
    exact cm_rz hC hr hlk (by first | exact Or.inl rfl | exact Or.inr rfl | exact b2i_01 _) (by first | (rw [isCd_0 h0j]; rfl) | (rw [isCd_t h1j (by omega)]; rfl) | (rw [isCd_r h1j (by omega)]; rfl)) (rfl) hH hS dX8_isCard_25
  · refine lv_aload_n hx hb dX8_isCard_0 rfl (lv_at hl 0 rfl) ?_
    refine lv_iload_n hx hb dX8_isCard_1 rfl (lv_at hl 1 rfl) ?_
    have htt : t < 513 := by have := hw.2.2.2.1 j; have := hw.2.2.1; omega
    refine cm_V (As' := [.int (nI j)]) (rest := []) hC (c_X8_in1 hj h1j) mv_X8_in qM_X8_56 ⟨⟨rfl, rfl⟩, Nat.le_of_ble_eq_true rfl, Nat.le_of_ble_eq_true rfl⟩ hK hH hS hA (hp.recv hK hH (i := 0) (by decide) rfl rfl) hl.1 ⟨Nat.zero_le _, Nat.zero_le _⟩ rfl rfl (Nat.le_of_ble_eq_true rfl) dX8_isCard_2 (fun H locs hH hS => ?_)
    refine lv_if_lt (tgt := 24) hx hb dX8_isCard_5 (by decide) (fun c_5 => absurd c_5 (nI_pos (by omega))) (fun c_5 => ?_)
    refine lv_aload_n hx hb dX8_isCard_8 rfl (lv_at hl 0 rfl) ?_
    refine lv_aload_n hx hb dX8_isCard_9 rfl (lv_at hl 0 rfl) ?_
    refine lv_iload_n hx hb dX8_isCard_10 rfl (lv_at hl 1 rfl) ?_
    refine cm_V (As' := [.int (nI j)]) (rest := [.ref (ad 0)]) hC (c_X8_in1 hj h1j) mv_X8_in qM_X8_56 ⟨⟨rfl, rfl⟩, Nat.le_of_ble_eq_true rfl, Nat.le_of_ble_eq_true rfl⟩ hK hH hS hA (hp.recv hK hH (i := 0) (by decide) rfl rfl) hl.1 ⟨Nat.zero_le _, Nat.zero_le _⟩ rfl rfl (Nat.le_of_ble_eq_true rfl) dX8_isCard_11 (fun H locs hH hS => ?_)
    refine cm_V (As' := [.int (nI t)]) (rest := []) hC (c_X8_isRow (by omega) hw) mv_X8_isRow qM_X8_60 ⟨⟨rfl, rfl⟩, Nat.le_of_ble_eq_true rfl, Nat.le_of_ble_eq_true rfl⟩ hK hH hS hA (hp.recv hK hH (i := 0) (by decide) rfl rfl) hl.1 ⟨Nat.zero_le _, Nat.zero_le _⟩ rfl rfl (Nat.le_of_ble_eq_true rfl) dX8_isCard_14 (fun H locs hH hS => ?_)
    refine lv_if_ne (tgt := 24) hx hb dX8_isCard_17 (by decide) (fun c_17 => ?_) (fun c_17 => ?_)
    · have c_17 := b2d_t c_17
      refine lv_iconst (v := 0) hx hb dX8_isCard_24 (by decide) ?_
      exact cm_rz hC hr hlk (by first | exact Or.inl rfl | exact Or.inr rfl | exact b2i_01 _) (by first | (rw [isCd_0 h0j]; rfl) | (rw [isCd_t h1j (by omega)]; rfl) | (rw [isCd_r h1j (by omega)]; rfl)) (rfl) hH hS dX8_isCard_25
    · have c_17 := b2d_f c_17
      refine lv_iconst (v := 1) hx hb dX8_isCard_20 (by decide) ?_
      refine lv_goto (tgt := 25) hx hb dX8_isCard_21 (by decide) ?_
      exact cm_rz hC hr hlk (by first | exact Or.inl rfl | exact Or.inr rfl | exact b2i_01 _) (by first | (rw [isCd_0 h0j]; rfl) | (rw [isCd_t h1j (by omega)]; rfl) | (rw [isCd_r h1j (by omega)]; rfl)) (rfl) hH hS dX8_isCard_25
theorem mv_X8_reasonOfPlace : mvok RX8 yX8_reasonOfPlace cX8_reasonOfPlace 4 (some .int) 2 := ⟨qK_X8_reasonOfPlace, qI_X8_reasonOfPlace, qSel_X8_X8_reasonOfPlace, qInit_X8, by decide +kernel⟩
set_option maxHeartbeats 4000000 in
set_option maxRecDepth 100000 in
theorem c_X8_reasonOfPlace {l : Launch} {D : va_G} {cy : Nat → ClassId} {ad : Nat → Nat} {P : AS} {wy : Int32} {so : Int32} {w : Int64} {r : UInt64} {ns : Nat → Int32} {nw : Nat → Int64} {nr : Nat → UInt64} {fr : Nat → Int32} {tt : Nat → Int32} {j : Nat} {i : Int32} (hj : j < 12) (hw : WF P) : CM l yX8_reasonOfPlace cX8_reasonOfPlace 4 (some .int) (rm_ 2 42) D cy 13 ad [.ref (ad 0), .int (nI j), .int (i)] (mct cy ad P wy so w r ns nw nr fr tt) (some (.int (nI (rsPl P j i)))) (mct cy ad P wy so w r ns nw nr fr tt) := by
  refine CM.start (by decide) (Nat.le_of_ble_eq_true rfl) ?_
  intro p_ e_ s m_ below meth cd A ls hC hr hlk hin hK hA hH hl
  obtain ⟨hx, hb, hml, hown, hts⟩ := id hC
  have hS : va_S A s.heap s.heap [] := va_S.rf
  have hl : lv_has ls 4 [(0, .ref (ad 0)), (1, .int (nI j)), (2, .int (i))] := hl
  refine lv_aload_n hx hb dX8_reasonOfPlace_0 rfl (lv_at hl 0 rfl) ?_
  refine lv_iload_n hx hb dX8_reasonOfPlace_1 rfl (lv_at hl 1 rfl) ?_
  refine cm_V (As' := [.int (nI j)]) (rest := []) hC (c_X8_reasonOfRow hj hw) mv_X8_reasonOfRow qM_X8_111 ⟨⟨rfl, rfl⟩, Nat.le_of_ble_eq_true rfl, Nat.le_of_ble_eq_true rfl⟩ hK hH hS hA (hp.recv hK hH (i := 0) (by decide) rfl rfl) hl.1 ⟨Nat.zero_le _, Nat.zero_le _⟩ rfl rfl (Nat.le_of_ble_eq_true rfl) dX8_reasonOfPlace_2 (fun H locs hH hS => ?_)
  refine lv_istore_n (lv' := [(3, .int (nI (rsRow P j))), (0, .ref (ad 0)), (1, .int (nI j)), (2, .int (i))]) hx hb dX8_reasonOfPlace_5 rfl hl (by decide) rfl (fun ls hl => ?_)
  have hb1 := rsRow_le P j
  refine lv_iload_n hx hb dX8_reasonOfPlace_6 rfl (lv_at hl 0 rfl) ?_
  refine lv_if_le (tgt := 12) hx hb dX8_reasonOfPlace_7 (by decide) (fun c_7 => ?_) (fun c_7 => ?_)
  · have c_7 : (rsRow P j) = 0 := by have h9 := nc_le (a := (rsRow P j)) (b := 0) (by omega) (by omega) c_7; omega
    obtain ⟨t, h1j, hkt⟩ := rsRow_0 c_7
    have htt : t < 513 := by have := hw.2.2.2.1 j; have := hw.2.2.1; omega
    refine lv_aload_n hx hb dX8_reasonOfPlace_12 rfl (lv_at hl 1 rfl) ?_
    refine lv_aload_n hx hb dX8_reasonOfPlace_13 rfl (lv_at hl 1 rfl) ?_
    refine lv_iload_n hx hb dX8_reasonOfPlace_14 rfl (lv_at hl 2 rfl) ?_
    refine cm_V (As' := [.int (nI j)]) (rest := [.ref (ad 0)]) hC (c_X8_in1 hj h1j) mv_X8_in qM_X8_56 ⟨⟨rfl, rfl⟩, Nat.le_of_ble_eq_true rfl, Nat.le_of_ble_eq_true rfl⟩ hK hH hS hA (hp.recv hK hH (i := 0) (by decide) rfl rfl) hl.1 ⟨Nat.zero_le _, Nat.zero_le _⟩ rfl rfl (Nat.le_of_ble_eq_true rfl) dX8_reasonOfPlace_15 (fun H locs hH hS => ?_)
    refine lv_iload_n hx hb dX8_reasonOfPlace_18 rfl (lv_at hl 3 rfl) ?_
    refine cm_V (As' := [.int (nI t), .int (i)]) (rest := []) hC (c_X8_hasPlace (by omega) hw) mv_X8_hasPlace qM_X8_117 ⟨⟨rfl, rfl⟩, Nat.le_of_ble_eq_true rfl, Nat.le_of_ble_eq_true rfl⟩ hK hH hS hA (hp.recv hK hH (i := 0) (by decide) rfl rfl) hl.1 ⟨Nat.zero_le _, Nat.zero_le _⟩ rfl rfl (Nat.le_of_ble_eq_true rfl) dX8_reasonOfPlace_19 (fun H locs hH hS => ?_)
    refine lv_if_eq (tgt := 29) hx hb dX8_reasonOfPlace_22 (by decide) (fun c_22 => ?_) (fun c_22 => ?_)
    · have c_22 := b2i_f c_22
      refine lv_iconst (v := 4) hx hb dX8_reasonOfPlace_29 (by decide) ?_
      exact cm_ri hC hr hlk (by simp [rsPl, c_7, h1j, c_22] <;> rfl) (rfl) hH hS dX8_reasonOfPlace_30
    · have c_22 := b2i_t c_22
      refine lv_iconst (v := 0) hx hb dX8_reasonOfPlace_25 (by decide) ?_
      refine lv_goto (tgt := 30) hx hb dX8_reasonOfPlace_26 (by decide) ?_
      exact cm_ri hC hr hlk (by simp [rsPl, c_7, h1j, c_22] <;> rfl) (rfl) hH hS dX8_reasonOfPlace_30
  · have c_7 : ¬ (rsRow P j) = 0 := by have h9 := nc_nle (a := (rsRow P j)) (b := 0) (by omega) (by omega) c_7; omega
    refine lv_iload_n hx hb dX8_reasonOfPlace_10 rfl (lv_at hl 0 rfl) ?_
    exact cm_ri hC hr hlk (by simp [rsPl, c_7] <;> rfl) (rfl) hH hS dX8_reasonOfPlace_11
theorem mv_X8_make : mvok RX8 yX8_make cX8_make 4 (some .int) 3 := ⟨qK_X8_make, qI_X8_make, qSel_X8_X8_make, qInit_X8, by decide +kernel⟩
set_option maxHeartbeats 4000000 in
set_option maxRecDepth 100000 in
theorem c_X8_make {l : Launch} {D : va_G} {cy : Nat → ClassId} {ad : Nat → Nat} {P : AS} {wy : Int32} {so : Int32} {w : Int64} {r : UInt64} {ns : Nat → Int32} {nw : Nat → Int64} {nr : Nat → UInt64} {fr : Nat → Int32} {tt : Nat → Int32} {c k n : Int32} (hw : WF P) (hn : P.n < 513) : CX l yX8_make cX8_make 4 (some .int) (rm_ 2 42) D cy 13 ad [.ref (ad 0), .int (c), .int (k), .int (n)] (mct cy ad P wy so w r ns nw nr fr tt) (mpost cy ad (sp_make P c k n)) := by
  refine CX.start (by decide) (Nat.le_of_ble_eq_true rfl) ?_
  intro p_ e_ s m_ below meth cd A ls hC hr hlk hin hK hA hH hl
  obtain ⟨hx, hb, hml, hown, hts⟩ := id hC
  have hS : va_S A s.heap s.heap [] := va_S.rf
  have hl : lv_has ls 4 [(0, .ref (ad 0)), (1, .int (c)), (2, .int (k)), (3, .int (n))] := hl
  refine lv_aload_n hx hb dX8_make_0 rfl (lv_at hl 0 rfl) ?_
  refine lv_iconst (v := 0) hx hb dX8_make_1 (by decide) ?_
  refine g_put (ct' := mct cy ad P 0 so w r ns nw nr fr tt) hC hK inG8 tyX8 tyX8_ok nmX8 hH hS 0 (by decide) rfl rfl 8 (by decide) qF_X8_48 rfl rfl rfl rfl (Nat.le_of_ble_eq_true rfl) rfl mct_0 dX8_make_2 (fun H locs hH hS => ?_)
  refine lv_iload_n hx hb dX8_make_5 rfl (lv_at hl 1 rfl) ?_
  refine cm_S (As := [.int (c)]) (rest := []) hC (c_X8_isColumn) ms_X8_isColumn qM_X8_102 ⟨⟨rfl, rfl⟩, Nat.le_of_ble_eq_true rfl, Nat.le_of_ble_eq_true rfl⟩ hK hH hS hA hl.1 ⟨Nat.zero_le _, Nat.zero_le _⟩ rfl rfl (Nat.le_of_ble_eq_true rfl) dX8_make_6 (fun H locs hH hS => ?_)
  refine lv_if_eq (tgt := 38) hx hb dX8_make_9 (by decide) (fun c_9 => ?_) (fun c_9 => ?_)
  · have c_9 := b2i_f c_9
    refine lv_aload_n hx hb dX8_make_38 rfl (lv_at hl 0 rfl) ?_
    refine lv_iconst (v := 1) hx hb dX8_make_39 (by decide) ?_
    refine cm_V (As' := [.int (1)]) (rest := []) hC (c_X8_refuse) mv_X8_refuse qM_X8_105 ⟨⟨rfl, rfl⟩, Nat.le_of_ble_eq_true rfl, Nat.le_of_ble_eq_true rfl⟩ hK hH hS hA (hp.recv hK hH (i := 0) (by decide) rfl rfl) hl.1 ⟨Nat.zero_le _, Nat.zero_le _⟩ rfl rfl (Nat.le_of_ble_eq_true rfl) dX8_make_40 (fun H locs hH hS => ?_)
    exact cx_ri hC hr hlk (mpost.mk (by simp [sp_make, rf, c_9] <;> rfl)) hH hS dX8_make_43
  · have c_9 := b2i_t c_9
    obtain ⟨j, hj, rfl⟩ := isC_ex c_9
    refine lv_iload_n hx hb dX8_make_12 rfl (lv_at hl 2 rfl) ?_
    refine lv_iconst (v := 0) hx hb dX8_make_13 (by decide) ?_
    refine lv_bipush (v := 14) hx hb dX8_make_14 (by decide) ?_
    refine cm_S (As := [.int (k), .int (0), .int (14)]) (rest := []) hC (c_X8_isIn) ms_X8_isIn qM_X8_52 ⟨⟨rfl, rfl⟩, Nat.le_of_ble_eq_true rfl, Nat.le_of_ble_eq_true rfl⟩ hK hH hS hA hl.1 ⟨Nat.zero_le _, Nat.zero_le _⟩ rfl rfl (Nat.le_of_ble_eq_true rfl) dX8_make_16 (fun H locs hH hS => ?_)
    refine lv_if_eq (tgt := 38) hx hb dX8_make_19 (by decide) (fun c_19 => ?_) (fun c_19 => ?_)
    · have c_19 := b2i_f c_19
      refine lv_aload_n hx hb dX8_make_38 rfl (lv_at hl 0 rfl) ?_
      refine lv_iconst (v := 1) hx hb dX8_make_39 (by decide) ?_
      refine cm_V (As' := [.int (1)]) (rest := []) hC (c_X8_refuse) mv_X8_refuse qM_X8_105 ⟨⟨rfl, rfl⟩, Nat.le_of_ble_eq_true rfl, Nat.le_of_ble_eq_true rfl⟩ hK hH hS hA (hp.recv hK hH (i := 0) (by decide) rfl rfl) hl.1 ⟨Nat.zero_le _, Nat.zero_le _⟩ rfl rfl (Nat.le_of_ble_eq_true rfl) dX8_make_40 (fun H locs hH hS => ?_)
      exact cx_ri hC hr hlk (mpost.mk (by simp [sp_make, rf, c_9, cN_c hj, c_19] <;> rfl)) hH hS dX8_make_43
    · have c_19 := b2i_t c_19
      obtain ⟨q, hq, rfl⟩ := inR_ex (n := 14) (by decide) c_19
      refine lv_iload_n hx hb dX8_make_22 rfl (lv_at hl 2 rfl) ?_
      refine lv_bipush (v := 12) hx hb dX8_make_23 (by decide) ?_
      refine lv_icmp_ge (tgt := 44) hx hb dX8_make_25 (by decide) (fun c_25 => ?_) (fun c_25 => ?_)
      · have c_25 := nc_le (a := 12) (b := q) (by omega) (by omega) c_25
        refine lv_aload_n hx hb dX8_make_44 rfl (lv_at hl 0 rfl) ?_
        refine g_get hC hK inG8 hH 0 (by decide) rfl rfl 1 (by decide) qF_X8_13 (Or.inl rfl) rfl dX8_make_45 ?_
        refine lv_aload_n hx hb dX8_make_48 rfl (lv_at hl 0 rfl) ?_
        refine g_get hC hK inG8 hH 0 (by decide) rfl rfl 6 (by decide) qF_X8_108 (Or.inl rfl) rfl dX8_make_49 ?_
        refine lv_iload_n hx hb dX8_make_52 rfl (lv_at hl 2 rfl) ?_
        refine mr_kds hC hK hH hS (P.n) q (by omega) dX8_make_53 (fun H locs hH hS => ?_)
        refine lv_aload_n hx hb dX8_make_54 rfl (lv_at hl 0 rfl) ?_
        refine g_get hC hK inG8 hH 0 (by decide) rfl rfl 2 (by decide) qF_X8_16 (Or.inl rfl) rfl dX8_make_55 ?_
        refine lv_aload_n hx hb dX8_make_58 rfl (lv_at hl 0 rfl) ?_
        refine g_get hC hK inG8 hH 0 (by decide) rfl rfl 6 (by decide) qF_X8_108 (Or.inl rfl) rfl dX8_make_59 ?_
        refine lv_iload_n hx hb dX8_make_62 rfl (lv_at hl 2 rfl) ?_
        refine lv_bipush (v := 12) hx hb dX8_make_63 (by decide) ?_
        refine lv_icmp_ge (tgt := 72) hx hb dX8_make_65 (by decide) (fun c_65 => ?_) (fun c_65 => absurd (nI_le c_25 (by omega)) c_65)
        refine lv_iconst (v := 0) hx hb dX8_make_72 (by decide) ?_
        refine mr_lns hC hK hH hS ((P.setKd (P.n) q).n) 0 (by omega) dX8_make_73 (fun H locs hH hS => ?_)
        refine lv_aload_n hx hb dX8_make_74 rfl (lv_at hl 0 rfl) ?_
        refine g_get hC hK inG8 hH 0 (by decide) rfl rfl 3 (by decide) qF_X8_19 (Or.inl rfl) rfl dX8_make_75 ?_
        refine lv_aload_n hx hb dX8_make_78 rfl (lv_at hl 0 rfl) ?_
        refine g_get hC hK inG8 hH 0 (by decide) rfl rfl 6 (by decide) qF_X8_108 (Or.inl rfl) rfl dX8_make_79 ?_
        refine lv_iload_n hx hb dX8_make_82 rfl (lv_at hl 3 rfl) ?_
        refine mr_tgs hC hK hH hS (((P.setKd (P.n) q).setLn ((P.setKd (P.n) q).n) 0).n) (n) (by omega) dX8_make_83 (fun H locs hH hS => ?_)
        refine lv_aload_n hx hb dX8_make_84 rfl (lv_at hl 0 rfl) ?_
        refine lv_dup hx hb dX8_make_85 rfl ?_
        refine g_get hC hK inG8 hH 0 (by decide) rfl rfl 6 (by decide) qF_X8_108 (Or.inl rfl) rfl dX8_make_86 ?_
        refine lv_iconst (v := 1) hx hb dX8_make_89 (by decide) ?_
        refine lv_iadd hx hb dX8_make_90 ?_
        refine lv_chg (nI_1 _) ?_
        refine g_put (ct' := mct cy ad ((((P.setKd (P.n) q).setLn ((P.setKd (P.n) q).n) 0).setTg (((P.setKd (P.n) q).setLn ((P.setKd (P.n) q).n) 0).n) (n)).setN ((((P.setKd (P.n) q).setLn ((P.setKd (P.n) q).n) 0).setTg (((P.setKd (P.n) q).setLn ((P.setKd (P.n) q).n) 0).n) (n)).n + 1)) 0 so w r ns nw nr fr tt) hC hK inG8 tyX8 tyX8_ok nmX8 hH hS 0 (by decide) rfl rfl 6 (by decide) qF_X8_108 rfl rfl rfl rfl (Nat.le_of_ble_eq_true rfl) rfl mct_n dX8_make_91 (fun H locs hH hS => ?_)
        refine lv_aload_n hx hb dX8_make_94 rfl (lv_at hl 0 rfl) ?_
        refine g_get hC hK inG8 hH 0 (by decide) rfl rfl 7 (by decide) qF_X8_30 (Or.inl rfl) rfl dX8_make_95 ?_
        refine lv_iload_n hx hb dX8_make_98 rfl (lv_at hl 1 rfl) ?_
        refine lv_aload_n hx hb dX8_make_99 rfl (lv_at hl 0 rfl) ?_
        refine g_get hC hK inG8 hH 0 (by decide) rfl rfl 6 (by decide) qF_X8_108 (Or.inl rfl) rfl dX8_make_100 ?_
        refine mr_cos hC hK hH hS j (((((P.setKd (P.n) q).setLn ((P.setKd (P.n) q).n) 0).setTg (((P.setKd (P.n) q).setLn ((P.setKd (P.n) q).n) 0).n) (n)).setN ((((P.setKd (P.n) q).setLn ((P.setKd (P.n) q).n) 0).setTg (((P.setKd (P.n) q).setLn ((P.setKd (P.n) q).n) 0).n) (n)).n + 1)).n) (by omega) dX8_make_103 (fun H locs hH hS => ?_)
        refine lv_iconst (v := 1) hx hb dX8_make_104 (by decide) ?_
        exact cx_ri hC hr hlk (mpost.mk (by rw [sp_make, if_pos ⟨c_9, c_19, Or.inl (by rw [cN_s hq (by decide)]; omega)⟩, cN_c hj, cN_s hq (by decide), if_neg (by omega)]; rfl)) hH hS dX8_make_105
      · have c_25 := nc_nle (a := 12) (b := q) (by omega) (by omega) c_25
        refine lv_iload_n hx hb dX8_make_28 rfl (lv_at hl 3 rfl) ?_
        refine lv_iconst (v := 0) hx hb dX8_make_29 (by decide) ?_
        refine lv_bipush (v := 24) hx hb dX8_make_30 (by decide) ?_
        refine cm_S (As := [.int (n), .int (0), .int (24)]) (rest := []) hC (c_X8_isIn) ms_X8_isIn qM_X8_52 ⟨⟨rfl, rfl⟩, Nat.le_of_ble_eq_true rfl, Nat.le_of_ble_eq_true rfl⟩ hK hH hS hA hl.1 ⟨Nat.zero_le _, Nat.zero_le _⟩ rfl rfl (Nat.le_of_ble_eq_true rfl) dX8_make_32 (fun H locs hH hS => ?_)
        refine lv_if_ne (tgt := 44) hx hb dX8_make_35 (by decide) (fun c_35 => ?_) (fun c_35 => ?_)
        · have c_35 := b2i_t c_35
          obtain ⟨x, hx9, rfl⟩ := inR_ex (n := 24) (by decide) c_35
          refine lv_aload_n hx hb dX8_make_44 rfl (lv_at hl 0 rfl) ?_
          refine g_get hC hK inG8 hH 0 (by decide) rfl rfl 1 (by decide) qF_X8_13 (Or.inl rfl) rfl dX8_make_45 ?_
          refine lv_aload_n hx hb dX8_make_48 rfl (lv_at hl 0 rfl) ?_
          refine g_get hC hK inG8 hH 0 (by decide) rfl rfl 6 (by decide) qF_X8_108 (Or.inl rfl) rfl dX8_make_49 ?_
          refine lv_iload_n hx hb dX8_make_52 rfl (lv_at hl 2 rfl) ?_
          refine mr_kds hC hK hH hS (P.n) q (by omega) dX8_make_53 (fun H locs hH hS => ?_)
          refine lv_aload_n hx hb dX8_make_54 rfl (lv_at hl 0 rfl) ?_
          refine g_get hC hK inG8 hH 0 (by decide) rfl rfl 2 (by decide) qF_X8_16 (Or.inl rfl) rfl dX8_make_55 ?_
          refine lv_aload_n hx hb dX8_make_58 rfl (lv_at hl 0 rfl) ?_
          refine g_get hC hK inG8 hH 0 (by decide) rfl rfl 6 (by decide) qF_X8_108 (Or.inl rfl) rfl dX8_make_59 ?_
          refine lv_iload_n hx hb dX8_make_62 rfl (lv_at hl 2 rfl) ?_
          refine lv_bipush (v := 12) hx hb dX8_make_63 (by decide) ?_
          refine lv_icmp_ge (tgt := 72) hx hb dX8_make_65 (by decide) (fun c_65 => absurd (nc_le (a := 12) (b := q) (by omega) (by omega) c_65) (by omega)) (fun c_65 => ?_)
          refine lv_iload_n hx hb dX8_make_68 rfl (lv_at hl 3 rfl) ?_
          refine lv_goto (tgt := 73) hx hb dX8_make_69 (by decide) ?_
          refine mr_lns hC hK hH hS ((P.setKd (P.n) q).n) x (by omega) dX8_make_73 (fun H locs hH hS => ?_)
          refine lv_aload_n hx hb dX8_make_74 rfl (lv_at hl 0 rfl) ?_
          refine g_get hC hK inG8 hH 0 (by decide) rfl rfl 3 (by decide) qF_X8_19 (Or.inl rfl) rfl dX8_make_75 ?_
          refine lv_aload_n hx hb dX8_make_78 rfl (lv_at hl 0 rfl) ?_
          refine g_get hC hK inG8 hH 0 (by decide) rfl rfl 6 (by decide) qF_X8_108 (Or.inl rfl) rfl dX8_make_79 ?_
          refine lv_iload_n hx hb dX8_make_82 rfl (lv_at hl 3 rfl) ?_
          refine mr_tgs hC hK hH hS (((P.setKd (P.n) q).setLn ((P.setKd (P.n) q).n) x).n) (nI x) (by omega) dX8_make_83 (fun H locs hH hS => ?_)
          refine lv_aload_n hx hb dX8_make_84 rfl (lv_at hl 0 rfl) ?_
          refine lv_dup hx hb dX8_make_85 rfl ?_
          refine g_get hC hK inG8 hH 0 (by decide) rfl rfl 6 (by decide) qF_X8_108 (Or.inl rfl) rfl dX8_make_86 ?_
          refine lv_iconst (v := 1) hx hb dX8_make_89 (by decide) ?_
          refine lv_iadd hx hb dX8_make_90 ?_
          refine lv_chg (nI_1 _) ?_
          refine g_put (ct' := mct cy ad ((((P.setKd (P.n) q).setLn ((P.setKd (P.n) q).n) x).setTg (((P.setKd (P.n) q).setLn ((P.setKd (P.n) q).n) x).n) (nI x)).setN ((((P.setKd (P.n) q).setLn ((P.setKd (P.n) q).n) x).setTg (((P.setKd (P.n) q).setLn ((P.setKd (P.n) q).n) x).n) (nI x)).n + 1)) 0 so w r ns nw nr fr tt) hC hK inG8 tyX8 tyX8_ok nmX8 hH hS 0 (by decide) rfl rfl 6 (by decide) qF_X8_108 rfl rfl rfl rfl (Nat.le_of_ble_eq_true rfl) rfl mct_n dX8_make_91 (fun H locs hH hS => ?_)
          refine lv_aload_n hx hb dX8_make_94 rfl (lv_at hl 0 rfl) ?_
          refine g_get hC hK inG8 hH 0 (by decide) rfl rfl 7 (by decide) qF_X8_30 (Or.inl rfl) rfl dX8_make_95 ?_
          refine lv_iload_n hx hb dX8_make_98 rfl (lv_at hl 1 rfl) ?_
          refine lv_aload_n hx hb dX8_make_99 rfl (lv_at hl 0 rfl) ?_
          refine g_get hC hK inG8 hH 0 (by decide) rfl rfl 6 (by decide) qF_X8_108 (Or.inl rfl) rfl dX8_make_100 ?_
          refine mr_cos hC hK hH hS j (((((P.setKd (P.n) q).setLn ((P.setKd (P.n) q).n) x).setTg (((P.setKd (P.n) q).setLn ((P.setKd (P.n) q).n) x).n) (nI x)).setN ((((P.setKd (P.n) q).setLn ((P.setKd (P.n) q).n) x).setTg (((P.setKd (P.n) q).setLn ((P.setKd (P.n) q).n) x).n) (nI x)).n + 1)).n) (by omega) dX8_make_103 (fun H locs hH hS => ?_)
          refine lv_iconst (v := 1) hx hb dX8_make_104 (by decide) ?_
          exact cx_ri hC hr hlk (mpost.mk (by rw [sp_make, if_pos ⟨c_9, c_19, Or.inr c_35⟩, cN_c hj, cN_s hq (by decide), cN_s hx9 (by decide), if_pos (by omega)]; rfl)) hH hS dX8_make_105
        · have c_35 := b2i_f c_35
          refine lv_aload_n hx hb dX8_make_38 rfl (lv_at hl 0 rfl) ?_
          refine lv_iconst (v := 1) hx hb dX8_make_39 (by decide) ?_
          refine cm_V (As' := [.int (1)]) (rest := []) hC (c_X8_refuse) mv_X8_refuse qM_X8_105 ⟨⟨rfl, rfl⟩, Nat.le_of_ble_eq_true rfl, Nat.le_of_ble_eq_true rfl⟩ hK hH hS hA (hp.recv hK hH (i := 0) (by decide) rfl rfl) hl.1 ⟨Nat.zero_le _, Nat.zero_le _⟩ rfl rfl (Nat.le_of_ble_eq_true rfl) dX8_make_40 (fun H locs hH hS => ?_)
          exact cx_ri hC hr hlk (mpost.mk (by simp [sp_make, rf, c_9, cN_c hj, c_19, cN_s hq (by decide), c_25, c_35, show ¬ 12 ≤ q by omega] <;> rfl)) hH hS dX8_make_43
theorem mv_X8_lay : mvok RX8 yX8_lay cX8_lay 3 (some .int) 2 := ⟨qK_X8_lay, qI_X8_lay, qSel_X8_X8_lay, qInit_X8, by decide +kernel⟩
set_option maxHeartbeats 4000000 in
set_option maxRecDepth 100000 in
theorem c_X8_lay {l : Launch} {D : va_G} {cy : Nat → ClassId} {ad : Nat → Nat} {P : AS} {wy : Int32} {so : Int32} {w : Int64} {r : UInt64} {ns : Nat → Int32} {nw : Nat → Int64} {nr : Nat → UInt64} {fr : Nat → Int32} {tt : Nat → Int32} {c d : Int32} (hw : WF P)  : CX l yX8_lay cX8_lay 3 (some .int) (rm_ 2 42) D cy 13 ad [.ref (ad 0), .int (c), .int (d)] (mct cy ad P wy so w r ns nw nr fr tt) (mpost cy ad (sp_lay P c d)) := by
  refine CX.start (by decide) (Nat.le_of_ble_eq_true rfl) ?_
  intro p_ e_ s m_ below meth cd A ls hC hr hlk hin hK hA hH hl
  obtain ⟨hx, hb, hml, hown, hts⟩ := id hC
  have hS : va_S A s.heap s.heap [] := va_S.rf
  have hl : lv_has ls 3 [(0, .ref (ad 0)), (1, .int (c)), (2, .int (d))] := hl
  refine lv_aload_n hx hb dX8_lay_0 rfl (lv_at hl 0 rfl) ?_
  refine lv_iconst (v := 0) hx hb dX8_lay_1 (by decide) ?_
  refine g_put (ct' := mct cy ad P 0 so w r ns nw nr fr tt) hC hK inG8 tyX8 tyX8_ok nmX8 hH hS 0 (by decide) rfl rfl 8 (by decide) qF_X8_48 rfl rfl rfl rfl (Nat.le_of_ble_eq_true rfl) rfl mct_0 dX8_lay_2 (fun H locs hH hS => ?_)
  refine lv_iload_n hx hb dX8_lay_5 rfl (lv_at hl 1 rfl) ?_
  refine cm_S (As := [.int (c)]) (rest := []) hC (c_X8_isColumn) ms_X8_isColumn qM_X8_102 ⟨⟨rfl, rfl⟩, Nat.le_of_ble_eq_true rfl, Nat.le_of_ble_eq_true rfl⟩ hK hH hS hA hl.1 ⟨Nat.zero_le _, Nat.zero_le _⟩ rfl rfl (Nat.le_of_ble_eq_true rfl) dX8_lay_6 (fun H locs hH hS => ?_)
  refine lv_if_eq (tgt := 19) hx hb dX8_lay_9 (by decide) (fun c_9 => ?_) (fun c_9 => ?_)
  · have c_9 := b2i_f c_9
    refine lv_aload_n hx hb dX8_lay_19 rfl (lv_at hl 0 rfl) ?_
    refine lv_iconst (v := 1) hx hb dX8_lay_20 (by decide) ?_
    refine cm_V (As' := [.int (1)]) (rest := []) hC (c_X8_refuse) mv_X8_refuse qM_X8_105 ⟨⟨rfl, rfl⟩, Nat.le_of_ble_eq_true rfl, Nat.le_of_ble_eq_true rfl⟩ hK hH hS hA (hp.recv hK hH (i := 0) (by decide) rfl rfl) hl.1 ⟨Nat.zero_le _, Nat.zero_le _⟩ rfl rfl (Nat.le_of_ble_eq_true rfl) dX8_lay_21 (fun H locs hH hS => ?_)
    exact cx_ri hC hr hlk (mpost.mk (by simp [sp_lay, rf, c_9] <;> rfl)) hH hS dX8_lay_24
  · have c_9 := b2i_t c_9
    obtain ⟨j, hj, rfl⟩ := isC_ex c_9
    refine lv_iload_n hx hb dX8_lay_12 rfl (lv_at hl 2 rfl) ?_
    refine cm_S (As := [.int (d)]) (rest := []) hC (c_X8_isColumn) ms_X8_isColumn qM_X8_102 ⟨⟨rfl, rfl⟩, Nat.le_of_ble_eq_true rfl, Nat.le_of_ble_eq_true rfl⟩ hK hH hS hA hl.1 ⟨Nat.zero_le _, Nat.zero_le _⟩ rfl rfl (Nat.le_of_ble_eq_true rfl) dX8_lay_13 (fun H locs hH hS => ?_)
    refine lv_if_ne (tgt := 25) hx hb dX8_lay_16 (by decide) (fun c_16 => ?_) (fun c_16 => ?_)
    · have c_16 := b2i_t c_16
      obtain ⟨k, hk, rfl⟩ := isC_ex c_16
      have hbj := hw.2.2.2.1 j
      have hn513 := hw.2.2.1
      refine lv_aload_n hx hb dX8_lay_25 rfl (lv_at hl 0 rfl) ?_
      refine g_get hC hK inG8 hH 0 (by decide) rfl rfl 7 (by decide) qF_X8_30 (Or.inl rfl) rfl dX8_lay_26 ?_
      refine lv_iload_n hx hb dX8_lay_29 rfl (lv_at hl 2 rfl) ?_
      refine lv_aload_n hx hb dX8_lay_30 rfl (lv_at hl 0 rfl) ?_
      refine g_get hC hK inG8 hH 0 (by decide) rfl rfl 7 (by decide) qF_X8_30 (Or.inl rfl) rfl dX8_lay_31 ?_
      refine lv_iload_n hx hb dX8_lay_34 rfl (lv_at hl 1 rfl) ?_
      refine gN_iald hC hK hH 7 (by decide) rfl j (by omega) dX8_lay_35 ?_
      refine mr_cos hC hK hH hS k (P.co j) (by omega) dX8_lay_36 (fun H locs hH hS => ?_)
      refine lv_aload_n hx hb dX8_lay_37 rfl (lv_at hl 0 rfl) ?_
      refine g_get hC hK inG8 hH 0 (by decide) rfl rfl 7 (by decide) qF_X8_30 (Or.inl rfl) rfl dX8_lay_38 ?_
      refine lv_iload_n hx hb dX8_lay_41 rfl (lv_at hl 2 rfl) ?_
      refine gN_iald hC hK hH 7 (by decide) rfl k (by omega) dX8_lay_42 ?_
      refine lv_chg (y := nI (P.co j)) (by show nI (va_up _ _ _ _) = _; rw [va_up_self]) ?_
      refine lv_if_le (tgt := 50) hx hb dX8_lay_43 (by decide) (fun c_43 => ?_) (fun c_43 => ?_)
      · have c_43 : (P.co j) = 0 := by have h9 := nc_le (a := (P.co j)) (b := 0) (by omega) (by omega) c_43; omega
        refine lv_iconst (v := 0) hx hb dX8_lay_50 (by decide) ?_
        exact cx_ri hC hr hlk (mpost.mk (by simp [sp_lay, rf, c_9, cN_c hj, c_16, cN_c hk, c_43] <;> rfl)) hH hS dX8_lay_51
      · have c_43 : ¬ (P.co j) = 0 := by have h9 := nc_nle (a := (P.co j)) (b := 0) (by omega) (by omega) c_43; omega
        refine lv_iconst (v := 1) hx hb dX8_lay_46 (by decide) ?_
        refine lv_goto (tgt := 51) hx hb dX8_lay_47 (by decide) ?_
        exact cx_ri hC hr hlk (mpost.mk (by simp [sp_lay, rf, c_9, cN_c hj, c_16, cN_c hk, c_43] <;> rfl)) hH hS dX8_lay_51
    · have c_16 := b2i_f c_16
      refine lv_aload_n hx hb dX8_lay_19 rfl (lv_at hl 0 rfl) ?_
      refine lv_iconst (v := 1) hx hb dX8_lay_20 (by decide) ?_
      refine cm_V (As' := [.int (1)]) (rest := []) hC (c_X8_refuse) mv_X8_refuse qM_X8_105 ⟨⟨rfl, rfl⟩, Nat.le_of_ble_eq_true rfl, Nat.le_of_ble_eq_true rfl⟩ hK hH hS hA (hp.recv hK hH (i := 0) (by decide) rfl rfl) hl.1 ⟨Nat.zero_le _, Nat.zero_le _⟩ rfl rfl (Nat.le_of_ble_eq_true rfl) dX8_lay_21 (fun H locs hH hS => ?_)
      exact cx_ri hC hr hlk (mpost.mk (by simp [sp_lay, rf, c_9, cN_c hj, c_16] <;> rfl)) hH hS dX8_lay_24
theorem mv_X8_places : mvok RX8 yX8_places cX8_places 3 (some .int) 1 := ⟨qK_X8_places, qI_X8_places, qSel_X8_X8_places, qInit_X8, by decide +kernel⟩
set_option maxHeartbeats 4000000 in
set_option maxRecDepth 100000 in
theorem c_X8_places {l : Launch} {D : va_G} {cy : Nat → ClassId} {ad : Nat → Nat} {P : AS} {wy : Int32} {so : Int32} {w : Int64} {r : UInt64} {ns : Nat → Int32} {nw : Nat → Int64} {nr : Nat → UInt64} {fr : Nat → Int32} {tt : Nat → Int32} {c : Int32} (hw : WF P)  : CX l yX8_places cX8_places 3 (some .int) (rm_ 2 42) D cy 13 ad [.ref (ad 0), .int (c)] (mct cy ad P wy so w r ns nw nr fr tt) (mpost cy ad (sp_places P c)) := by
  refine CX.start (by decide) (Nat.le_of_ble_eq_true rfl) ?_
  intro p_ e_ s m_ below meth cd A ls hC hr hlk hin hK hA hH hl
  obtain ⟨hx, hb, hml, hown, hts⟩ := id hC
  have hS : va_S A s.heap s.heap [] := va_S.rf
  have hl : lv_has ls 3 [(0, .ref (ad 0)), (1, .int (c))] := hl
  refine lv_aload_n hx hb dX8_places_0 rfl (lv_at hl 0 rfl) ?_
  refine lv_iconst (v := 0) hx hb dX8_places_1 (by decide) ?_
  refine g_put (ct' := mct cy ad P 0 so w r ns nw nr fr tt) hC hK inG8 tyX8 tyX8_ok nmX8 hH hS 0 (by decide) rfl rfl 8 (by decide) qF_X8_48 rfl rfl rfl rfl (Nat.le_of_ble_eq_true rfl) rfl mct_0 dX8_places_2 (fun H locs hH hS => ?_)
  refine lv_iload_n hx hb dX8_places_5 rfl (lv_at hl 1 rfl) ?_
  refine cm_S (As := [.int (c)]) (rest := []) hC (c_X8_isColumn) ms_X8_isColumn qM_X8_102 ⟨⟨rfl, rfl⟩, Nat.le_of_ble_eq_true rfl, Nat.le_of_ble_eq_true rfl⟩ hK hH hS hA hl.1 ⟨Nat.zero_le _, Nat.zero_le _⟩ rfl rfl (Nat.le_of_ble_eq_true rfl) dX8_places_6 (fun H locs hH hS => ?_)
  refine lv_if_ne (tgt := 18) hx hb dX8_places_9 (by decide) (fun c_9 => ?_) (fun c_9 => ?_)
  · have c_9 := b2i_t c_9
    obtain ⟨j, hj, rfl⟩ := isC_ex c_9
    refine lv_aload_n hx hb dX8_places_18 rfl (lv_at hl 0 rfl) ?_
    refine lv_iload_n hx hb dX8_places_19 rfl (lv_at hl 1 rfl) ?_
    refine cm_V (As' := [.int (nI j)]) (rest := []) hC (c_X8_reasonOfRow hj hw) mv_X8_reasonOfRow qM_X8_111 ⟨⟨rfl, rfl⟩, Nat.le_of_ble_eq_true rfl, Nat.le_of_ble_eq_true rfl⟩ hK hH hS hA (hp.recv hK hH (i := 0) (by decide) rfl rfl) hl.1 ⟨Nat.zero_le _, Nat.zero_le _⟩ rfl rfl (Nat.le_of_ble_eq_true rfl) dX8_places_20 (fun H locs hH hS => ?_)
    refine lv_istore_n (lv' := [(2, .int (nI (rsRow P j))), (0, .ref (ad 0)), (1, .int (nI j))]) hx hb dX8_places_23 rfl hl (by decide) rfl (fun ls hl => ?_)
    have hb1 := rsRow_le P j
    refine lv_iload_n hx hb dX8_places_24 rfl (lv_at hl 0 rfl) ?_
    refine lv_if_le (tgt := 36) hx hb dX8_places_25 (by decide) (fun c_25 => ?_) (fun c_25 => ?_)
    · have c_25 : (rsRow P j) = 0 := by have h9 := nc_le (a := (rsRow P j)) (b := 0) (by omega) (by omega) c_25; omega
      obtain ⟨t, h1j, hkt⟩ := rsRow_0 c_25
      have htt : t < 513 := by have := hw.2.2.2.1 j; have := hw.2.2.1; omega
      refine lv_aload_n hx hb dX8_places_36 rfl (lv_at hl 1 rfl) ?_
      refine g_get hC hK inG8 hH 0 (by decide) rfl rfl 2 (by decide) qF_X8_16 (Or.inl rfl) rfl dX8_places_37 ?_
      refine lv_aload_n hx hb dX8_places_40 rfl (lv_at hl 1 rfl) ?_
      refine lv_iload_n hx hb dX8_places_41 rfl (lv_at hl 2 rfl) ?_
      refine cm_V (As' := [.int (nI j)]) (rest := [.ref (ad 3)]) hC (c_X8_in1 hj h1j) mv_X8_in qM_X8_56 ⟨⟨rfl, rfl⟩, Nat.le_of_ble_eq_true rfl, Nat.le_of_ble_eq_true rfl⟩ hK hH hS hA (hp.recv hK hH (i := 0) (by decide) rfl rfl) hl.1 ⟨Nat.zero_le _, Nat.zero_le _⟩ rfl rfl (Nat.le_of_ble_eq_true rfl) dX8_places_42 (fun H locs hH hS => ?_)
      refine gN_iald hC hK hH 3 (by decide) rfl t (by omega) dX8_places_45 ?_
      exact cx_ri hC hr hlk (mpost.mk (by simp [sp_places, rf, c_9, cN_c hj, c_25, h1j] <;> rfl)) hH hS dX8_places_46
    · have c_25 : ¬ (rsRow P j) = 0 := by have h9 := nc_nle (a := (rsRow P j)) (b := 0) (by omega) (by omega) c_25; omega
      refine lv_aload_n hx hb dX8_places_28 rfl (lv_at hl 1 rfl) ?_
      refine lv_iload_n hx hb dX8_places_29 rfl (lv_at hl 0 rfl) ?_
      refine cm_V (As' := [.int (nI (rsRow P j))]) (rest := []) hC (c_X8_refuse) mv_X8_refuse qM_X8_105 ⟨⟨rfl, rfl⟩, Nat.le_of_ble_eq_true rfl, Nat.le_of_ble_eq_true rfl⟩ hK hH hS hA (hp.recv hK hH (i := 0) (by decide) rfl rfl) hl.1 ⟨Nat.zero_le _, Nat.zero_le _⟩ rfl rfl (Nat.le_of_ble_eq_true rfl) dX8_places_30 (fun H locs hH hS => ?_)
      refine lv_goto (tgt := 46) hx hb dX8_places_33 (by decide) ?_
      exact cx_ri hC hr hlk (mpost.mk (by simp [sp_places, rf, c_9, cN_c hj, c_25] <;> rfl)) hH hS dX8_places_46
  · have c_9 := b2i_f c_9
    refine lv_aload_n hx hb dX8_places_12 rfl (lv_at hl 0 rfl) ?_
    refine lv_iconst (v := 1) hx hb dX8_places_13 (by decide) ?_
    refine cm_V (As' := [.int (1)]) (rest := []) hC (c_X8_refuse) mv_X8_refuse qM_X8_105 ⟨⟨rfl, rfl⟩, Nat.le_of_ble_eq_true rfl, Nat.le_of_ble_eq_true rfl⟩ hK hH hS hA (hp.recv hK hH (i := 0) (by decide) rfl rfl) hl.1 ⟨Nat.zero_le _, Nat.zero_le _⟩ rfl rfl (Nat.le_of_ble_eq_true rfl) dX8_places_14 (fun H locs hH hS => ?_)
    exact cx_ri hC hr hlk (mpost.mk (by simp [sp_places, rf, c_9] <;> rfl)) hH hS dX8_places_17
theorem mv_X8_kind : mvok RX8 yX8_kind cX8_kind 2 (some .int) 1 := ⟨qK_X8_kind, qI_X8_kind, qSel_X8_X8_kind, qInit_X8, by decide +kernel⟩
set_option maxHeartbeats 4000000 in
set_option maxRecDepth 100000 in
theorem c_X8_kind {l : Launch} {D : va_G} {cy : Nat → ClassId} {ad : Nat → Nat} {P : AS} {wy : Int32} {so : Int32} {w : Int64} {r : UInt64} {ns : Nat → Int32} {nw : Nat → Int64} {nr : Nat → UInt64} {fr : Nat → Int32} {tt : Nat → Int32} {c : Int32} (hw : WF P)  : CX l yX8_kind cX8_kind 2 (some .int) (rm_ 2 42) D cy 13 ad [.ref (ad 0), .int (c)] (mct cy ad P wy so w r ns nw nr fr tt) (mpost cy ad (sp_kind P c)) := by
  refine CX.start (by decide) (Nat.le_of_ble_eq_true rfl) ?_
  intro p_ e_ s m_ below meth cd A ls hC hr hlk hin hK hA hH hl
  obtain ⟨hx, hb, hml, hown, hts⟩ := id hC
  have hS : va_S A s.heap s.heap [] := va_S.rf
  have hl : lv_has ls 2 [(0, .ref (ad 0)), (1, .int (c))] := hl
  refine lv_aload_n hx hb dX8_kind_0 rfl (lv_at hl 0 rfl) ?_
  refine lv_iconst (v := 0) hx hb dX8_kind_1 (by decide) ?_
  refine g_put (ct' := mct cy ad P 0 so w r ns nw nr fr tt) hC hK inG8 tyX8 tyX8_ok nmX8 hH hS 0 (by decide) rfl rfl 8 (by decide) qF_X8_48 rfl rfl rfl rfl (Nat.le_of_ble_eq_true rfl) rfl mct_0 dX8_kind_2 (fun H locs hH hS => ?_)
  refine lv_iload_n hx hb dX8_kind_5 rfl (lv_at hl 1 rfl) ?_
  refine cm_S (As := [.int (c)]) (rest := []) hC (c_X8_isColumn) ms_X8_isColumn qM_X8_102 ⟨⟨rfl, rfl⟩, Nat.le_of_ble_eq_true rfl, Nat.le_of_ble_eq_true rfl⟩ hK hH hS hA hl.1 ⟨Nat.zero_le _, Nat.zero_le _⟩ rfl rfl (Nat.le_of_ble_eq_true rfl) dX8_kind_6 (fun H locs hH hS => ?_)
  refine lv_if_ne (tgt := 18) hx hb dX8_kind_9 (by decide) (fun c_9 => ?_) (fun c_9 => ?_)
  · have c_9 := b2i_t c_9
    obtain ⟨j, hj, rfl⟩ := isC_ex c_9
    rcases co_cases (P.co j) with h0j | ⟨t, h1j⟩
    · refine lv_aload_n hx hb dX8_kind_18 rfl (lv_at hl 0 rfl) ?_
      refine lv_iload_n hx hb dX8_kind_19 rfl (lv_at hl 1 rfl) ?_
      refine cm_V (As' := [.int (nI j)]) (rest := []) hC (c_X8_in0 hj h0j) mv_X8_in qM_X8_56 ⟨⟨rfl, rfl⟩, Nat.le_of_ble_eq_true rfl, Nat.le_of_ble_eq_true rfl⟩ hK hH hS hA (hp.recv hK hH (i := 0) (by decide) rfl rfl) hl.1 ⟨Nat.zero_le _, Nat.zero_le _⟩ rfl rfl (Nat.le_of_ble_eq_true rfl) dX8_kind_20 (fun H locs hH hS => ?_)
      refine lv_if_ge (tgt := 30) hx hb dX8_kind_23 (by decide) (fun c_23 => absurd c_23 (by decide)) (fun c_23 => ?_)
      refine lv_iconst (v := (-1)) hx hb dX8_kind_26 (by decide) ?_
      refine lv_goto (tgt := 40) hx hb dX8_kind_27 (by decide) ?_
      exact cx_ri hC hr hlk (mpost.mk (by simp [sp_kind, rf, c_9, cN_c hj, h0j] <;> rfl)) hH hS dX8_kind_40
    · refine lv_aload_n hx hb dX8_kind_18 rfl (lv_at hl 0 rfl) ?_
      refine lv_iload_n hx hb dX8_kind_19 rfl (lv_at hl 1 rfl) ?_
      have htt : t < 513 := by have := hw.2.2.2.1 j; have := hw.2.2.1; omega
      refine cm_V (As' := [.int (nI j)]) (rest := []) hC (c_X8_in1 hj h1j) mv_X8_in qM_X8_56 ⟨⟨rfl, rfl⟩, Nat.le_of_ble_eq_true rfl, Nat.le_of_ble_eq_true rfl⟩ hK hH hS hA (hp.recv hK hH (i := 0) (by decide) rfl rfl) hl.1 ⟨Nat.zero_le _, Nat.zero_le _⟩ rfl rfl (Nat.le_of_ble_eq_true rfl) dX8_kind_20 (fun H locs hH hS => ?_)
      refine lv_if_ge (tgt := 30) hx hb dX8_kind_23 (by decide) (fun c_23 => ?_) (fun c_23 => absurd (nI_pos' (by omega)) c_23)
      refine lv_aload_n hx hb dX8_kind_30 rfl (lv_at hl 0 rfl) ?_
      refine g_get hC hK inG8 hH 0 (by decide) rfl rfl 1 (by decide) qF_X8_13 (Or.inl rfl) rfl dX8_kind_31 ?_
      refine lv_aload_n hx hb dX8_kind_34 rfl (lv_at hl 0 rfl) ?_
      refine lv_iload_n hx hb dX8_kind_35 rfl (lv_at hl 1 rfl) ?_
      refine cm_V (As' := [.int (nI j)]) (rest := [.ref (ad 2)]) hC (c_X8_in1 hj h1j) mv_X8_in qM_X8_56 ⟨⟨rfl, rfl⟩, Nat.le_of_ble_eq_true rfl, Nat.le_of_ble_eq_true rfl⟩ hK hH hS hA (hp.recv hK hH (i := 0) (by decide) rfl rfl) hl.1 ⟨Nat.zero_le _, Nat.zero_le _⟩ rfl rfl (Nat.le_of_ble_eq_true rfl) dX8_kind_36 (fun H locs hH hS => ?_)
      refine gN_iald hC hK hH 2 (by decide) rfl t (by omega) dX8_kind_39 ?_
      exact cx_ri hC hr hlk (mpost.mk (by simp [sp_kind, rf, c_9, cN_c hj, h1j] <;> rfl)) hH hS dX8_kind_40
  · have c_9 := b2i_f c_9
    refine lv_aload_n hx hb dX8_kind_12 rfl (lv_at hl 0 rfl) ?_
    refine lv_iconst (v := 1) hx hb dX8_kind_13 (by decide) ?_
    refine cm_V (As' := [.int (1)]) (rest := []) hC (c_X8_refuse) mv_X8_refuse qM_X8_105 ⟨⟨rfl, rfl⟩, Nat.le_of_ble_eq_true rfl, Nat.le_of_ble_eq_true rfl⟩ hK hH hS hA (hp.recv hK hH (i := 0) (by decide) rfl rfl) hl.1 ⟨Nat.zero_le _, Nat.zero_le _⟩ rfl rfl (Nat.le_of_ble_eq_true rfl) dX8_kind_14 (fun H locs hH hS => ?_)
    exact cx_ri hC hr hlk (mpost.mk (by simp [sp_kind, rf, c_9] <;> rfl)) hH hS dX8_kind_17
theorem mv_X8_tag : mvok RX8 yX8_tag cX8_tag 2 (some .int) 1 := ⟨qK_X8_tag, qI_X8_tag, qSel_X8_X8_tag, qInit_X8, by decide +kernel⟩
set_option maxHeartbeats 4000000 in
set_option maxRecDepth 100000 in
theorem c_X8_tag {l : Launch} {D : va_G} {cy : Nat → ClassId} {ad : Nat → Nat} {P : AS} {wy : Int32} {so : Int32} {w : Int64} {r : UInt64} {ns : Nat → Int32} {nw : Nat → Int64} {nr : Nat → UInt64} {fr : Nat → Int32} {tt : Nat → Int32} {c : Int32} (hw : WF P)  : CX l yX8_tag cX8_tag 2 (some .int) (rm_ 2 42) D cy 13 ad [.ref (ad 0), .int (c)] (mct cy ad P wy so w r ns nw nr fr tt) (mpost cy ad (sp_tag P c)) := by
  refine CX.start (by decide) (Nat.le_of_ble_eq_true rfl) ?_
  intro p_ e_ s m_ below meth cd A ls hC hr hlk hin hK hA hH hl
  obtain ⟨hx, hb, hml, hown, hts⟩ := id hC
  have hS : va_S A s.heap s.heap [] := va_S.rf
  have hl : lv_has ls 2 [(0, .ref (ad 0)), (1, .int (c))] := hl
  refine lv_aload_n hx hb dX8_tag_0 rfl (lv_at hl 0 rfl) ?_
  refine lv_iconst (v := 0) hx hb dX8_tag_1 (by decide) ?_
  refine g_put (ct' := mct cy ad P 0 so w r ns nw nr fr tt) hC hK inG8 tyX8 tyX8_ok nmX8 hH hS 0 (by decide) rfl rfl 8 (by decide) qF_X8_48 rfl rfl rfl rfl (Nat.le_of_ble_eq_true rfl) rfl mct_0 dX8_tag_2 (fun H locs hH hS => ?_)
  refine lv_iload_n hx hb dX8_tag_5 rfl (lv_at hl 1 rfl) ?_
  refine cm_S (As := [.int (c)]) (rest := []) hC (c_X8_isColumn) ms_X8_isColumn qM_X8_102 ⟨⟨rfl, rfl⟩, Nat.le_of_ble_eq_true rfl, Nat.le_of_ble_eq_true rfl⟩ hK hH hS hA hl.1 ⟨Nat.zero_le _, Nat.zero_le _⟩ rfl rfl (Nat.le_of_ble_eq_true rfl) dX8_tag_6 (fun H locs hH hS => ?_)
  refine lv_if_ne (tgt := 18) hx hb dX8_tag_9 (by decide) (fun c_9 => ?_) (fun c_9 => ?_)
  · have c_9 := b2i_t c_9
    obtain ⟨j, hj, rfl⟩ := isC_ex c_9
    refine lv_aload_n hx hb dX8_tag_18 rfl (lv_at hl 0 rfl) ?_
    refine lv_iload_n hx hb dX8_tag_19 rfl (lv_at hl 1 rfl) ?_
    refine cm_V (As' := [.int (nI j)]) (rest := []) hC (c_X8_isCard hj hw) mv_X8_isCard qM_X8_114 ⟨⟨rfl, rfl⟩, Nat.le_of_ble_eq_true rfl, Nat.le_of_ble_eq_true rfl⟩ hK hH hS hA (hp.recv hK hH (i := 0) (by decide) rfl rfl) hl.1 ⟨Nat.zero_le _, Nat.zero_le _⟩ rfl rfl (Nat.le_of_ble_eq_true rfl) dX8_tag_20 (fun H locs hH hS => ?_)
    refine lv_if_eq (tgt := 39) hx hb dX8_tag_23 (by decide) (fun c_23 => ?_) (fun c_23 => ?_)
    · have c_23 := b2i_f c_23
      refine lv_aload_n hx hb dX8_tag_39 rfl (lv_at hl 0 rfl) ?_
      refine lv_iconst (v := 5) hx hb dX8_tag_40 (by decide) ?_
      refine cm_V (As' := [.int (5)]) (rest := []) hC (c_X8_refuse) mv_X8_refuse qM_X8_105 ⟨⟨rfl, rfl⟩, Nat.le_of_ble_eq_true rfl, Nat.le_of_ble_eq_true rfl⟩ hK hH hS hA (hp.recv hK hH (i := 0) (by decide) rfl rfl) hl.1 ⟨Nat.zero_le _, Nat.zero_le _⟩ rfl rfl (Nat.le_of_ble_eq_true rfl) dX8_tag_41 (fun H locs hH hS => ?_)
      exact cx_ri hC hr hlk (mpost.mk (by simp [sp_tag, rf, c_9, cN_c hj, c_23] <;> rfl)) hH hS dX8_tag_44
    · have c_23 := b2i_t c_23
      obtain ⟨t, h1j, hkt⟩ := isCd_ex c_23
      have htt : t < 513 := by have := hw.2.2.2.1 j; have := hw.2.2.1; omega
      refine lv_aload_n hx hb dX8_tag_26 rfl (lv_at hl 0 rfl) ?_
      refine g_get hC hK inG8 hH 0 (by decide) rfl rfl 3 (by decide) qF_X8_19 (Or.inl rfl) rfl dX8_tag_27 ?_
      refine lv_aload_n hx hb dX8_tag_30 rfl (lv_at hl 0 rfl) ?_
      refine lv_iload_n hx hb dX8_tag_31 rfl (lv_at hl 1 rfl) ?_
      refine cm_V (As' := [.int (nI j)]) (rest := [.ref (ad 4)]) hC (c_X8_in1 hj h1j) mv_X8_in qM_X8_56 ⟨⟨rfl, rfl⟩, Nat.le_of_ble_eq_true rfl, Nat.le_of_ble_eq_true rfl⟩ hK hH hS hA (hp.recv hK hH (i := 0) (by decide) rfl rfl) hl.1 ⟨Nat.zero_le _, Nat.zero_le _⟩ rfl rfl (Nat.le_of_ble_eq_true rfl) dX8_tag_32 (fun H locs hH hS => ?_)
      refine gN_iald hC hK hH 4 (by decide) rfl t (by omega) dX8_tag_35 ?_
      refine lv_goto (tgt := 44) hx hb dX8_tag_36 (by decide) ?_
      exact cx_ri hC hr hlk (mpost.mk (by simp [sp_tag, rf, c_9, cN_c hj, c_23, h1j] <;> rfl)) hH hS dX8_tag_44
  · have c_9 := b2i_f c_9
    refine lv_aload_n hx hb dX8_tag_12 rfl (lv_at hl 0 rfl) ?_
    refine lv_iconst (v := 1) hx hb dX8_tag_13 (by decide) ?_
    refine cm_V (As' := [.int (1)]) (rest := []) hC (c_X8_refuse) mv_X8_refuse qM_X8_105 ⟨⟨rfl, rfl⟩, Nat.le_of_ble_eq_true rfl, Nat.le_of_ble_eq_true rfl⟩ hK hH hS hA (hp.recv hK hH (i := 0) (by decide) rfl rfl) hl.1 ⟨Nat.zero_le _, Nat.zero_le _⟩ rfl rfl (Nat.le_of_ble_eq_true rfl) dX8_tag_14 (fun H locs hH hS => ?_)
    exact cx_ri hC hr hlk (mpost.mk (by simp [sp_tag, rf, c_9] <;> rfl)) hH hS dX8_tag_17
theorem mv_X8_load : mvok RX8 yX8_load cX8_load 2 (some .int) 1 := ⟨qK_X8_load, qI_X8_load, qSel_X8_X8_load, qInit_X8, by decide +kernel⟩
set_option maxHeartbeats 4000000 in
set_option maxRecDepth 100000 in
theorem c_X8_load {l : Launch} {D : va_G} {cy : Nat → ClassId} {ad : Nat → Nat} {P : AS} {wy : Int32} {so : Int32} {w : Int64} {r : UInt64} {ns : Nat → Int32} {nw : Nat → Int64} {nr : Nat → UInt64} {fr : Nat → Int32} {tt : Nat → Int32} {c : Int32} (hw : WF P)  : CX l yX8_load cX8_load 2 (some .int) (rm_ 2 42) D cy 13 ad [.ref (ad 0), .int (c)] (mct cy ad P wy so w r ns nw nr fr tt) (mpost cy ad (sp_load P c)) := by
  refine CX.start (by decide) (Nat.le_of_ble_eq_true rfl) ?_
  intro p_ e_ s m_ below meth cd A ls hC hr hlk hin hK hA hH hl
  obtain ⟨hx, hb, hml, hown, hts⟩ := id hC
  have hS : va_S A s.heap s.heap [] := va_S.rf
  have hl : lv_has ls 2 [(0, .ref (ad 0)), (1, .int (c))] := hl
  refine lv_aload_n hx hb dX8_load_0 rfl (lv_at hl 0 rfl) ?_
  refine lv_iconst (v := 0) hx hb dX8_load_1 (by decide) ?_
  refine g_put (ct' := mct cy ad P 0 so w r ns nw nr fr tt) hC hK inG8 tyX8 tyX8_ok nmX8 hH hS 0 (by decide) rfl rfl 8 (by decide) qF_X8_48 rfl rfl rfl rfl (Nat.le_of_ble_eq_true rfl) rfl mct_0 dX8_load_2 (fun H locs hH hS => ?_)
  refine lv_iload_n hx hb dX8_load_5 rfl (lv_at hl 1 rfl) ?_
  refine cm_S (As := [.int (c)]) (rest := []) hC (c_X8_isColumn) ms_X8_isColumn qM_X8_102 ⟨⟨rfl, rfl⟩, Nat.le_of_ble_eq_true rfl, Nat.le_of_ble_eq_true rfl⟩ hK hH hS hA hl.1 ⟨Nat.zero_le _, Nat.zero_le _⟩ rfl rfl (Nat.le_of_ble_eq_true rfl) dX8_load_6 (fun H locs hH hS => ?_)
  refine lv_if_ne (tgt := 18) hx hb dX8_load_9 (by decide) (fun c_9 => ?_) (fun c_9 => ?_)
  · have c_9 := b2i_t c_9
    obtain ⟨j, hj, rfl⟩ := isC_ex c_9
    refine lv_aload_n hx hb dX8_load_18 rfl (lv_at hl 0 rfl) ?_
    refine lv_iload_n hx hb dX8_load_19 rfl (lv_at hl 1 rfl) ?_
    refine cm_V (As' := [.int (nI j)]) (rest := []) hC (c_X8_isCard hj hw) mv_X8_isCard qM_X8_114 ⟨⟨rfl, rfl⟩, Nat.le_of_ble_eq_true rfl, Nat.le_of_ble_eq_true rfl⟩ hK hH hS hA (hp.recv hK hH (i := 0) (by decide) rfl rfl) hl.1 ⟨Nat.zero_le _, Nat.zero_le _⟩ rfl rfl (Nat.le_of_ble_eq_true rfl) dX8_load_20 (fun H locs hH hS => ?_)
    refine lv_if_ne (tgt := 32) hx hb dX8_load_23 (by decide) (fun c_23 => ?_) (fun c_23 => ?_)
    · have c_23 := b2i_t c_23
      obtain ⟨t, h1j, hkt⟩ := isCd_ex c_23
      have htt : t < 513 := by have := hw.2.2.2.1 j; have := hw.2.2.1; omega
      have hkt2 := hw.1 t
      refine lv_aload_n hx hb dX8_load_32 rfl (lv_at hl 0 rfl) ?_
      refine g_get hC hK inG8 hH 0 (by decide) rfl rfl 1 (by decide) qF_X8_13 (Or.inl rfl) rfl dX8_load_33 ?_
      refine lv_aload_n hx hb dX8_load_36 rfl (lv_at hl 0 rfl) ?_
      refine lv_iload_n hx hb dX8_load_37 rfl (lv_at hl 1 rfl) ?_
      refine cm_V (As' := [.int (nI j)]) (rest := [.ref (ad 2)]) hC (c_X8_in1 hj h1j) mv_X8_in qM_X8_56 ⟨⟨rfl, rfl⟩, Nat.le_of_ble_eq_true rfl, Nat.le_of_ble_eq_true rfl⟩ hK hH hS hA (hp.recv hK hH (i := 0) (by decide) rfl rfl) hl.1 ⟨Nat.zero_le _, Nat.zero_le _⟩ rfl rfl (Nat.le_of_ble_eq_true rfl) dX8_load_38 (fun H locs hH hS => ?_)
      refine gN_iald hC hK hH 2 (by decide) rfl t (by omega) dX8_load_41 ?_
      refine lv_bipush (v := 14) hx hb dX8_load_42 (by decide) ?_
      refine lv_icmp_ne (tgt := 64) hx hb dX8_load_44 (by decide) (fun c_44 => ?_) (fun c_44 => ?_)
      · have c_44 := nc_ne (a := (P.kd t)) (b := 14) (by omega) (by omega) c_44
        refine lv_aload_n hx hb dX8_load_64 rfl (lv_at hl 0 rfl) ?_
        refine g_get hC hK inG8 hH 0 (by decide) rfl rfl 3 (by decide) qF_X8_19 (Or.inl rfl) rfl dX8_load_65 ?_
        refine lv_aload_n hx hb dX8_load_68 rfl (lv_at hl 0 rfl) ?_
        refine lv_iload_n hx hb dX8_load_69 rfl (lv_at hl 1 rfl) ?_
        refine cm_V (As' := [.int (nI j)]) (rest := [.ref (ad 4)]) hC (c_X8_in1 hj h1j) mv_X8_in qM_X8_56 ⟨⟨rfl, rfl⟩, Nat.le_of_ble_eq_true rfl, Nat.le_of_ble_eq_true rfl⟩ hK hH hS hA (hp.recv hK hH (i := 0) (by decide) rfl rfl) hl.1 ⟨Nat.zero_le _, Nat.zero_le _⟩ rfl rfl (Nat.le_of_ble_eq_true rfl) dX8_load_70 (fun H locs hH hS => ?_)
        refine gN_iald hC hK hH 4 (by decide) rfl t (by omega) dX8_load_73 ?_
        exact cx_ri hC hr hlk (mpost.mk (by simp [sp_load, rf, c_9, cN_c hj, c_23, h1j, c_44] <;> rfl)) hH hS dX8_load_74
      · have c_44 := nc_eq (a := (P.kd t)) (b := 14) (by omega) (by omega) c_44
        refine lv_iconst (v := 2) hx hb dX8_load_47 (by decide) ?_
        refine lv_aload_n hx hb dX8_load_48 rfl (lv_at hl 0 rfl) ?_
        refine g_get hC hK inG8 hH 0 (by decide) rfl rfl 3 (by decide) qF_X8_19 (Or.inl rfl) rfl dX8_load_49 ?_
        refine lv_aload_n hx hb dX8_load_52 rfl (lv_at hl 0 rfl) ?_
        refine lv_iload_n hx hb dX8_load_53 rfl (lv_at hl 1 rfl) ?_
        refine cm_V (As' := [.int (nI j)]) (rest := [.ref (ad 4), .int (2)]) hC (c_X8_in1 hj h1j) mv_X8_in qM_X8_56 ⟨⟨rfl, rfl⟩, Nat.le_of_ble_eq_true rfl, Nat.le_of_ble_eq_true rfl⟩ hK hH hS hA (hp.recv hK hH (i := 0) (by decide) rfl rfl) hl.1 ⟨Nat.zero_le _, Nat.zero_le _⟩ rfl rfl (Nat.le_of_ble_eq_true rfl) dX8_load_54 (fun H locs hH hS => ?_)
        refine gN_iald hC hK hH 4 (by decide) rfl t (by omega) dX8_load_57 ?_
        refine lv_imul hx hb dX8_load_58 ?_
        refine lv_iconst (v := 1) hx hb dX8_load_59 (by decide) ?_
        refine lv_iadd hx hb dX8_load_60 ?_
        refine lv_goto (tgt := 74) hx hb dX8_load_61 (by decide) ?_
        exact cx_ri hC hr hlk (mpost.mk (by simp [sp_load, rf, c_9, cN_c hj, c_23, h1j, c_44] <;> rfl)) hH hS dX8_load_74
    · have c_23 := b2i_f c_23
      refine lv_aload_n hx hb dX8_load_26 rfl (lv_at hl 0 rfl) ?_
      refine lv_iconst (v := 5) hx hb dX8_load_27 (by decide) ?_
      refine cm_V (As' := [.int (5)]) (rest := []) hC (c_X8_refuse) mv_X8_refuse qM_X8_105 ⟨⟨rfl, rfl⟩, Nat.le_of_ble_eq_true rfl, Nat.le_of_ble_eq_true rfl⟩ hK hH hS hA (hp.recv hK hH (i := 0) (by decide) rfl rfl) hl.1 ⟨Nat.zero_le _, Nat.zero_le _⟩ rfl rfl (Nat.le_of_ble_eq_true rfl) dX8_load_28 (fun H locs hH hS => ?_)
      exact cx_ri hC hr hlk (mpost.mk (by simp [sp_load, rf, c_9, cN_c hj, c_23] <;> rfl)) hH hS dX8_load_31
  · have c_9 := b2i_f c_9
    refine lv_aload_n hx hb dX8_load_12 rfl (lv_at hl 0 rfl) ?_
    refine lv_iconst (v := 1) hx hb dX8_load_13 (by decide) ?_
    refine cm_V (As' := [.int (1)]) (rest := []) hC (c_X8_refuse) mv_X8_refuse qM_X8_105 ⟨⟨rfl, rfl⟩, Nat.le_of_ble_eq_true rfl, Nat.le_of_ble_eq_true rfl⟩ hK hH hS hA (hp.recv hK hH (i := 0) (by decide) rfl rfl) hl.1 ⟨Nat.zero_le _, Nat.zero_le _⟩ rfl rfl (Nat.le_of_ble_eq_true rfl) dX8_load_14 (fun H locs hH hS => ?_)
    exact cx_ri hC hr hlk (mpost.mk (by simp [sp_load, rf, c_9] <;> rfl)) hH hS dX8_load_17
theorem mv_X8_reasonOfValue : mvok RX8 yX8_reasonOfValue cX8_reasonOfValue 5 (some .int) 3 := ⟨qK_X8_reasonOfValue, qI_X8_reasonOfValue, qSel_X8_X8_reasonOfValue, qInit_X8, by decide +kernel⟩
set_option maxHeartbeats 4000000 in
set_option maxRecDepth 100000 in
theorem c_X8_reasonOfValue {l : Launch} {D : va_G} {cy : Nat → ClassId} {ad : Nat → Nat} {P : AS} {wy : Int32} {so : Int32} {w : Int64} {r : UInt64} {ns : Nat → Int32} {nw : Nat → Int64} {nr : Nat → UInt64} {fr : Nat → Int32} {tt : Nat → Int32} {j k : Nat} {i : Int32} (hj : j < 12) (hk : k ≤ 7) (hw : WF P) : CM l yX8_reasonOfValue cX8_reasonOfValue 5 (some .int) (rm_ 3 65) D cy 13 ad [.ref (ad 0), .int (nI j), .int (i), .int (nI k)] (mct cy ad P wy so w r ns nw nr fr tt) (some (.int (nI (rsVal P j i k)))) (mct cy ad P wy (if rsVal P j i k = 0 then nI k else so) (if rsVal P j i k = 0 then (valAs P (P.co j - 1) (cN i) k).1 else w) (if rsVal P j i k = 0 then (valAs P (P.co j - 1) (cN i) k).2 else r) ns nw nr fr tt) := by
  refine CM.start (by decide) (Nat.le_of_ble_eq_true rfl) ?_
  intro p_ e_ s m_ below meth cd A ls hC hr hlk hin hK hA hH hl
  obtain ⟨hx, hb, hml, hown, hts⟩ := id hC
  have hS : va_S A s.heap s.heap [] := va_S.rf
  have hl : lv_has ls 5 [(0, .ref (ad 0)), (1, .int (nI j)), (2, .int (i)), (3, .int (nI k))] := hl
  refine lv_aload_n hx hb dX8_reasonOfValue_0 rfl (lv_at hl 0 rfl) ?_
  refine lv_iload_n hx hb dX8_reasonOfValue_1 rfl (lv_at hl 1 rfl) ?_
  refine lv_iload_n hx hb dX8_reasonOfValue_2 rfl (lv_at hl 2 rfl) ?_
  refine cm_V (As' := [.int (nI j), .int (i)]) (rest := []) hC (c_X8_reasonOfPlace hj hw) mv_X8_reasonOfPlace qM_X8_120 ⟨⟨rfl, rfl⟩, Nat.le_of_ble_eq_true rfl, Nat.le_of_ble_eq_true rfl⟩ hK hH hS hA (hp.recv hK hH (i := 0) (by decide) rfl rfl) hl.1 ⟨Nat.zero_le _, Nat.zero_le _⟩ rfl rfl (Nat.le_of_ble_eq_true rfl) dX8_reasonOfValue_3 (fun H locs hH hS => ?_)
  refine lv_istore (lv' := [(4, .int (nI (rsPl P j i))), (0, .ref (ad 0)), (1, .int (nI j)), (2, .int (i)), (3, .int (nI k))]) hx hb dX8_reasonOfValue_6 hl (by decide) rfl (fun ls hl => ?_)
  have hb1 := rsPl_le P j i
  refine lv_iload hx hb dX8_reasonOfValue_8 (lv_at hl 0 rfl) ?_
  refine lv_if_le (tgt := 16) hx hb dX8_reasonOfValue_10 (by decide) (fun c_10 => ?_) (fun c_10 => ?_)
  · have c_10 : (rsPl P j i) = 0 := by have h9 := nc_le (a := (rsPl P j i)) (b := 0) (by omega) (by omega) c_10; omega
    obtain ⟨t, q, h1j, hkt, hqt, rfl⟩ := rsPl_0 c_10
    have htt : t < 513 := by have := hw.2.2.2.1 j; have := hw.2.2.1; omega
    have hlt := hw.2.1 t
    have hn513 := hw.2.2.1
    refine lv_aload_n hx hb dX8_reasonOfValue_16 rfl (lv_at hl 1 rfl) ?_
    refine lv_aload_n hx hb dX8_reasonOfValue_17 rfl (lv_at hl 1 rfl) ?_
    refine lv_iload_n hx hb dX8_reasonOfValue_18 rfl (lv_at hl 2 rfl) ?_
    refine cm_V (As' := [.int (nI j)]) (rest := [.ref (ad 0)]) hC (c_X8_in1 hj h1j) mv_X8_in qM_X8_56 ⟨⟨rfl, rfl⟩, Nat.le_of_ble_eq_true rfl, Nat.le_of_ble_eq_true rfl⟩ hK hH hS hA (hp.recv hK hH (i := 0) (by decide) rfl rfl) hl.1 ⟨Nat.zero_le _, Nat.zero_le _⟩ rfl rfl (Nat.le_of_ble_eq_true rfl) dX8_reasonOfValue_19 (fun H locs hH hS => ?_)
    refine cm_V (As' := [.int (nI t)]) (rest := []) hC (c_X8_isPlain (by omega) hw) mv_X8_isPlain qM_X8_91 ⟨⟨rfl, rfl⟩, Nat.le_of_ble_eq_true rfl, Nat.le_of_ble_eq_true rfl⟩ hK hH hS hA (hp.recv hK hH (i := 0) (by decide) rfl rfl) hl.1 ⟨Nat.zero_le _, Nat.zero_le _⟩ rfl rfl (Nat.le_of_ble_eq_true rfl) dX8_reasonOfValue_22 (fun H locs hH hS => ?_)
    refine lv_if_eq (tgt := 46) hx hb dX8_reasonOfValue_25 (by decide) (fun c_25 => ?_) (fun c_25 => ?_)
    · have c_25 := b2d_f c_25
      refine lv_iconst (v := 5) hx hb dX8_reasonOfValue_46 (by decide) ?_
      exact cm_ri hC hr hlk (by simp [rsVal, c_10, h1j, hkt, cN_p hw hqt, c_25] <;> rfl) (by simp [rsVal, valAs, c_10, h1j, hkt, cN_p hw hqt, c_25]) hH hS dX8_reasonOfValue_47
    · have c_25 := b2d_t c_25
      refine lv_aload_n hx hb dX8_reasonOfValue_28 rfl (lv_at hl 1 rfl) ?_
      refine lv_aload_n hx hb dX8_reasonOfValue_29 rfl (lv_at hl 1 rfl) ?_
      refine g_get hC hK inG8 hH 0 (by decide) rfl rfl 1 (by decide) qF_X8_13 (Or.inl rfl) rfl dX8_reasonOfValue_30 ?_
      refine lv_aload_n hx hb dX8_reasonOfValue_33 rfl (lv_at hl 1 rfl) ?_
      refine lv_iload_n hx hb dX8_reasonOfValue_34 rfl (lv_at hl 2 rfl) ?_
      refine cm_V (As' := [.int (nI j)]) (rest := [.ref (ad 2), .ref (ad 0)]) hC (c_X8_in1 hj h1j) mv_X8_in qM_X8_56 ⟨⟨rfl, rfl⟩, Nat.le_of_ble_eq_true rfl, Nat.le_of_ble_eq_true rfl⟩ hK hH hS hA (hp.recv hK hH (i := 0) (by decide) rfl rfl) hl.1 ⟨Nat.zero_le _, Nat.zero_le _⟩ rfl rfl (Nat.le_of_ble_eq_true rfl) dX8_reasonOfValue_35 (fun H locs hH hS => ?_)
      refine gN_iald hC hK hH 2 (by decide) rfl t (by omega) dX8_reasonOfValue_38 ?_
      refine lv_iload_n hx hb dX8_reasonOfValue_39 rfl (lv_at hl 4 rfl) ?_
      refine cm_V (As' := [.int (nI (P.kd t)), .int (nI k)]) (rest := []) hC (c_X8_goesInto (a := (P.kd t)) (b := k) (by omega) (by omega)) mv_X8_goesInto qM_X8_94 ⟨⟨rfl, rfl⟩, Nat.le_of_ble_eq_true rfl, Nat.le_of_ble_eq_true rfl⟩ hK hH hS hA (hp.recv hK hH (i := 0) (by decide) rfl rfl) hl.1 ⟨Nat.zero_le _, Nat.zero_le _⟩ rfl rfl (Nat.le_of_ble_eq_true rfl) dX8_reasonOfValue_40 (fun H locs hH hS => ?_)
      refine lv_if_ne (tgt := 48) hx hb dX8_reasonOfValue_43 (by decide) (fun c_43 => ?_) (fun c_43 => ?_)
      · have c_43 := b2i_t c_43
        refine lv_aload_n hx hb dX8_reasonOfValue_48 rfl (lv_at hl 1 rfl) ?_
        refine lv_aload_n hx hb dX8_reasonOfValue_49 rfl (lv_at hl 1 rfl) ?_
        refine lv_iload_n hx hb dX8_reasonOfValue_50 rfl (lv_at hl 2 rfl) ?_
        refine cm_V (As' := [.int (nI j)]) (rest := [.ref (ad 0)]) hC (c_X8_in1 hj h1j) mv_X8_in qM_X8_56 ⟨⟨rfl, rfl⟩, Nat.le_of_ble_eq_true rfl, Nat.le_of_ble_eq_true rfl⟩ hK hH hS hA (hp.recv hK hH (i := 0) (by decide) rfl rfl) hl.1 ⟨Nat.zero_le _, Nat.zero_le _⟩ rfl rfl (Nat.le_of_ble_eq_true rfl) dX8_reasonOfValue_51 (fun H locs hH hS => ?_)
        refine lv_iload_n hx hb dX8_reasonOfValue_54 rfl (lv_at hl 3 rfl) ?_
        refine cm_V (As' := [.int (nI t), .int (nI q)]) (rest := []) hC (c_X8_get (by omega) (by omega)) mv_X8_get qM_X8_143 ⟨⟨rfl, rfl⟩, Nat.le_of_ble_eq_true rfl, Nat.le_of_ble_eq_true rfl⟩ hK hH hS hA (hp.recv hK hH (i := 0) (by decide) rfl rfl) hl.1 ⟨Nat.zero_le _, Nat.zero_le _⟩ rfl rfl (Nat.le_of_ble_eq_true rfl) dX8_reasonOfValue_55 (fun H locs hH hS => ?_)
        refine lv_aload_n hx hb dX8_reasonOfValue_58 rfl (lv_at hl 1 rfl) ?_
        refine lv_iload_n hx hb dX8_reasonOfValue_59 rfl (lv_at hl 4 rfl) ?_
        refine cm_V (As' := [.int (nI k)]) (rest := []) hC (c_X8_widen (by omega) (by omega)) mv_X8_widen qM_X8_131 ⟨⟨rfl, rfl⟩, Nat.le_of_ble_eq_true rfl, Nat.le_of_ble_eq_true rfl⟩ hK hH hS hA (hp.recv hK hH (i := 0) (by decide) rfl rfl) hl.1 ⟨Nat.zero_le _, Nat.zero_le _⟩ rfl rfl (Nat.le_of_ble_eq_true rfl) dX8_reasonOfValue_60 (fun H locs hH hS => ?_)
        refine lv_iconst (v := 0) hx hb dX8_reasonOfValue_63 (by decide) ?_
        exact cm_ri hC hr hlk (by simp [rsVal, c_10, h1j, hkt, cN_p hw hqt, c_25, c_43] <;> rfl) (by simp [rsVal, valAs, c_10, h1j, hkt, cN_p hw hqt, c_25, c_43]) hH hS dX8_reasonOfValue_64
      · have c_43 := b2i_f c_43
        refine lv_iconst (v := 5) hx hb dX8_reasonOfValue_46 (by decide) ?_
        exact cm_ri hC hr hlk (by simp [rsVal, c_10, h1j, hkt, cN_p hw hqt, c_25, c_43] <;> rfl) (by simp [rsVal, valAs, c_10, h1j, hkt, cN_p hw hqt, c_25, c_43]) hH hS dX8_reasonOfValue_47
  · have c_10 : ¬ (rsPl P j i) = 0 := by have h9 := nc_nle (a := (rsPl P j i)) (b := 0) (by omega) (by omega) c_10; omega
    refine lv_iload hx hb dX8_reasonOfValue_13 (lv_at hl 0 rfl) ?_
    exact cm_ri hC hr hlk (by simp [rsVal, c_10] <;> rfl) (by simp [rsVal, valAs, c_10]) hH hS dX8_reasonOfValue_15
theorem mv_X8_put : mvok RX8 yX8_put cX8_put 7 (some .int) 5 := ⟨qK_X8_put, qI_X8_put, qSel_X8_X8_put, qInit_X8, by decide +kernel⟩
set_option maxHeartbeats 4000000 in
set_option maxRecDepth 100000 in
theorem c_X8_put {l : Launch} {D : va_G} {cy : Nat → ClassId} {ad : Nat → Nat} {P : AS} {wy : Int32} {so : Int32} {w : Int64} {r : UInt64} {ns : Nat → Int32} {nw : Nat → Int64} {nr : Nat → UInt64} {fr : Nat → Int32} {tt : Nat → Int32} {c i sort a b : Int32} (hw : WF P)  : CX l yX8_put cX8_put 7 (some .int) (rm_ 3 65) D cy 13 ad [.ref (ad 0), .int (c), .int (i), .int (sort), .int (a), .int (b)] (mct cy ad P wy so w r ns nw nr fr tt) (mpost cy ad (sp_put P c i sort a b)) := by
  refine CX.start (by decide) (Nat.le_of_ble_eq_true rfl) ?_
  intro p_ e_ s m_ below meth cd A ls hC hr hlk hin hK hA hH hl
  obtain ⟨hx, hb, hml, hown, hts⟩ := id hC
  have hS : va_S A s.heap s.heap [] := va_S.rf
  have hl : lv_has ls 7 [(0, .ref (ad 0)), (1, .int (c)), (2, .int (i)), (3, .int (sort)), (4, .int (a)), (5, .int (b))] := hl
  refine lv_aload_n hx hb dX8_put_0 rfl (lv_at hl 0 rfl) ?_
  refine lv_iconst (v := 0) hx hb dX8_put_1 (by decide) ?_
  refine g_put (ct' := mct cy ad P 0 so w r ns nw nr fr tt) hC hK inG8 tyX8 tyX8_ok nmX8 hH hS 0 (by decide) rfl rfl 8 (by decide) qF_X8_48 rfl rfl rfl rfl (Nat.le_of_ble_eq_true rfl) rfl mct_0 dX8_put_2 (fun H locs hH hS => ?_)
  refine lv_iload_n hx hb dX8_put_5 rfl (lv_at hl 1 rfl) ?_
  refine cm_S (As := [.int (c)]) (rest := []) hC (c_X8_isColumn) ms_X8_isColumn qM_X8_102 ⟨⟨rfl, rfl⟩, Nat.le_of_ble_eq_true rfl, Nat.le_of_ble_eq_true rfl⟩ hK hH hS hA hl.1 ⟨Nat.zero_le _, Nat.zero_le _⟩ rfl rfl (Nat.le_of_ble_eq_true rfl) dX8_put_6 (fun H locs hH hS => ?_)
  refine lv_if_eq (tgt := 22) hx hb dX8_put_9 (by decide) (fun c_9 => ?_) (fun c_9 => ?_)
  · have c_9 := b2i_f c_9
    refine lv_aload_n hx hb dX8_put_22 rfl (lv_at hl 0 rfl) ?_
    refine lv_iconst (v := 1) hx hb dX8_put_23 (by decide) ?_
    refine cm_V (As' := [.int (1)]) (rest := []) hC (c_X8_refuse) mv_X8_refuse qM_X8_105 ⟨⟨rfl, rfl⟩, Nat.le_of_ble_eq_true rfl, Nat.le_of_ble_eq_true rfl⟩ hK hH hS hA (hp.recv hK hH (i := 0) (by decide) rfl rfl) hl.1 ⟨Nat.zero_le _, Nat.zero_le _⟩ rfl rfl (Nat.le_of_ble_eq_true rfl) dX8_put_24 (fun H locs hH hS => ?_)
    exact cx_ri hC hr hlk (mpost.mk (by simp [sp_put, rf, c_9] <;> rfl)) hH hS dX8_put_27
  · have c_9 := b2i_t c_9
    obtain ⟨j, hj, rfl⟩ := isC_ex c_9
    refine lv_iload_n hx hb dX8_put_12 rfl (lv_at hl 3 rfl) ?_
    refine lv_iconst (v := 0) hx hb dX8_put_13 (by decide) ?_
    refine lv_bipush (v := 7) hx hb dX8_put_14 (by decide) ?_
    refine cm_S (As := [.int (sort), .int (0), .int (7)]) (rest := []) hC (c_X8_isIn) ms_X8_isIn qM_X8_52 ⟨⟨rfl, rfl⟩, Nat.le_of_ble_eq_true rfl, Nat.le_of_ble_eq_true rfl⟩ hK hH hS hA hl.1 ⟨Nat.zero_le _, Nat.zero_le _⟩ rfl rfl (Nat.le_of_ble_eq_true rfl) dX8_put_16 (fun H locs hH hS => ?_)
    refine lv_if_ne (tgt := 28) hx hb dX8_put_19 (by decide) (fun c_19 => ?_) (fun c_19 => ?_)
    · have c_19 := b2i_t c_19
      obtain ⟨k, hk, rfl⟩ := inR_ex (n := 7) (by decide) c_19
      refine lv_aload_n hx hb dX8_put_28 rfl (lv_at hl 0 rfl) ?_
      refine lv_iload_n hx hb dX8_put_29 rfl (lv_at hl 1 rfl) ?_
      refine lv_iload_n hx hb dX8_put_30 rfl (lv_at hl 2 rfl) ?_
      refine cm_V (As' := [.int (nI j), .int (i)]) (rest := []) hC (c_X8_reasonOfPlace hj hw) mv_X8_reasonOfPlace qM_X8_120 ⟨⟨rfl, rfl⟩, Nat.le_of_ble_eq_true rfl, Nat.le_of_ble_eq_true rfl⟩ hK hH hS hA (hp.recv hK hH (i := 0) (by decide) rfl rfl) hl.1 ⟨Nat.zero_le _, Nat.zero_le _⟩ rfl rfl (Nat.le_of_ble_eq_true rfl) dX8_put_31 (fun H locs hH hS => ?_)
      refine lv_istore (lv' := [(6, .int (nI (rsPl P j i))), (0, .ref (ad 0)), (1, .int (nI j)), (2, .int (i)), (3, .int (nI k)), (4, .int (a)), (5, .int (b))]) hx hb dX8_put_34 hl (by decide) rfl (fun ls hl => ?_)
      have hb1 := rsPl_le P j i
      refine lv_iload hx hb dX8_put_36 (lv_at hl 0 rfl) ?_
      refine lv_if_le (tgt := 48) hx hb dX8_put_38 (by decide) (fun c_38 => ?_) (fun c_38 => ?_)
      · have c_38 : (rsPl P j i) = 0 := by have h9 := nc_le (a := (rsPl P j i)) (b := 0) (by omega) (by omega) c_38; omega
        obtain ⟨t, q, h1j, hkt, hqt, rfl⟩ := rsPl_0 c_38
        have htt : t < 513 := by have := hw.2.2.2.1 j; have := hw.2.2.1; omega
        have hlt := hw.2.1 t
        have hn513 := hw.2.2.1
        refine lv_aload_n hx hb dX8_put_48 rfl (lv_at hl 1 rfl) ?_
        refine lv_iload_n hx hb dX8_put_49 rfl (lv_at hl 4 rfl) ?_
        refine lv_iload hx hb dX8_put_50 (lv_at hl 5 rfl) ?_
        refine lv_iload hx hb dX8_put_52 (lv_at hl 6 rfl) ?_
        refine cm_V (As' := [.int (nI k), .int (a), .int (b)]) (rest := []) hC (c_X8_tell (by omega)) mv_X8_tell qM_X8_124 ⟨⟨rfl, rfl⟩, Nat.le_of_ble_eq_true rfl, Nat.le_of_ble_eq_true rfl⟩ hK hH hS hA (hp.recv hK hH (i := 0) (by decide) rfl rfl) hl.1 ⟨Nat.zero_le _, Nat.zero_le _⟩ rfl rfl (Nat.le_of_ble_eq_true rfl) dX8_put_54 (fun H locs hH hS => ?_)
        refine lv_aload_n hx hb dX8_put_57 rfl (lv_at hl 1 rfl) ?_
        refine lv_aload_n hx hb dX8_put_58 rfl (lv_at hl 1 rfl) ?_
        refine lv_iload_n hx hb dX8_put_59 rfl (lv_at hl 2 rfl) ?_
        refine cm_V (As' := [.int (nI j)]) (rest := [.ref (ad 0)]) hC (c_X8_in1 hj h1j) mv_X8_in qM_X8_56 ⟨⟨rfl, rfl⟩, Nat.le_of_ble_eq_true rfl, Nat.le_of_ble_eq_true rfl⟩ hK hH hS hA (hp.recv hK hH (i := 0) (by decide) rfl rfl) hl.1 ⟨Nat.zero_le _, Nat.zero_le _⟩ rfl rfl (Nat.le_of_ble_eq_true rfl) dX8_put_60 (fun H locs hH hS => ?_)
        refine cm_V (As' := [.int (nI t)]) (rest := []) hC (c_X8_goesIn (by omega) (by omega) hw (fun h => absurd h (by omega)) (by omega)) mv_X8_goesIn qM_X8_128 ⟨⟨rfl, rfl⟩, Nat.le_of_ble_eq_true rfl, Nat.le_of_ble_eq_true rfl⟩ hK hH hS hA (hp.recv hK hH (i := 0) (by decide) rfl rfl) hl.1 ⟨Nat.zero_le _, Nat.zero_le _⟩ rfl rfl (Nat.le_of_ble_eq_true rfl) dX8_put_63 (fun H locs hH hS => ?_)
        refine lv_if_ne (tgt := 75) hx hb dX8_put_66 (by decide) (fun c_66 => ?_) (fun c_66 => ?_)
        · have c_66 := b2i_t c_66
          have hg : P.kd t < 8 ∧ goes k (P.kd t) = true := goesI_k (by omega) c_66
          refine lv_aload_n hx hb dX8_put_75 rfl (lv_at hl 1 rfl) ?_
          refine lv_aload_n hx hb dX8_put_76 rfl (lv_at hl 1 rfl) ?_
          refine g_get hC hK inG8 hH 0 (by decide) rfl rfl 1 (by decide) qF_X8_13 (Or.inl rfl) rfl dX8_put_77 ?_
          refine lv_aload_n hx hb dX8_put_80 rfl (lv_at hl 1 rfl) ?_
          refine lv_iload_n hx hb dX8_put_81 rfl (lv_at hl 2 rfl) ?_
          refine cm_V (As' := [.int (nI j)]) (rest := [.ref (ad 2), .ref (ad 0)]) hC (c_X8_in1 hj h1j) mv_X8_in qM_X8_56 ⟨⟨rfl, rfl⟩, Nat.le_of_ble_eq_true rfl, Nat.le_of_ble_eq_true rfl⟩ hK hH hS hA (hp.recv hK hH (i := 0) (by decide) rfl rfl) hl.1 ⟨Nat.zero_le _, Nat.zero_le _⟩ rfl rfl (Nat.le_of_ble_eq_true rfl) dX8_put_82 (fun H locs hH hS => ?_)
          refine gN_iald hC hK hH 2 (by decide) rfl t (by omega) dX8_put_85 ?_
          refine cm_V (As' := [.int (nI (P.kd t))]) (rest := []) hC (c_X8_widen (by omega) (by omega)) mv_X8_widen qM_X8_131 ⟨⟨rfl, rfl⟩, Nat.le_of_ble_eq_true rfl, Nat.le_of_ble_eq_true rfl⟩ hK hH hS hA (hp.recv hK hH (i := 0) (by decide) rfl rfl) hl.1 ⟨Nat.zero_le _, Nat.zero_le _⟩ rfl rfl (Nat.le_of_ble_eq_true rfl) dX8_put_86 (fun H locs hH hS => ?_)
          refine lv_aload_n hx hb dX8_put_89 rfl (lv_at hl 1 rfl) ?_
          refine lv_aload_n hx hb dX8_put_90 rfl (lv_at hl 1 rfl) ?_
          refine lv_iload_n hx hb dX8_put_91 rfl (lv_at hl 2 rfl) ?_
          refine cm_V (As' := [.int (nI j)]) (rest := [.ref (ad 0)]) hC (c_X8_in1 hj h1j) mv_X8_in qM_X8_56 ⟨⟨rfl, rfl⟩, Nat.le_of_ble_eq_true rfl, Nat.le_of_ble_eq_true rfl⟩ hK hH hS hA (hp.recv hK hH (i := 0) (by decide) rfl rfl) hl.1 ⟨Nat.zero_le _, Nat.zero_le _⟩ rfl rfl (Nat.le_of_ble_eq_true rfl) dX8_put_92 (fun H locs hH hS => ?_)
          refine lv_iload_n hx hb dX8_put_95 rfl (lv_at hl 3 rfl) ?_
          refine cm_V (As' := [.int (nI t), .int (nI q)]) (rest := []) hC (c_X8_set (by omega) (by omega)) mv_X8_set qM_X8_135 ⟨⟨rfl, rfl⟩, Nat.le_of_ble_eq_true rfl, Nat.le_of_ble_eq_true rfl⟩ hK hH hS hA (hp.recv hK hH (i := 0) (by decide) rfl rfl) hl.1 ⟨Nat.zero_le _, Nat.zero_le _⟩ rfl rfl (Nat.le_of_ble_eq_true rfl) dX8_put_96 (fun H locs hH hS => ?_)
          refine lv_iconst (v := 1) hx hb dX8_put_99 (by decide) ?_
          exact cx_ri hC hr hlk (mpost.mk (by simp [sp_put, rf, c_9, cN_c hj, c_19, cN_s hk (by decide), c_38, h1j, cN_p hw hqt, hg] <;> rfl)) hH hS dX8_put_100
        · have c_66 := b2i_f c_66
          have hg : ¬ (P.kd t < 8 ∧ goes k (P.kd t) = true) := goesI_nk (by omega) c_66
          refine lv_aload_n hx hb dX8_put_69 rfl (lv_at hl 1 rfl) ?_
          refine lv_iconst (v := 5) hx hb dX8_put_70 (by decide) ?_
          refine cm_V (As' := [.int (5)]) (rest := []) hC (c_X8_refuse) mv_X8_refuse qM_X8_105 ⟨⟨rfl, rfl⟩, Nat.le_of_ble_eq_true rfl, Nat.le_of_ble_eq_true rfl⟩ hK hH hS hA (hp.recv hK hH (i := 0) (by decide) rfl rfl) hl.1 ⟨Nat.zero_le _, Nat.zero_le _⟩ rfl rfl (Nat.le_of_ble_eq_true rfl) dX8_put_71 (fun H locs hH hS => ?_)
          exact cx_ri hC hr hlk (mpost.mk (by simp [sp_put, rf, c_9, cN_c hj, c_19, cN_s hk (by decide), c_38, h1j, cN_p hw hqt, hg] <;> rfl)) hH hS dX8_put_74
      · have c_38 : ¬ (rsPl P j i) = 0 := by have h9 := nc_nle (a := (rsPl P j i)) (b := 0) (by omega) (by omega) c_38; omega
        refine lv_aload_n hx hb dX8_put_41 rfl (lv_at hl 1 rfl) ?_
        refine lv_iload hx hb dX8_put_42 (lv_at hl 0 rfl) ?_
        refine cm_V (As' := [.int (nI (rsPl P j i))]) (rest := []) hC (c_X8_refuse) mv_X8_refuse qM_X8_105 ⟨⟨rfl, rfl⟩, Nat.le_of_ble_eq_true rfl, Nat.le_of_ble_eq_true rfl⟩ hK hH hS hA (hp.recv hK hH (i := 0) (by decide) rfl rfl) hl.1 ⟨Nat.zero_le _, Nat.zero_le _⟩ rfl rfl (Nat.le_of_ble_eq_true rfl) dX8_put_44 (fun H locs hH hS => ?_)
        exact cx_ri hC hr hlk (mpost.mk (by simp [sp_put, rf, c_9, cN_c hj, c_19, cN_s hk (by decide), c_38] <;> rfl)) hH hS dX8_put_47
    · have c_19 := b2i_f c_19
      refine lv_aload_n hx hb dX8_put_22 rfl (lv_at hl 0 rfl) ?_
      refine lv_iconst (v := 1) hx hb dX8_put_23 (by decide) ?_
      refine cm_V (As' := [.int (1)]) (rest := []) hC (c_X8_refuse) mv_X8_refuse qM_X8_105 ⟨⟨rfl, rfl⟩, Nat.le_of_ble_eq_true rfl, Nat.le_of_ble_eq_true rfl⟩ hK hH hS hA (hp.recv hK hH (i := 0) (by decide) rfl rfl) hl.1 ⟨Nat.zero_le _, Nat.zero_le _⟩ rfl rfl (Nat.le_of_ble_eq_true rfl) dX8_put_24 (fun H locs hH hS => ?_)
      exact cx_ri hC hr hlk (mpost.mk (by simp [sp_put, rf, c_9, cN_c hj, c_19] <;> rfl)) hH hS dX8_put_27
end
section
theorem mv_X8_putThing : mvok RX8 yX8_putThing cX8_putThing 5 (some .int) 3 := ⟨qK_X8_putThing, qI_X8_putThing, qSel_X8_X8_putThing, qInit_X8, by decide +kernel⟩
set_option maxHeartbeats 4000000 in
set_option maxRecDepth 100000 in
theorem c_X8_putThing {l : Launch} {D : va_G} {cy : Nat → ClassId} {ad : Nat → Nat} {P : AS} {wy : Int32} {so : Int32} {w : Int64} {r : UInt64} {ns : Nat → Int32} {nw : Nat → Int64} {nr : Nat → UInt64} {fr : Nat → Int32} {tt : Nat → Int32} {c i d : Int32} (hw : WF P)  : CX l yX8_putThing cX8_putThing 5 (some .int) (rm_ 3 65) D cy 13 ad [.ref (ad 0), .int (c), .int (i), .int (d)] (mct cy ad P wy so w r ns nw nr fr tt) (mpost cy ad (sp_putThing P c i d)) := by
  refine CX.start (by decide) (Nat.le_of_ble_eq_true rfl) ?_
  intro p_ e_ s m_ below meth cd A ls hC hr hlk hin hK hA hH hl
  obtain ⟨hx, hb, hml, hown, hts⟩ := id hC
  have hS : va_S A s.heap s.heap [] := va_S.rf
  have hl : lv_has ls 5 [(0, .ref (ad 0)), (1, .int (c)), (2, .int (i)), (3, .int (d))] := hl
  refine lv_aload_n hx hb dX8_putThing_0 rfl (lv_at hl 0 rfl) ?_
  refine lv_iconst (v := 0) hx hb dX8_putThing_1 (by decide) ?_
  refine g_put (ct' := mct cy ad P 0 so w r ns nw nr fr tt) hC hK inG8 tyX8 tyX8_ok nmX8 hH hS 0 (by decide) rfl rfl 8 (by decide) qF_X8_48 rfl rfl rfl rfl (Nat.le_of_ble_eq_true rfl) rfl mct_0 dX8_putThing_2 (fun H locs hH hS => ?_)
  refine lv_iload_n hx hb dX8_putThing_5 rfl (lv_at hl 1 rfl) ?_
  refine cm_S (As := [.int (c)]) (rest := []) hC (c_X8_isColumn) ms_X8_isColumn qM_X8_102 ⟨⟨rfl, rfl⟩, Nat.le_of_ble_eq_true rfl, Nat.le_of_ble_eq_true rfl⟩ hK hH hS hA hl.1 ⟨Nat.zero_le _, Nat.zero_le _⟩ rfl rfl (Nat.le_of_ble_eq_true rfl) dX8_putThing_6 (fun H locs hH hS => ?_)
  refine lv_if_eq (tgt := 19) hx hb dX8_putThing_9 (by decide) (fun c_9 => ?_) (fun c_9 => ?_)
  · have c_9 := b2i_f c_9
    refine lv_aload_n hx hb dX8_putThing_19 rfl (lv_at hl 0 rfl) ?_
    refine lv_iconst (v := 1) hx hb dX8_putThing_20 (by decide) ?_
    refine cm_V (As' := [.int (1)]) (rest := []) hC (c_X8_refuse) mv_X8_refuse qM_X8_105 ⟨⟨rfl, rfl⟩, Nat.le_of_ble_eq_true rfl, Nat.le_of_ble_eq_true rfl⟩ hK hH hS hA (hp.recv hK hH (i := 0) (by decide) rfl rfl) hl.1 ⟨Nat.zero_le _, Nat.zero_le _⟩ rfl rfl (Nat.le_of_ble_eq_true rfl) dX8_putThing_21 (fun H locs hH hS => ?_)
    exact cx_ri hC hr hlk (mpost.mk (by simp [sp_putThing, rf, fitP_0, c_9] <;> rfl)) hH hS dX8_putThing_24
  · have c_9 := b2i_t c_9
    obtain ⟨j, hj, rfl⟩ := isC_ex c_9
    refine lv_iload_n hx hb dX8_putThing_12 rfl (lv_at hl 3 rfl) ?_
    refine cm_S (As := [.int (d)]) (rest := []) hC (c_X8_isColumn) ms_X8_isColumn qM_X8_102 ⟨⟨rfl, rfl⟩, Nat.le_of_ble_eq_true rfl, Nat.le_of_ble_eq_true rfl⟩ hK hH hS hA hl.1 ⟨Nat.zero_le _, Nat.zero_le _⟩ rfl rfl (Nat.le_of_ble_eq_true rfl) dX8_putThing_13 (fun H locs hH hS => ?_)
    refine lv_if_ne (tgt := 25) hx hb dX8_putThing_16 (by decide) (fun c_16 => ?_) (fun c_16 => ?_)
    · have c_16 := b2i_t c_16
      obtain ⟨k, hk, rfl⟩ := isC_ex c_16
      refine lv_aload_n hx hb dX8_putThing_25 rfl (lv_at hl 0 rfl) ?_
      refine lv_iload_n hx hb dX8_putThing_26 rfl (lv_at hl 1 rfl) ?_
      refine lv_iload_n hx hb dX8_putThing_27 rfl (lv_at hl 2 rfl) ?_
      refine cm_V (As' := [.int (nI j), .int (i)]) (rest := []) hC (c_X8_reasonOfPlace hj hw) mv_X8_reasonOfPlace qM_X8_120 ⟨⟨rfl, rfl⟩, Nat.le_of_ble_eq_true rfl, Nat.le_of_ble_eq_true rfl⟩ hK hH hS hA (hp.recv hK hH (i := 0) (by decide) rfl rfl) hl.1 ⟨Nat.zero_le _, Nat.zero_le _⟩ rfl rfl (Nat.le_of_ble_eq_true rfl) dX8_putThing_28 (fun H locs hH hS => ?_)
      refine lv_istore (lv' := [(4, .int (nI (rsPl P j i))), (0, .ref (ad 0)), (1, .int (nI j)), (2, .int (i)), (3, .int (nI k))]) hx hb dX8_putThing_31 hl (by decide) rfl (fun ls hl => ?_)
      have hb1 := rsPl_le P j i
      refine lv_iload hx hb dX8_putThing_33 (lv_at hl 0 rfl) ?_
      refine lv_if_le (tgt := 45) hx hb dX8_putThing_35 (by decide) (fun c_35 => ?_) (fun c_35 => ?_)
      · have c_35 : (rsPl P j i) = 0 := by have h9 := nc_le (a := (rsPl P j i)) (b := 0) (by omega) (by omega) c_35; omega
        obtain ⟨t, q, h1j, hkt, hqt, rfl⟩ := rsPl_0 c_35
        have htt : t < 513 := by have := hw.2.2.2.1 j; have := hw.2.2.1; omega
        have hlt := hw.2.1 t
        have hn513 := hw.2.2.1
        refine lv_aload_n hx hb dX8_putThing_45 rfl (lv_at hl 1 rfl) ?_
        refine lv_aload_n hx hb dX8_putThing_46 rfl (lv_at hl 1 rfl) ?_
        refine lv_iload_n hx hb dX8_putThing_47 rfl (lv_at hl 2 rfl) ?_
        refine cm_V (As' := [.int (nI j)]) (rest := [.ref (ad 0)]) hC (c_X8_in1 hj h1j) mv_X8_in qM_X8_56 ⟨⟨rfl, rfl⟩, Nat.le_of_ble_eq_true rfl, Nat.le_of_ble_eq_true rfl⟩ hK hH hS hA (hp.recv hK hH (i := 0) (by decide) rfl rfl) hl.1 ⟨Nat.zero_le _, Nat.zero_le _⟩ rfl rfl (Nat.le_of_ble_eq_true rfl) dX8_putThing_48 (fun H locs hH hS => ?_)
        refine cm_V (As' := [.int (nI t)]) (rest := []) hC (c_X8_isPlain (by omega) hw) mv_X8_isPlain qM_X8_91 ⟨⟨rfl, rfl⟩, Nat.le_of_ble_eq_true rfl, Nat.le_of_ble_eq_true rfl⟩ hK hH hS hA (hp.recv hK hH (i := 0) (by decide) rfl rfl) hl.1 ⟨Nat.zero_le _, Nat.zero_le _⟩ rfl rfl (Nat.le_of_ble_eq_true rfl) dX8_putThing_51 (fun H locs hH hS => ?_)
        refine lv_if_ne (tgt := 76) hx hb dX8_putThing_54 (by decide) (fun c_54 => ?_) (fun c_54 => ?_)
        · have c_54 := b2d_t c_54
          refine lv_aload_n hx hb dX8_putThing_76 rfl (lv_at hl 1 rfl) ?_
          refine lv_iconst (v := 5) hx hb dX8_putThing_77 (by decide) ?_
          refine cm_V (As' := [.int (5)]) (rest := []) hC (c_X8_refuse) mv_X8_refuse qM_X8_105 ⟨⟨rfl, rfl⟩, Nat.le_of_ble_eq_true rfl, Nat.le_of_ble_eq_true rfl⟩ hK hH hS hA (hp.recv hK hH (i := 0) (by decide) rfl rfl) hl.1 ⟨Nat.zero_le _, Nat.zero_le _⟩ rfl rfl (Nat.le_of_ble_eq_true rfl) dX8_putThing_78 (fun H locs hH hS => ?_)
          exact cx_ri hC hr hlk (mpost.mk (by simp [sp_putThing, rf, fitP_0, c_9, cN_c hj, c_16, cN_c hk, c_35, h1j, cN_p hw hqt, show ¬ 8 ≤ P.kd t by omega] <;> rfl)) hH hS dX8_putThing_81
        · have c_54 := b2d_f c_54
          have hbk := hw.2.2.2.1 k
          refine lv_aload_n hx hb dX8_putThing_57 rfl (lv_at hl 1 rfl) ?_
          refine lv_aload_n hx hb dX8_putThing_58 rfl (lv_at hl 1 rfl) ?_
          refine lv_iload_n hx hb dX8_putThing_59 rfl (lv_at hl 2 rfl) ?_
          refine cm_V (As' := [.int (nI j)]) (rest := [.ref (ad 0)]) hC (c_X8_in1 hj h1j) mv_X8_in qM_X8_56 ⟨⟨rfl, rfl⟩, Nat.le_of_ble_eq_true rfl, Nat.le_of_ble_eq_true rfl⟩ hK hH hS hA (hp.recv hK hH (i := 0) (by decide) rfl rfl) hl.1 ⟨Nat.zero_le _, Nat.zero_le _⟩ rfl rfl (Nat.le_of_ble_eq_true rfl) dX8_putThing_60 (fun H locs hH hS => ?_)
          refine lv_aload_n hx hb dX8_putThing_63 rfl (lv_at hl 1 rfl) ?_
          refine g_get hC hK inG8 hH 0 (by decide) rfl rfl 7 (by decide) qF_X8_30 (Or.inl rfl) rfl dX8_putThing_64 ?_
          refine lv_iload_n hx hb dX8_putThing_67 rfl (lv_at hl 4 rfl) ?_
          refine gN_iald hC hK hH 7 (by decide) rfl k (by omega) dX8_putThing_68 ?_
          refine lv_i2l hx hb dX8_putThing_69 rfl ?_
          refine lv_chgl (y := lN (P.co k)) (nI_l (by omega)) ?_
          refine cm_V (As' := [.int (nI t), .long (lN (P.co k))]) (rest := []) hC (c_X8_fits (by omega) (by omega) hw (by omega) (by omega)) mv_X8_fits qM_X8_98 ⟨⟨rfl, rfl⟩, Nat.le_of_ble_eq_true rfl, Nat.le_of_ble_eq_true rfl⟩ hK hH hS hA (hp.recv hK hH (i := 0) (by decide) rfl rfl) hl.1 ⟨Nat.zero_le _, Nat.zero_le _⟩ rfl rfl (Nat.le_of_ble_eq_true rfl) dX8_putThing_70 (fun H locs hH hS => ?_)
          refine lv_if_ne (tgt := 82) hx hb dX8_putThing_73 (by decide) (fun c_73 => ?_) (fun c_73 => ?_)
          · have c_73 := b2i_t c_73
            refine lv_aload_n hx hb dX8_putThing_82 rfl (lv_at hl 1 rfl) ?_
            refine g_get hC hK inG8 hH 0 (by decide) rfl rfl 4 (by decide) qF_X8_22 (Or.inl rfl) rfl dX8_putThing_83 ?_
            refine lv_bipush (v := 24) hx hb dX8_putThing_86 (by decide) ?_
            refine lv_aload_n hx hb dX8_putThing_88 rfl (lv_at hl 1 rfl) ?_
            refine lv_iload_n hx hb dX8_putThing_89 rfl (lv_at hl 2 rfl) ?_
            refine cm_V (As' := [.int (nI j)]) (rest := [.int (24), .ref (ad 5)]) hC (c_X8_in1 hj h1j) mv_X8_in qM_X8_56 ⟨⟨rfl, rfl⟩, Nat.le_of_ble_eq_true rfl, Nat.le_of_ble_eq_true rfl⟩ hK hH hS hA (hp.recv hK hH (i := 0) (by decide) rfl rfl) hl.1 ⟨Nat.zero_le _, Nat.zero_le _⟩ rfl rfl (Nat.le_of_ble_eq_true rfl) dX8_putThing_90 (fun H locs hH hS => ?_)
            refine lv_imul hx hb dX8_putThing_93 ?_
            refine lv_iload_n hx hb dX8_putThing_94 rfl (lv_at hl 3 rfl) ?_
            refine lv_iadd hx hb dX8_putThing_95 ?_
            refine lv_aload_n hx hb dX8_putThing_96 rfl (lv_at hl 1 rfl) ?_
            refine g_get hC hK inG8 hH 0 (by decide) rfl rfl 7 (by decide) qF_X8_30 (Or.inl rfl) rfl dX8_putThing_97 ?_
            refine lv_iload_n hx hb dX8_putThing_100 rfl (lv_at hl 4 rfl) ?_
            refine gN_iald hC hK hH 7 (by decide) rfl k (by omega) dX8_putThing_101 ?_
            refine lv_i2l hx hb dX8_putThing_102 rfl ?_
            refine lv_chgl (y := lN (P.co k)) (nI_l (by omega)) ?_
            refine mr_whs hC hK hH hS t q (by omega) dX8_putThing_103 (fun H locs hH hS => ?_)
            refine lv_aload_n hx hb dX8_putThing_104 rfl (lv_at hl 1 rfl) ?_
            refine g_get hC hK inG8 hH 0 (by decide) rfl rfl 7 (by decide) qF_X8_30 (Or.inl rfl) rfl dX8_putThing_105 ?_
            refine lv_iload_n hx hb dX8_putThing_108 rfl (lv_at hl 4 rfl) ?_
            refine gN_iald hC hK hH 7 (by decide) rfl k (by omega) dX8_putThing_109 ?_
            refine lv_chg (y := nI (P.co k)) rfl ?_
            refine lv_if_le (tgt := 117) hx hb dX8_putThing_110 (by decide) (fun c_110 => ?_) (fun c_110 => ?_)
            · have c_110 : (P.co k) = 0 := by have h9 := nc_le (a := (P.co k)) (b := 0) (by omega) (by omega) c_110; omega
              refine lv_iconst (v := 0) hx hb dX8_putThing_117 (by decide) ?_
              exact cx_ri hC hr hlk (mpost.mk (by simp [sp_putThing, rf, fitP_0, c_9, cN_c hj, c_16, cN_c hk, c_35, h1j, cN_p hw hqt, show 8 ≤ P.kd t by omega, c_73, c_110] <;> rfl)) hH hS dX8_putThing_118
            · have c_110 : ¬ (P.co k) = 0 := by have h9 := nc_nle (a := (P.co k)) (b := 0) (by omega) (by omega) c_110; omega
              refine lv_iconst (v := 1) hx hb dX8_putThing_113 (by decide) ?_
              refine lv_goto (tgt := 118) hx hb dX8_putThing_114 (by decide) ?_
              exact cx_ri hC hr hlk (mpost.mk (by simp [sp_putThing, rf, fitP_0, c_9, cN_c hj, c_16, cN_c hk, c_35, h1j, cN_p hw hqt, show 8 ≤ P.kd t by omega, c_73, c_110] <;> rfl)) hH hS dX8_putThing_118
          · have c_73 := b2i_f c_73
            refine lv_aload_n hx hb dX8_putThing_76 rfl (lv_at hl 1 rfl) ?_
            refine lv_iconst (v := 5) hx hb dX8_putThing_77 (by decide) ?_
            refine cm_V (As' := [.int (5)]) (rest := []) hC (c_X8_refuse) mv_X8_refuse qM_X8_105 ⟨⟨rfl, rfl⟩, Nat.le_of_ble_eq_true rfl, Nat.le_of_ble_eq_true rfl⟩ hK hH hS hA (hp.recv hK hH (i := 0) (by decide) rfl rfl) hl.1 ⟨Nat.zero_le _, Nat.zero_le _⟩ rfl rfl (Nat.le_of_ble_eq_true rfl) dX8_putThing_78 (fun H locs hH hS => ?_)
            exact cx_ri hC hr hlk (mpost.mk (by simp [sp_putThing, rf, fitP_0, c_9, cN_c hj, c_16, cN_c hk, c_35, h1j, cN_p hw hqt, show 8 ≤ P.kd t by omega, c_73] <;> rfl)) hH hS dX8_putThing_81
      · have c_35 : ¬ (rsPl P j i) = 0 := by have h9 := nc_nle (a := (rsPl P j i)) (b := 0) (by omega) (by omega) c_35; omega
        refine lv_aload_n hx hb dX8_putThing_38 rfl (lv_at hl 1 rfl) ?_
        refine lv_iload hx hb dX8_putThing_39 (lv_at hl 0 rfl) ?_
        refine cm_V (As' := [.int (nI (rsPl P j i))]) (rest := []) hC (c_X8_refuse) mv_X8_refuse qM_X8_105 ⟨⟨rfl, rfl⟩, Nat.le_of_ble_eq_true rfl, Nat.le_of_ble_eq_true rfl⟩ hK hH hS hA (hp.recv hK hH (i := 0) (by decide) rfl rfl) hl.1 ⟨Nat.zero_le _, Nat.zero_le _⟩ rfl rfl (Nat.le_of_ble_eq_true rfl) dX8_putThing_41 (fun H locs hH hS => ?_)
        exact cx_ri hC hr hlk (mpost.mk (by simp [sp_putThing, rf, fitP_0, c_9, cN_c hj, c_16, cN_c hk, c_35] <;> rfl)) hH hS dX8_putThing_44
    · have c_16 := b2i_f c_16
      refine lv_aload_n hx hb dX8_putThing_19 rfl (lv_at hl 0 rfl) ?_
      refine lv_iconst (v := 1) hx hb dX8_putThing_20 (by decide) ?_
      refine cm_V (As' := [.int (1)]) (rest := []) hC (c_X8_refuse) mv_X8_refuse qM_X8_105 ⟨⟨rfl, rfl⟩, Nat.le_of_ble_eq_true rfl, Nat.le_of_ble_eq_true rfl⟩ hK hH hS hA (hp.recv hK hH (i := 0) (by decide) rfl rfl) hl.1 ⟨Nat.zero_le _, Nat.zero_le _⟩ rfl rfl (Nat.le_of_ble_eq_true rfl) dX8_putThing_21 (fun H locs hH hS => ?_)
      exact cx_ri hC hr hlk (mpost.mk (by simp [sp_putThing, rf, fitP_0, c_9, cN_c hj, c_16] <;> rfl)) hH hS dX8_putThing_24
theorem mv_X8_putBoxed : mvok RX8 yX8_putBoxed cX8_putBoxed 6 (some .int) 5 := ⟨qK_X8_putBoxed, qI_X8_putBoxed, qSel_X8_X8_putBoxed, qInit_X8, by decide +kernel⟩
set_option maxHeartbeats 4000000 in
set_option maxRecDepth 100000 in
theorem c_X8_putBoxed {l : Launch} {D : va_G} {cy : Nat → ClassId} {ad : Nat → Nat} {P : AS} {wy so : Int32} {w : Int64} {r : UInt64} {ns : Nat → Int32} {nw : Nat → Int64} {nr : Nat → UInt64} {fr tt : Nat → Int32} {c i sort a b : Int32} (hw : WF P) : CX l yX8_putBoxed cX8_putBoxed 6 (some .int) (rm_ 4 91) D cy 13 ad [.ref (ad 0), .int c, .int i, .int sort, .int a, .int b] (mct cy ad P wy so w r ns nw nr fr tt) (mpost cy ad (sp_put P c i sort a b)) := by
  refine CX.start (by decide) (Nat.le_of_ble_eq_true rfl) ?_
  intro p_ e_ s m_ below meth cd A ls hC hr hlk hin hK hA hH hl
  obtain ⟨hx, hb, hml, hown, hts⟩ := id hC
  have hS : va_S A s.heap s.heap [] := va_S.rf
  have hl : lv_has ls 6 [(0, .ref (ad 0)), (1, .int c), (2, .int i), (3, .int sort), (4, .int a), (5, .int b)] := hl
  refine lv_aload_n hx hb dX8_putBoxed_0 rfl (lv_at hl 0 rfl) ?_
  refine lv_iload_n hx hb dX8_putBoxed_1 rfl (lv_at hl 1 rfl) ?_
  refine lv_iload_n hx hb dX8_putBoxed_2 rfl (lv_at hl 2 rfl) ?_
  refine lv_iload_n hx hb dX8_putBoxed_3 rfl (lv_at hl 3 rfl) ?_
  refine lv_iload hx hb dX8_putBoxed_4 (lv_at hl 4 rfl) ?_
  refine lv_iload hx hb dX8_putBoxed_6 (lv_at hl 5 rfl) ?_
  refine cx_V (As' := [.int c, .int i, .int sort, .int a, .int b]) (rest := []) hC (c_X8_put hw) mv_X8_put qM_X8_139 ⟨⟨rfl, rfl⟩, Nat.le_of_ble_eq_true rfl, Nat.le_of_ble_eq_true rfl⟩ hK hH hS hA (hp.recv hK hH (i := 0) (by decide) rfl rfl) hl.1 ⟨Nat.zero_le _, Nat.zero_le _⟩ rfl rfl (Nat.le_of_ble_eq_true rfl) dX8_putBoxed_8 (fun v c1 H locs hpo hH hS _ => ?_)
  obtain ⟨e1, hpo2⟩ := hpo
  subst e1
  exact cx_ri hC hr hlk ⟨rfl, hpo2⟩ hH hS dX8_putBoxed_11
theorem mv_X8_number : mvok RX8 yX8_number cX8_number 5 (some .long) 3 := ⟨qK_X8_number, qI_X8_number, qSel_X8_X8_number, qInit_X8, by decide +kernel⟩
set_option maxHeartbeats 4000000 in
set_option maxRecDepth 100000 in
theorem c_X8_number {l : Launch} {D : va_G} {cy : Nat → ClassId} {ad : Nat → Nat} {P : AS} {wy : Int32} {so : Int32} {w : Int64} {r : UInt64} {ns : Nat → Int32} {nw : Nat → Int64} {nr : Nat → UInt64} {fr : Nat → Int32} {tt : Nat → Int32} {c i sort : Int32} (hw : WF P)  : CX l yX8_number cX8_number 5 (some .long) (rm_ 4 89) D cy 13 ad [.ref (ad 0), .int (c), .int (i), .int (sort)] (mct cy ad P wy so w r ns nw nr fr tt) (mpostL cy ad (sp_number P c i sort)) := by
  refine CX.start (by decide) (Nat.le_of_ble_eq_true rfl) ?_
  intro p_ e_ s m_ below meth cd A ls hC hr hlk hin hK hA hH hl
  obtain ⟨hx, hb, hml, hown, hts⟩ := id hC
  have hS : va_S A s.heap s.heap [] := va_S.rf
  have hl : lv_has ls 5 [(0, .ref (ad 0)), (1, .int (c)), (2, .int (i)), (3, .int (sort))] := hl
  refine lv_aload_n hx hb dX8_number_0 rfl (lv_at hl 0 rfl) ?_
  refine lv_iconst (v := 0) hx hb dX8_number_1 (by decide) ?_
  refine g_put (ct' := mct cy ad P 0 so w r ns nw nr fr tt) hC hK inG8 tyX8 tyX8_ok nmX8 hH hS 0 (by decide) rfl rfl 8 (by decide) qF_X8_48 rfl rfl rfl rfl (Nat.le_of_ble_eq_true rfl) rfl mct_0 dX8_number_2 (fun H locs hH hS => ?_)
  refine lv_iload_n hx hb dX8_number_5 rfl (lv_at hl 1 rfl) ?_
  refine cm_S (As := [.int (c)]) (rest := []) hC (c_X8_isColumn) ms_X8_isColumn qM_X8_102 ⟨⟨rfl, rfl⟩, Nat.le_of_ble_eq_true rfl, Nat.le_of_ble_eq_true rfl⟩ hK hH hS hA hl.1 ⟨Nat.zero_le _, Nat.zero_le _⟩ rfl rfl (Nat.le_of_ble_eq_true rfl) dX8_number_6 (fun H locs hH hS => ?_)
  refine lv_if_eq (tgt := 21) hx hb dX8_number_9 (by decide) (fun c_9 => ?_) (fun c_9 => ?_)
  · have c_9 := b2i_f c_9
    refine lv_aload_n hx hb dX8_number_21 rfl (lv_at hl 0 rfl) ?_
    refine lv_iconst (v := 1) hx hb dX8_number_22 (by decide) ?_
    refine cm_V (As' := [.int (1)]) (rest := []) hC (c_X8_refuse) mv_X8_refuse qM_X8_105 ⟨⟨rfl, rfl⟩, Nat.le_of_ble_eq_true rfl, Nat.le_of_ble_eq_true rfl⟩ hK hH hS hA (hp.recv hK hH (i := 0) (by decide) rfl rfl) hl.1 ⟨Nat.zero_le _, Nat.zero_le _⟩ rfl rfl (Nat.le_of_ble_eq_true rfl) dX8_number_23 (fun H locs hH hS => ?_)
    refine lv_i2l hx hb dX8_number_26 rfl ?_
    exact cx_rl hC hr hlk (mpostL.mk (by simp [sp_number, c_9] <;> rfl)) hH hS dX8_number_27
  · have c_9 := b2i_t c_9
    obtain ⟨j, hj, rfl⟩ := isC_ex c_9
    refine lv_iload_n hx hb dX8_number_12 rfl (lv_at hl 3 rfl) ?_
    refine lv_iconst (v := 0) hx hb dX8_number_13 (by decide) ?_
    refine lv_iconst (v := 5) hx hb dX8_number_14 (by decide) ?_
    refine cm_S (As := [.int (sort), .int (0), .int (5)]) (rest := []) hC (c_X8_isIn) ms_X8_isIn qM_X8_52 ⟨⟨rfl, rfl⟩, Nat.le_of_ble_eq_true rfl, Nat.le_of_ble_eq_true rfl⟩ hK hH hS hA hl.1 ⟨Nat.zero_le _, Nat.zero_le _⟩ rfl rfl (Nat.le_of_ble_eq_true rfl) dX8_number_15 (fun H locs hH hS => ?_)
    refine lv_if_ne (tgt := 28) hx hb dX8_number_18 (by decide) (fun c_18 => ?_) (fun c_18 => ?_)
    · have c_18 := b2i_t c_18
      obtain ⟨k, hk, rfl⟩ := inR_ex (n := 5) (by decide) c_18
      refine lv_aload_n hx hb dX8_number_28 rfl (lv_at hl 0 rfl) ?_
      refine lv_iload_n hx hb dX8_number_29 rfl (lv_at hl 1 rfl) ?_
      refine lv_iload_n hx hb dX8_number_30 rfl (lv_at hl 2 rfl) ?_
      refine lv_iload_n hx hb dX8_number_31 rfl (lv_at hl 3 rfl) ?_
      refine cm_V (As' := [.int (nI j), .int (i), .int (nI k)]) (rest := []) hC (c_X8_reasonOfValue hj (by omega) hw) mv_X8_reasonOfValue qM_X8_146 ⟨⟨rfl, rfl⟩, Nat.le_of_ble_eq_true rfl, Nat.le_of_ble_eq_true rfl⟩ hK hH hS hA (hp.recv hK hH (i := 0) (by decide) rfl rfl) hl.1 ⟨Nat.zero_le _, Nat.zero_le _⟩ rfl rfl (Nat.le_of_ble_eq_true rfl) dX8_number_32 (fun H locs hH hS => ?_)
      refine lv_istore (lv' := [(4, .int (nI (rsVal P j i k))), (0, .ref (ad 0)), (1, .int (nI j)), (2, .int (i)), (3, .int (nI k))]) hx hb dX8_number_35 hl (by decide) rfl (fun ls hl => ?_)
      have hb1 := rsVal_le P j i k
      refine lv_iload hx hb dX8_number_37 (lv_at hl 0 rfl) ?_
      refine lv_if_le (tgt := 52) hx hb dX8_number_39 (by decide) (fun c_39 => ?_) (fun c_39 => ?_)
      · have c_39 : (rsVal P j i k) = 0 := by have h9 := nc_le (a := (rsVal P j i k)) (b := 0) (by omega) (by omega) c_39; omega
        refine lv_aload_n hx hb dX8_number_52 rfl (lv_at hl 1 rfl) ?_
        refine g_get hC hK inG8 hH 0 (by decide) rfl rfl 10 (by decide) qF_X8_69 (Or.inl rfl) rfl dX8_number_53 ?_
        exact cx_rl hC hr hlk (mpostL.mk (by simp [sp_number, c_9, cN_c hj, c_18, cN_s hk (by decide), c_39] <;> rfl)) hH hS dX8_number_56
      · have c_39 : ¬ (rsVal P j i k) = 0 := by have h9 := nc_nle (a := (rsVal P j i k)) (b := 0) (by omega) (by omega) c_39; omega
        refine lv_aload_n hx hb dX8_number_42 rfl (lv_at hl 1 rfl) ?_
        refine lv_iload hx hb dX8_number_43 (lv_at hl 0 rfl) ?_
        refine cm_V (As' := [.int (nI (rsVal P j i k))]) (rest := []) hC (c_X8_refuse) mv_X8_refuse qM_X8_105 ⟨⟨rfl, rfl⟩, Nat.le_of_ble_eq_true rfl, Nat.le_of_ble_eq_true rfl⟩ hK hH hS hA (hp.recv hK hH (i := 0) (by decide) rfl rfl) hl.1 ⟨Nat.zero_le _, Nat.zero_le _⟩ rfl rfl (Nat.le_of_ble_eq_true rfl) dX8_number_45 (fun H locs hH hS => ?_)
        refine lv_i2l hx hb dX8_number_48 rfl ?_
        refine lv_goto (tgt := 56) hx hb dX8_number_49 (by decide) ?_
        exact cx_rl hC hr hlk (mpostL.mk (by simp [sp_number, c_9, cN_c hj, c_18, cN_s hk (by decide), c_39] <;> rfl)) hH hS dX8_number_56
    · have c_18 := b2i_f c_18
      refine lv_aload_n hx hb dX8_number_21 rfl (lv_at hl 0 rfl) ?_
      refine lv_iconst (v := 1) hx hb dX8_number_22 (by decide) ?_
      refine cm_V (As' := [.int (1)]) (rest := []) hC (c_X8_refuse) mv_X8_refuse qM_X8_105 ⟨⟨rfl, rfl⟩, Nat.le_of_ble_eq_true rfl, Nat.le_of_ble_eq_true rfl⟩ hK hH hS hA (hp.recv hK hH (i := 0) (by decide) rfl rfl) hl.1 ⟨Nat.zero_le _, Nat.zero_le _⟩ rfl rfl (Nat.le_of_ble_eq_true rfl) dX8_number_23 (fun H locs hH hS => ?_)
      refine lv_i2l hx hb dX8_number_26 rfl ?_
      exact cx_rl hC hr hlk (mpostL.mk (by simp [sp_number, c_9, cN_c hj, c_18] <;> rfl)) hH hS dX8_number_27
theorem mv_X8_point : mvok RX8 yX8_point cX8_point 5 (some .double) 3 := ⟨qK_X8_point, qI_X8_point, qSel_X8_X8_point, qInit_X8, by decide +kernel⟩
set_option maxHeartbeats 4000000 in
set_option maxRecDepth 100000 in
theorem c_X8_point {l : Launch} {D : va_G} {cy : Nat → ClassId} {ad : Nat → Nat} {P : AS} {wy : Int32} {so : Int32} {w : Int64} {r : UInt64} {ns : Nat → Int32} {nw : Nat → Int64} {nr : Nat → UInt64} {fr : Nat → Int32} {tt : Nat → Int32} {c i sort : Int32} (hw : WF P)  : CX l yX8_point cX8_point 5 (some .double) (rm_ 4 89) D cy 13 ad [.ref (ad 0), .int (c), .int (i), .int (sort)] (mct cy ad P wy so w r ns nw nr fr tt) (mpostD cy ad (sp_point P c i sort)) := by
  refine CX.start (by decide) (Nat.le_of_ble_eq_true rfl) ?_
  intro p_ e_ s m_ below meth cd A ls hC hr hlk hin hK hA hH hl
  obtain ⟨hx, hb, hml, hown, hts⟩ := id hC
  have hS : va_S A s.heap s.heap [] := va_S.rf
  have hl : lv_has ls 5 [(0, .ref (ad 0)), (1, .int (c)), (2, .int (i)), (3, .int (sort))] := hl
  refine lv_aload_n hx hb dX8_point_0 rfl (lv_at hl 0 rfl) ?_
  refine lv_iconst (v := 0) hx hb dX8_point_1 (by decide) ?_
  refine g_put (ct' := mct cy ad P 0 so w r ns nw nr fr tt) hC hK inG8 tyX8 tyX8_ok nmX8 hH hS 0 (by decide) rfl rfl 8 (by decide) qF_X8_48 rfl rfl rfl rfl (Nat.le_of_ble_eq_true rfl) rfl mct_0 dX8_point_2 (fun H locs hH hS => ?_)
  refine lv_iload_n hx hb dX8_point_5 rfl (lv_at hl 1 rfl) ?_
  refine cm_S (As := [.int (c)]) (rest := []) hC (c_X8_isColumn) ms_X8_isColumn qM_X8_102 ⟨⟨rfl, rfl⟩, Nat.le_of_ble_eq_true rfl, Nat.le_of_ble_eq_true rfl⟩ hK hH hS hA hl.1 ⟨Nat.zero_le _, Nat.zero_le _⟩ rfl rfl (Nat.le_of_ble_eq_true rfl) dX8_point_6 (fun H locs hH hS => ?_)
  refine lv_if_eq (tgt := 23) hx hb dX8_point_9 (by decide) (fun c_9 => ?_) (fun c_9 => ?_)
  · have c_9 := b2i_f c_9
    refine lv_aload_n hx hb dX8_point_23 rfl (lv_at hl 0 rfl) ?_
    refine lv_iconst (v := 1) hx hb dX8_point_24 (by decide) ?_
    refine cm_V (As' := [.int (1)]) (rest := []) hC (c_X8_refuse) mv_X8_refuse qM_X8_105 ⟨⟨rfl, rfl⟩, Nat.le_of_ble_eq_true rfl, Nat.le_of_ble_eq_true rfl⟩ hK hH hS hA (hp.recv hK hH (i := 0) (by decide) rfl rfl) hl.1 ⟨Nat.zero_le _, Nat.zero_le _⟩ rfl rfl (Nat.le_of_ble_eq_true rfl) dX8_point_25 (fun H locs hH hS => ?_)
    refine lv_i2d hx hb dX8_point_28 ?_
    exact cx_rd hC hr hlk (mpostD.mk (by simp [sp_point, i2d_0, c_9] <;> rfl)) hH hS dX8_point_29
  · have c_9 := b2i_t c_9
    obtain ⟨j, hj, rfl⟩ := isC_ex c_9
    refine lv_iload_n hx hb dX8_point_12 rfl (lv_at hl 3 rfl) ?_
    refine lv_bipush (v := 6) hx hb dX8_point_13 (by decide) ?_
    refine lv_bipush (v := 7) hx hb dX8_point_15 (by decide) ?_
    refine cm_S (As := [.int (sort), .int (6), .int (7)]) (rest := []) hC (c_X8_isIn) ms_X8_isIn qM_X8_52 ⟨⟨rfl, rfl⟩, Nat.le_of_ble_eq_true rfl, Nat.le_of_ble_eq_true rfl⟩ hK hH hS hA hl.1 ⟨Nat.zero_le _, Nat.zero_le _⟩ rfl rfl (Nat.le_of_ble_eq_true rfl) dX8_point_17 (fun H locs hH hS => ?_)
    refine lv_if_ne (tgt := 30) hx hb dX8_point_20 (by decide) (fun c_20 => ?_) (fun c_20 => ?_)
    · have c_20 := b2i_t c_20
      obtain ⟨k, hk, hk6, rfl⟩ := inR_67 c_20
      refine lv_aload_n hx hb dX8_point_30 rfl (lv_at hl 0 rfl) ?_
      refine lv_iload_n hx hb dX8_point_31 rfl (lv_at hl 1 rfl) ?_
      refine lv_iload_n hx hb dX8_point_32 rfl (lv_at hl 2 rfl) ?_
      refine lv_iload_n hx hb dX8_point_33 rfl (lv_at hl 3 rfl) ?_
      refine cm_V (As' := [.int (nI j), .int (i), .int (nI k)]) (rest := []) hC (c_X8_reasonOfValue hj (by omega) hw) mv_X8_reasonOfValue qM_X8_146 ⟨⟨rfl, rfl⟩, Nat.le_of_ble_eq_true rfl, Nat.le_of_ble_eq_true rfl⟩ hK hH hS hA (hp.recv hK hH (i := 0) (by decide) rfl rfl) hl.1 ⟨Nat.zero_le _, Nat.zero_le _⟩ rfl rfl (Nat.le_of_ble_eq_true rfl) dX8_point_34 (fun H locs hH hS => ?_)
      refine lv_istore (lv' := [(4, .int (nI (rsVal P j i k))), (0, .ref (ad 0)), (1, .int (nI j)), (2, .int (i)), (3, .int (nI k))]) hx hb dX8_point_37 hl (by decide) rfl (fun ls hl => ?_)
      have hb1 := rsVal_le P j i k
      refine lv_iload hx hb dX8_point_39 (lv_at hl 0 rfl) ?_
      refine lv_if_le (tgt := 54) hx hb dX8_point_41 (by decide) (fun c_41 => ?_) (fun c_41 => ?_)
      · have c_41 : (rsVal P j i k) = 0 := by have h9 := nc_le (a := (rsVal P j i k)) (b := 0) (by omega) (by omega) c_41; omega
        refine lv_aload_n hx hb dX8_point_54 rfl (lv_at hl 1 rfl) ?_
        refine g_get hC hK inG8 hH 0 (by decide) rfl rfl 11 (by decide) qF_X8_73 (Or.inl rfl) rfl dX8_point_55 ?_
        exact cx_rd hC hr hlk (mpostD.mk (by simp [sp_point, i2d_0, c_9, cN_c hj, c_20, cN_s hk (by decide), c_41] <;> rfl)) hH hS dX8_point_58
      · have c_41 : ¬ (rsVal P j i k) = 0 := by have h9 := nc_nle (a := (rsVal P j i k)) (b := 0) (by omega) (by omega) c_41; omega
        refine lv_aload_n hx hb dX8_point_44 rfl (lv_at hl 1 rfl) ?_
        refine lv_iload hx hb dX8_point_45 (lv_at hl 0 rfl) ?_
        refine cm_V (As' := [.int (nI (rsVal P j i k))]) (rest := []) hC (c_X8_refuse) mv_X8_refuse qM_X8_105 ⟨⟨rfl, rfl⟩, Nat.le_of_ble_eq_true rfl, Nat.le_of_ble_eq_true rfl⟩ hK hH hS hA (hp.recv hK hH (i := 0) (by decide) rfl rfl) hl.1 ⟨Nat.zero_le _, Nat.zero_le _⟩ rfl rfl (Nat.le_of_ble_eq_true rfl) dX8_point_47 (fun H locs hH hS => ?_)
        refine lv_i2d hx hb dX8_point_50 ?_
        refine lv_goto (tgt := 58) hx hb dX8_point_51 (by decide) ?_
        exact cx_rd hC hr hlk (mpostD.mk (by simp [sp_point, i2d_0, c_9, cN_c hj, c_20, cN_s hk (by decide), c_41] <;> rfl)) hH hS dX8_point_58
    · have c_20 := b2i_f c_20
      refine lv_aload_n hx hb dX8_point_23 rfl (lv_at hl 0 rfl) ?_
      refine lv_iconst (v := 1) hx hb dX8_point_24 (by decide) ?_
      refine cm_V (As' := [.int (1)]) (rest := []) hC (c_X8_refuse) mv_X8_refuse qM_X8_105 ⟨⟨rfl, rfl⟩, Nat.le_of_ble_eq_true rfl, Nat.le_of_ble_eq_true rfl⟩ hK hH hS hA (hp.recv hK hH (i := 0) (by decide) rfl rfl) hl.1 ⟨Nat.zero_le _, Nat.zero_le _⟩ rfl rfl (Nat.le_of_ble_eq_true rfl) dX8_point_25 (fun H locs hH hS => ?_)
      refine lv_i2d hx hb dX8_point_28 ?_
      exact cx_rd hC hr hlk (mpostD.mk (by simp [sp_point, i2d_0, c_9, cN_c hj, c_20] <;> rfl)) hH hS dX8_point_29
theorem mv_X8_kindOf : mvok RX8 yX8_kindOf cX8_kindOf 3 (some .int) 1 := ⟨qK_X8_kindOf, qI_X8_kindOf, qSel_X8_X8_kindOf, qInit_X8, by decide +kernel⟩
set_option maxHeartbeats 4000000 in
set_option maxRecDepth 100000 in
theorem c_X8_kindOf {l : Launch} {D : va_G} {cy : Nat → ClassId} {ad : Nat → Nat} {P : AS} {wy : Int32} {so : Int32} {w : Int64} {r : UInt64} {ns : Nat → Int32} {nw : Nat → Int64} {nr : Nat → UInt64} {fr : Nat → Int32} {tt : Nat → Int32} {q : Nat} (hq : q ≤ 513) (hw : WF P) : CM l yX8_kindOf cX8_kindOf 3 (some .int) (rm_ 0 0) D cy 13 ad [.ref (ad 0), .long (lN q)] (mct cy ad P wy so w r ns nw nr fr tt) (some (.int (kOf P q))) (mct cy ad P wy so w r ns nw nr fr tt) := by
  refine CM.start (by decide) (Nat.le_of_ble_eq_true rfl) ?_
  intro p_ e_ s m_ below meth cd A ls hC hr hlk hin hK hA hH hl
  obtain ⟨hx, hb, hml, hown, hts⟩ := id hC
  have hS : va_S A s.heap s.heap [] := va_S.rf
  have hl : lv_has ls 3 [(0, .ref (ad 0)), (1, .long (lN q))] := hl
  rcases co_cases q with rfl | ⟨x, rfl⟩
  · refine lv_lload_n hx hb dX8_kindOf_0 rfl (lv_at hl 1 rfl) ?_
    refine lv_lconst (v := 0) hx hb dX8_kindOf_1 (by decide) ?_
    refine W.lcmp hx hb dX8_kindOf_2 ?_
    refine lv_if_ne (tgt := 10) hx hb dX8_kindOf_3 (by decide) (fun c_3 => absurd c_3 (by decide)) (fun c_3 => ?_)
    refine lv_iconst (v := (-1)) hx hb dX8_kindOf_6 (by decide) ?_
    refine lv_goto (tgt := 19) hx hb dX8_kindOf_7 (by decide) ?_
    exact cm_ri hC hr hlk (rfl) (rfl) hH hS dX8_kindOf_19
  · refine lv_lload_n hx hb dX8_kindOf_0 rfl (lv_at hl 1 rfl) ?_
    refine lv_lconst (v := 0) hx hb dX8_kindOf_1 (by decide) ?_
    refine W.lcmp hx hb dX8_kindOf_2 ?_
    refine lv_if_ne (tgt := 10) hx hb dX8_kindOf_3 (by decide) (fun c_3 => ?_) (fun c_3 => absurd (lc_eqT c_3) (fun h => absurd ((lN_z (by omega)).mp h) (by omega)))
    refine lv_aload_n hx hb dX8_kindOf_10 rfl (lv_at hl 0 rfl) ?_
    refine g_get hC hK inG8 hH 0 (by decide) rfl rfl 1 (by decide) qF_X8_13 (Or.inl rfl) rfl dX8_kindOf_11 ?_
    refine lv_lload_n hx hb dX8_kindOf_14 rfl (lv_at hl 1 rfl) ?_
    refine lv_l2i hx hb dX8_kindOf_15 rfl ?_
    refine lv_iconst (v := 1) hx hb dX8_kindOf_16 (by decide) ?_
    refine lv_isub hx hb dX8_kindOf_17 ?_
    have hkx := hw.1 x
    refine lv_chg (y := nI x) (by rw [lN_i, nI_pred]) ?_
    refine gN_iald hC hK hH 2 (by decide) rfl x (by omega) dX8_kindOf_18 ?_
    exact cm_ri hC hr hlk (by unfold kOf; rw [if_neg (by omega)]; rfl) (rfl) hH hS dX8_kindOf_19
theorem mv_X8_what : mvok RX8 yX8_what cX8_what 4 (some .int) 2 := ⟨qK_X8_what, qI_X8_what, qSel_X8_X8_what, qInit_X8, by decide +kernel⟩
set_option maxHeartbeats 4000000 in
set_option maxRecDepth 100000 in
theorem c_X8_what {l : Launch} {D : va_G} {cy : Nat → ClassId} {ad : Nat → Nat} {P : AS} {wy : Int32} {so : Int32} {w : Int64} {r : UInt64} {ns : Nat → Int32} {nw : Nat → Int64} {nr : Nat → UInt64} {fr : Nat → Int32} {tt : Nat → Int32} {c i : Int32} (hw : WF P)  : CX l yX8_what cX8_what 4 (some .int) (rm_ 3 65) D cy 13 ad [.ref (ad 0), .int (c), .int (i)] (mct cy ad P wy so w r ns nw nr fr tt) (mpost cy ad (sp_what P c i)) := by
  refine CX.start (by decide) (Nat.le_of_ble_eq_true rfl) ?_
  intro p_ e_ s m_ below meth cd A ls hC hr hlk hin hK hA hH hl
  obtain ⟨hx, hb, hml, hown, hts⟩ := id hC
  have hS : va_S A s.heap s.heap [] := va_S.rf
  have hl : lv_has ls 4 [(0, .ref (ad 0)), (1, .int (c)), (2, .int (i))] := hl
  refine lv_aload_n hx hb dX8_what_0 rfl (lv_at hl 0 rfl) ?_
  refine lv_iconst (v := 0) hx hb dX8_what_1 (by decide) ?_
  refine g_put (ct' := mct cy ad P 0 so w r ns nw nr fr tt) hC hK inG8 tyX8 tyX8_ok nmX8 hH hS 0 (by decide) rfl rfl 8 (by decide) qF_X8_48 rfl rfl rfl rfl (Nat.le_of_ble_eq_true rfl) rfl mct_0 dX8_what_2 (fun H locs hH hS => ?_)
  refine lv_iload_n hx hb dX8_what_5 rfl (lv_at hl 1 rfl) ?_
  refine cm_S (As := [.int (c)]) (rest := []) hC (c_X8_isColumn) ms_X8_isColumn qM_X8_102 ⟨⟨rfl, rfl⟩, Nat.le_of_ble_eq_true rfl, Nat.le_of_ble_eq_true rfl⟩ hK hH hS hA hl.1 ⟨Nat.zero_le _, Nat.zero_le _⟩ rfl rfl (Nat.le_of_ble_eq_true rfl) dX8_what_6 (fun H locs hH hS => ?_)
  refine lv_if_ne (tgt := 18) hx hb dX8_what_9 (by decide) (fun c_9 => ?_) (fun c_9 => ?_)
  · have c_9 := b2i_t c_9
    obtain ⟨j, hj, rfl⟩ := isC_ex c_9
    refine lv_aload_n hx hb dX8_what_18 rfl (lv_at hl 0 rfl) ?_
    refine lv_iload_n hx hb dX8_what_19 rfl (lv_at hl 1 rfl) ?_
    refine lv_iload_n hx hb dX8_what_20 rfl (lv_at hl 2 rfl) ?_
    refine cm_V (As' := [.int (nI j), .int (i)]) (rest := []) hC (c_X8_reasonOfPlace hj hw) mv_X8_reasonOfPlace qM_X8_120 ⟨⟨rfl, rfl⟩, Nat.le_of_ble_eq_true rfl, Nat.le_of_ble_eq_true rfl⟩ hK hH hS hA (hp.recv hK hH (i := 0) (by decide) rfl rfl) hl.1 ⟨Nat.zero_le _, Nat.zero_le _⟩ rfl rfl (Nat.le_of_ble_eq_true rfl) dX8_what_21 (fun H locs hH hS => ?_)
    refine lv_istore_n (lv' := [(3, .int (nI (rsPl P j i))), (0, .ref (ad 0)), (1, .int (nI j)), (2, .int (i))]) hx hb dX8_what_24 rfl hl (by decide) rfl (fun ls hl => ?_)
    have hb1 := rsPl_le P j i
    refine lv_iload_n hx hb dX8_what_25 rfl (lv_at hl 0 rfl) ?_
    refine lv_if_le (tgt := 35) hx hb dX8_what_26 (by decide) (fun c_26 => ?_) (fun c_26 => ?_)
    · have c_26 : (rsPl P j i) = 0 := by have h9 := nc_le (a := (rsPl P j i)) (b := 0) (by omega) (by omega) c_26; omega
      obtain ⟨t, q, h1j, hkt, hqt, rfl⟩ := rsPl_0 c_26
      have htt : t < 513 := by have := hw.2.2.2.1 j; have := hw.2.2.1; omega
      have hlt := hw.2.1 t
      have hn513 := hw.2.2.1
      refine lv_aload_n hx hb dX8_what_35 rfl (lv_at hl 1 rfl) ?_
      refine lv_aload_n hx hb dX8_what_36 rfl (lv_at hl 1 rfl) ?_
      refine lv_iload_n hx hb dX8_what_37 rfl (lv_at hl 2 rfl) ?_
      refine cm_V (As' := [.int (nI j)]) (rest := [.ref (ad 0)]) hC (c_X8_in1 hj h1j) mv_X8_in qM_X8_56 ⟨⟨rfl, rfl⟩, Nat.le_of_ble_eq_true rfl, Nat.le_of_ble_eq_true rfl⟩ hK hH hS hA (hp.recv hK hH (i := 0) (by decide) rfl rfl) hl.1 ⟨Nat.zero_le _, Nat.zero_le _⟩ rfl rfl (Nat.le_of_ble_eq_true rfl) dX8_what_38 (fun H locs hH hS => ?_)
      refine cm_V (As' := [.int (nI t)]) (rest := []) hC (c_X8_isPlain (by omega) hw) mv_X8_isPlain qM_X8_91 ⟨⟨rfl, rfl⟩, Nat.le_of_ble_eq_true rfl, Nat.le_of_ble_eq_true rfl⟩ hK hH hS hA (hp.recv hK hH (i := 0) (by decide) rfl rfl) hl.1 ⟨Nat.zero_le _, Nat.zero_le _⟩ rfl rfl (Nat.le_of_ble_eq_true rfl) dX8_what_41 (fun H locs hH hS => ?_)
      refine lv_if_eq (tgt := 60) hx hb dX8_what_44 (by decide) (fun c_44 => ?_) (fun c_44 => ?_)
      · have c_44 := b2d_f c_44
        refine lv_aload_n hx hb dX8_what_60 rfl (lv_at hl 1 rfl) ?_
        refine lv_aload_n hx hb dX8_what_61 rfl (lv_at hl 1 rfl) ?_
        refine g_get hC hK inG8 hH 0 (by decide) rfl rfl 4 (by decide) qF_X8_22 (Or.inl rfl) rfl dX8_what_62 ?_
        refine lv_bipush (v := 24) hx hb dX8_what_65 (by decide) ?_
        refine lv_aload_n hx hb dX8_what_67 rfl (lv_at hl 1 rfl) ?_
        refine lv_iload_n hx hb dX8_what_68 rfl (lv_at hl 2 rfl) ?_
        refine cm_V (As' := [.int (nI j)]) (rest := [.int (24), .ref (ad 5), .ref (ad 0)]) hC (c_X8_in1 hj h1j) mv_X8_in qM_X8_56 ⟨⟨rfl, rfl⟩, Nat.le_of_ble_eq_true rfl, Nat.le_of_ble_eq_true rfl⟩ hK hH hS hA (hp.recv hK hH (i := 0) (by decide) rfl rfl) hl.1 ⟨Nat.zero_le _, Nat.zero_le _⟩ rfl rfl (Nat.le_of_ble_eq_true rfl) dX8_what_69 (fun H locs hH hS => ?_)
        refine lv_imul hx hb dX8_what_72 ?_
        refine lv_iload_n hx hb dX8_what_73 rfl (lv_at hl 3 rfl) ?_
        refine lv_iadd hx hb dX8_what_74 ?_
        refine mr_wh hC hK hH t q (by omega) dX8_what_75 ?_
        obtain ⟨x, h9x, h8x⟩ := hw.2.2.2.2 t q (by omega)
        refine lv_chgl (y := lN x) (h9x) ?_
        refine cm_V (As' := [.long (lN x)]) (rest := []) hC (c_X8_kindOf (by omega) hw) mv_X8_kindOf qM_X8_150 ⟨⟨rfl, rfl⟩, Nat.le_of_ble_eq_true rfl, Nat.le_of_ble_eq_true rfl⟩ hK hH hS hA (hp.recv hK hH (i := 0) (by decide) rfl rfl) hl.1 ⟨Nat.zero_le _, Nat.zero_le _⟩ rfl rfl (Nat.le_of_ble_eq_true rfl) dX8_what_76 (fun H locs hH hS => ?_)
        exact cx_ri hC hr hlk (mpost.mk (by simp [sp_what, rf, c_9, cN_c hj, c_26, h1j, cN_p hw hqt, c_44, h9x, lN_clamp (show x < 2 ^ 31 by omega)] <;> rfl)) hH hS dX8_what_79
      · have c_44 := b2d_t c_44
        refine lv_aload_n hx hb dX8_what_47 rfl (lv_at hl 1 rfl) ?_
        refine g_get hC hK inG8 hH 0 (by decide) rfl rfl 1 (by decide) qF_X8_13 (Or.inl rfl) rfl dX8_what_48 ?_
        refine lv_aload_n hx hb dX8_what_51 rfl (lv_at hl 1 rfl) ?_
        refine lv_iload_n hx hb dX8_what_52 rfl (lv_at hl 2 rfl) ?_
        refine cm_V (As' := [.int (nI j)]) (rest := [.ref (ad 2)]) hC (c_X8_in1 hj h1j) mv_X8_in qM_X8_56 ⟨⟨rfl, rfl⟩, Nat.le_of_ble_eq_true rfl, Nat.le_of_ble_eq_true rfl⟩ hK hH hS hA (hp.recv hK hH (i := 0) (by decide) rfl rfl) hl.1 ⟨Nat.zero_le _, Nat.zero_le _⟩ rfl rfl (Nat.le_of_ble_eq_true rfl) dX8_what_53 (fun H locs hH hS => ?_)
        refine gN_iald hC hK hH 2 (by decide) rfl t (by omega) dX8_what_56 ?_
        refine lv_goto (tgt := 79) hx hb dX8_what_57 (by decide) ?_
        exact cx_ri hC hr hlk (mpost.mk (by simp [sp_what, rf, c_9, cN_c hj, c_26, h1j, cN_p hw hqt, c_44] <;> rfl)) hH hS dX8_what_79
    · have c_26 : ¬ (rsPl P j i) = 0 := by have h9 := nc_nle (a := (rsPl P j i)) (b := 0) (by omega) (by omega) c_26; omega
      refine lv_aload_n hx hb dX8_what_29 rfl (lv_at hl 1 rfl) ?_
      refine lv_iload_n hx hb dX8_what_30 rfl (lv_at hl 0 rfl) ?_
      refine cm_V (As' := [.int (nI (rsPl P j i))]) (rest := []) hC (c_X8_refuse) mv_X8_refuse qM_X8_105 ⟨⟨rfl, rfl⟩, Nat.le_of_ble_eq_true rfl, Nat.le_of_ble_eq_true rfl⟩ hK hH hS hA (hp.recv hK hH (i := 0) (by decide) rfl rfl) hl.1 ⟨Nat.zero_le _, Nat.zero_le _⟩ rfl rfl (Nat.le_of_ble_eq_true rfl) dX8_what_31 (fun H locs hH hS => ?_)
      exact cx_ri hC hr hlk (mpost.mk (by simp [sp_what, rf, c_9, cN_c hj, c_26] <;> rfl)) hH hS dX8_what_34
  · have c_9 := b2i_f c_9
    refine lv_aload_n hx hb dX8_what_12 rfl (lv_at hl 0 rfl) ?_
    refine lv_iconst (v := 1) hx hb dX8_what_13 (by decide) ?_
    refine cm_V (As' := [.int (1)]) (rest := []) hC (c_X8_refuse) mv_X8_refuse qM_X8_105 ⟨⟨rfl, rfl⟩, Nat.le_of_ble_eq_true rfl, Nat.le_of_ble_eq_true rfl⟩ hK hH hS hA (hp.recv hK hH (i := 0) (by decide) rfl rfl) hl.1 ⟨Nat.zero_le _, Nat.zero_le _⟩ rfl rfl (Nat.le_of_ble_eq_true rfl) dX8_what_14 (fun H locs hH hS => ?_)
    exact cx_ri hC hr hlk (mpost.mk (by simp [sp_what, rf, c_9] <;> rfl)) hH hS dX8_what_17
theorem mv_X8_take : mvok RX8 yX8_take cX8_take 5 (some .int) 3 := ⟨qK_X8_take, qI_X8_take, qSel_X8_X8_take, qInit_X8, by decide +kernel⟩
set_option maxHeartbeats 4000000 in
set_option maxRecDepth 100000 in
theorem c_X8_take {l : Launch} {D : va_G} {cy : Nat → ClassId} {ad : Nat → Nat} {P : AS} {wy : Int32} {so : Int32} {w : Int64} {r : UInt64} {ns : Nat → Int32} {nw : Nat → Int64} {nr : Nat → UInt64} {fr : Nat → Int32} {tt : Nat → Int32} {c i d : Int32} (hw : WF P)  : CX l yX8_take cX8_take 5 (some .int) (rm_ 2 42) D cy 13 ad [.ref (ad 0), .int (c), .int (i), .int (d)] (mct cy ad P wy so w r ns nw nr fr tt) (mpost cy ad (sp_take P c i d)) := by
  refine CX.start (by decide) (Nat.le_of_ble_eq_true rfl) ?_
  intro p_ e_ s m_ below meth cd A ls hC hr hlk hin hK hA hH hl
  obtain ⟨hx, hb, hml, hown, hts⟩ := id hC
  have hS : va_S A s.heap s.heap [] := va_S.rf
  have hl : lv_has ls 5 [(0, .ref (ad 0)), (1, .int (c)), (2, .int (i)), (3, .int (d))] := hl
  refine lv_aload_n hx hb dX8_take_0 rfl (lv_at hl 0 rfl) ?_
  refine lv_iconst (v := 0) hx hb dX8_take_1 (by decide) ?_
  refine g_put (ct' := mct cy ad P 0 so w r ns nw nr fr tt) hC hK inG8 tyX8 tyX8_ok nmX8 hH hS 0 (by decide) rfl rfl 8 (by decide) qF_X8_48 rfl rfl rfl rfl (Nat.le_of_ble_eq_true rfl) rfl mct_0 dX8_take_2 (fun H locs hH hS => ?_)
  refine lv_iload_n hx hb dX8_take_5 rfl (lv_at hl 1 rfl) ?_
  refine cm_S (As := [.int (c)]) (rest := []) hC (c_X8_isColumn) ms_X8_isColumn qM_X8_102 ⟨⟨rfl, rfl⟩, Nat.le_of_ble_eq_true rfl, Nat.le_of_ble_eq_true rfl⟩ hK hH hS hA hl.1 ⟨Nat.zero_le _, Nat.zero_le _⟩ rfl rfl (Nat.le_of_ble_eq_true rfl) dX8_take_6 (fun H locs hH hS => ?_)
  refine lv_if_eq (tgt := 19) hx hb dX8_take_9 (by decide) (fun c_9 => ?_) (fun c_9 => ?_)
  · have c_9 := b2i_f c_9
    refine lv_aload_n hx hb dX8_take_19 rfl (lv_at hl 0 rfl) ?_
    refine lv_iconst (v := 1) hx hb dX8_take_20 (by decide) ?_
    refine cm_V (As' := [.int (1)]) (rest := []) hC (c_X8_refuse) mv_X8_refuse qM_X8_105 ⟨⟨rfl, rfl⟩, Nat.le_of_ble_eq_true rfl, Nat.le_of_ble_eq_true rfl⟩ hK hH hS hA (hp.recv hK hH (i := 0) (by decide) rfl rfl) hl.1 ⟨Nat.zero_le _, Nat.zero_le _⟩ rfl rfl (Nat.le_of_ble_eq_true rfl) dX8_take_21 (fun H locs hH hS => ?_)
    exact cx_ri hC hr hlk (mpost.mk (by simp [sp_take, rf, c_9] <;> rfl)) hH hS dX8_take_24
  · have c_9 := b2i_t c_9
    obtain ⟨j, hj, rfl⟩ := isC_ex c_9
    refine lv_iload_n hx hb dX8_take_12 rfl (lv_at hl 3 rfl) ?_
    refine cm_S (As := [.int (d)]) (rest := []) hC (c_X8_isColumn) ms_X8_isColumn qM_X8_102 ⟨⟨rfl, rfl⟩, Nat.le_of_ble_eq_true rfl, Nat.le_of_ble_eq_true rfl⟩ hK hH hS hA hl.1 ⟨Nat.zero_le _, Nat.zero_le _⟩ rfl rfl (Nat.le_of_ble_eq_true rfl) dX8_take_13 (fun H locs hH hS => ?_)
    refine lv_if_ne (tgt := 25) hx hb dX8_take_16 (by decide) (fun c_16 => ?_) (fun c_16 => ?_)
    · have c_16 := b2i_t c_16
      obtain ⟨k, hk, rfl⟩ := isC_ex c_16
      refine lv_aload_n hx hb dX8_take_25 rfl (lv_at hl 0 rfl) ?_
      refine lv_iload_n hx hb dX8_take_26 rfl (lv_at hl 1 rfl) ?_
      refine cm_V (As' := [.int (nI j)]) (rest := []) hC (c_X8_reasonOfRow hj hw) mv_X8_reasonOfRow qM_X8_111 ⟨⟨rfl, rfl⟩, Nat.le_of_ble_eq_true rfl, Nat.le_of_ble_eq_true rfl⟩ hK hH hS hA (hp.recv hK hH (i := 0) (by decide) rfl rfl) hl.1 ⟨Nat.zero_le _, Nat.zero_le _⟩ rfl rfl (Nat.le_of_ble_eq_true rfl) dX8_take_27 (fun H locs hH hS => ?_)
      refine lv_istore (lv' := [(4, .int (nI (rsRow P j))), (0, .ref (ad 0)), (1, .int (nI j)), (2, .int (i)), (3, .int (nI k))]) hx hb dX8_take_30 hl (by decide) rfl (fun ls hl => ?_)
      have hb1 := rsRow_le P j
      refine lv_iload hx hb dX8_take_32 (lv_at hl 0 rfl) ?_
      refine lv_if_le (tgt := 44) hx hb dX8_take_34 (by decide) (fun c_34 => ?_) (fun c_34 => ?_)
      · have c_34 : (rsRow P j) = 0 := by have h9 := nc_le (a := (rsRow P j)) (b := 0) (by omega) (by omega) c_34; omega
        obtain ⟨t, h1j, hkt⟩ := rsRow_0 c_34
        have htt : t < 513 := by have := hw.2.2.2.1 j; have := hw.2.2.1; omega
        have hlt := hw.2.1 t
        have hn513 := hw.2.2.1
        refine lv_aload_n hx hb dX8_take_44 rfl (lv_at hl 1 rfl) ?_
        refine lv_aload_n hx hb dX8_take_45 rfl (lv_at hl 1 rfl) ?_
        refine lv_iload_n hx hb dX8_take_46 rfl (lv_at hl 2 rfl) ?_
        refine cm_V (As' := [.int (nI j)]) (rest := [.ref (ad 0)]) hC (c_X8_in1 hj h1j) mv_X8_in qM_X8_56 ⟨⟨rfl, rfl⟩, Nat.le_of_ble_eq_true rfl, Nat.le_of_ble_eq_true rfl⟩ hK hH hS hA (hp.recv hK hH (i := 0) (by decide) rfl rfl) hl.1 ⟨Nat.zero_le _, Nat.zero_le _⟩ rfl rfl (Nat.le_of_ble_eq_true rfl) dX8_take_47 (fun H locs hH hS => ?_)
        refine cm_V (As' := [.int (nI t)]) (rest := []) hC (c_X8_isPlain (by omega) hw) mv_X8_isPlain qM_X8_91 ⟨⟨rfl, rfl⟩, Nat.le_of_ble_eq_true rfl, Nat.le_of_ble_eq_true rfl⟩ hK hH hS hA (hp.recv hK hH (i := 0) (by decide) rfl rfl) hl.1 ⟨Nat.zero_le _, Nat.zero_le _⟩ rfl rfl (Nat.le_of_ble_eq_true rfl) dX8_take_50 (fun H locs hH hS => ?_)
        refine lv_if_eq (tgt := 63) hx hb dX8_take_53 (by decide) (fun c_53 => ?_) (fun c_53 => ?_)
        · have c_53 := b2d_f c_53
          refine lv_aload_n hx hb dX8_take_63 rfl (lv_at hl 1 rfl) ?_
          refine lv_aload_n hx hb dX8_take_64 rfl (lv_at hl 1 rfl) ?_
          refine lv_iload_n hx hb dX8_take_65 rfl (lv_at hl 2 rfl) ?_
          refine cm_V (As' := [.int (nI j)]) (rest := [.ref (ad 0)]) hC (c_X8_in1 hj h1j) mv_X8_in qM_X8_56 ⟨⟨rfl, rfl⟩, Nat.le_of_ble_eq_true rfl, Nat.le_of_ble_eq_true rfl⟩ hK hH hS hA (hp.recv hK hH (i := 0) (by decide) rfl rfl) hl.1 ⟨Nat.zero_le _, Nat.zero_le _⟩ rfl rfl (Nat.le_of_ble_eq_true rfl) dX8_take_66 (fun H locs hH hS => ?_)
          refine lv_iload_n hx hb dX8_take_69 rfl (lv_at hl 3 rfl) ?_
          refine cm_V (As' := [.int (nI t), .int (i)]) (rest := []) hC (c_X8_hasPlace (by omega) hw) mv_X8_hasPlace qM_X8_117 ⟨⟨rfl, rfl⟩, Nat.le_of_ble_eq_true rfl, Nat.le_of_ble_eq_true rfl⟩ hK hH hS hA (hp.recv hK hH (i := 0) (by decide) rfl rfl) hl.1 ⟨Nat.zero_le _, Nat.zero_le _⟩ rfl rfl (Nat.le_of_ble_eq_true rfl) dX8_take_70 (fun H locs hH hS => ?_)
          refine lv_if_ne (tgt := 82) hx hb dX8_take_73 (by decide) (fun c_73 => ?_) (fun c_73 => ?_)
          · have c_73 := b2i_t c_73
            obtain ⟨q, hqt, rfl⟩ := hasP_ex c_73
            refine lv_aload_n hx hb dX8_take_82 rfl (lv_at hl 1 rfl) ?_
            refine g_get hC hK inG8 hH 0 (by decide) rfl rfl 7 (by decide) qF_X8_30 (Or.inl rfl) rfl dX8_take_83 ?_
            refine lv_iload_n hx hb dX8_take_86 rfl (lv_at hl 4 rfl) ?_
            refine lv_aload_n hx hb dX8_take_87 rfl (lv_at hl 1 rfl) ?_
            refine g_get hC hK inG8 hH 0 (by decide) rfl rfl 4 (by decide) qF_X8_22 (Or.inl rfl) rfl dX8_take_88 ?_
            refine lv_bipush (v := 24) hx hb dX8_take_91 (by decide) ?_
            refine lv_aload_n hx hb dX8_take_93 rfl (lv_at hl 1 rfl) ?_
            refine lv_iload_n hx hb dX8_take_94 rfl (lv_at hl 2 rfl) ?_
            refine cm_V (As' := [.int (nI j)]) (rest := [.int (24), .ref (ad 5), .int (nI k), .ref (ad 7)]) hC (c_X8_in1 hj h1j) mv_X8_in qM_X8_56 ⟨⟨rfl, rfl⟩, Nat.le_of_ble_eq_true rfl, Nat.le_of_ble_eq_true rfl⟩ hK hH hS hA (hp.recv hK hH (i := 0) (by decide) rfl rfl) hl.1 ⟨Nat.zero_le _, Nat.zero_le _⟩ rfl rfl (Nat.le_of_ble_eq_true rfl) dX8_take_95 (fun H locs hH hS => ?_)
            refine lv_imul hx hb dX8_take_98 ?_
            refine lv_iload_n hx hb dX8_take_99 rfl (lv_at hl 3 rfl) ?_
            refine lv_iadd hx hb dX8_take_100 ?_
            refine mr_wh hC hK hH t q (by omega) dX8_take_101 ?_
            refine lv_l2i hx hb dX8_take_102 rfl ?_
            obtain ⟨x, h9x, h8x⟩ := hw.2.2.2.2 t q (by omega)
            refine lv_chg (y := nI x) (by rw [h9x, lN_i]) ?_
            refine mr_cos hC hK hH hS k x (by omega) dX8_take_103 (fun H locs hH hS => ?_)
            refine lv_aload_n hx hb dX8_take_104 rfl (lv_at hl 1 rfl) ?_
            refine g_get hC hK inG8 hH 0 (by decide) rfl rfl 7 (by decide) qF_X8_30 (Or.inl rfl) rfl dX8_take_105 ?_
            refine lv_iload_n hx hb dX8_take_108 rfl (lv_at hl 4 rfl) ?_
            refine gN_iald hC hK hH 7 (by decide) rfl k (by omega) dX8_take_109 ?_
            refine lv_chg (y := nI x) (by show nI (va_up _ _ _ _) = _; rw [va_up_self]) ?_
            refine lv_if_le (tgt := 117) hx hb dX8_take_110 (by decide) (fun c_110 => ?_) (fun c_110 => ?_)
            · have c_110 : x = 0 := by have h9 := nc_le (a := x) (b := 0) (by omega) (by omega) c_110; omega
              refine lv_iconst (v := 0) hx hb dX8_take_117 (by decide) ?_
              exact cx_ri hC hr hlk (mpost.mk (by simp [sp_take, rf, c_9, cN_c hj, c_16, cN_c hk, c_34, h1j, c_53, c_73, cN_p hw hqt, c_110, h9x, lN_clamp (show x < 2 ^ 31 by omega), lN_clamp (n := 0) (by decide)] <;> rfl)) hH hS dX8_take_118
            · have c_110 : ¬ x = 0 := by have h9 := nc_nle (a := x) (b := 0) (by omega) (by omega) c_110; omega
              refine lv_iconst (v := 1) hx hb dX8_take_113 (by decide) ?_
              refine lv_goto (tgt := 118) hx hb dX8_take_114 (by decide) ?_
              exact cx_ri hC hr hlk (mpost.mk (by simp [sp_take, rf, c_9, cN_c hj, c_16, cN_c hk, c_34, h1j, c_53, c_73, cN_p hw hqt, c_110, h9x, lN_clamp (show x < 2 ^ 31 by omega), lN_clamp (n := 0) (by decide)] <;> rfl)) hH hS dX8_take_118
          · have c_73 := b2i_f c_73
            refine lv_aload_n hx hb dX8_take_76 rfl (lv_at hl 1 rfl) ?_
            refine lv_iconst (v := 4) hx hb dX8_take_77 (by decide) ?_
            refine cm_V (As' := [.int (4)]) (rest := []) hC (c_X8_refuse) mv_X8_refuse qM_X8_105 ⟨⟨rfl, rfl⟩, Nat.le_of_ble_eq_true rfl, Nat.le_of_ble_eq_true rfl⟩ hK hH hS hA (hp.recv hK hH (i := 0) (by decide) rfl rfl) hl.1 ⟨Nat.zero_le _, Nat.zero_le _⟩ rfl rfl (Nat.le_of_ble_eq_true rfl) dX8_take_78 (fun H locs hH hS => ?_)
            exact cx_ri hC hr hlk (mpost.mk (by simp [sp_take, rf, c_9, cN_c hj, c_16, cN_c hk, c_34, h1j, c_53, c_73] <;> rfl)) hH hS dX8_take_81
        · have c_53 := b2d_t c_53
          refine lv_aload_n hx hb dX8_take_56 rfl (lv_at hl 1 rfl) ?_
          refine lv_bipush (v := 6) hx hb dX8_take_57 (by decide) ?_
          refine cm_V (As' := [.int (6)]) (rest := []) hC (c_X8_refuse) mv_X8_refuse qM_X8_105 ⟨⟨rfl, rfl⟩, Nat.le_of_ble_eq_true rfl, Nat.le_of_ble_eq_true rfl⟩ hK hH hS hA (hp.recv hK hH (i := 0) (by decide) rfl rfl) hl.1 ⟨Nat.zero_le _, Nat.zero_le _⟩ rfl rfl (Nat.le_of_ble_eq_true rfl) dX8_take_59 (fun H locs hH hS => ?_)
          exact cx_ri hC hr hlk (mpost.mk (by simp [sp_take, rf, c_9, cN_c hj, c_16, cN_c hk, c_34, h1j, c_53] <;> rfl)) hH hS dX8_take_62
      · have c_34 : ¬ (rsRow P j) = 0 := by have h9 := nc_nle (a := (rsRow P j)) (b := 0) (by omega) (by omega) c_34; omega
        refine lv_aload_n hx hb dX8_take_37 rfl (lv_at hl 1 rfl) ?_
        refine lv_iload hx hb dX8_take_38 (lv_at hl 0 rfl) ?_
        refine cm_V (As' := [.int (nI (rsRow P j))]) (rest := []) hC (c_X8_refuse) mv_X8_refuse qM_X8_105 ⟨⟨rfl, rfl⟩, Nat.le_of_ble_eq_true rfl, Nat.le_of_ble_eq_true rfl⟩ hK hH hS hA (hp.recv hK hH (i := 0) (by decide) rfl rfl) hl.1 ⟨Nat.zero_le _, Nat.zero_le _⟩ rfl rfl (Nat.le_of_ble_eq_true rfl) dX8_take_40 (fun H locs hH hS => ?_)
        exact cx_ri hC hr hlk (mpost.mk (by simp [sp_take, rf, c_9, cN_c hj, c_16, cN_c hk, c_34] <;> rfl)) hH hS dX8_take_43
    · have c_16 := b2i_f c_16
      refine lv_aload_n hx hb dX8_take_19 rfl (lv_at hl 0 rfl) ?_
      refine lv_iconst (v := 1) hx hb dX8_take_20 (by decide) ?_
      refine cm_V (As' := [.int (1)]) (rest := []) hC (c_X8_refuse) mv_X8_refuse qM_X8_105 ⟨⟨rfl, rfl⟩, Nat.le_of_ble_eq_true rfl, Nat.le_of_ble_eq_true rfl⟩ hK hH hS hA (hp.recv hK hH (i := 0) (by decide) rfl rfl) hl.1 ⟨Nat.zero_le _, Nat.zero_le _⟩ rfl rfl (Nat.le_of_ble_eq_true rfl) dX8_take_21 (fun H locs hH hS => ?_)
      exact cx_ri hC hr hlk (mpost.mk (by simp [sp_take, rf, c_9, cN_c hj, c_16] <;> rfl)) hH hS dX8_take_24
theorem mv_X8_why : mvok RX8 yX8_why cX8_why 1 (some .int) 0 := ⟨qK_X8_why, qI_X8_why, qSel_X8_X8_why, qInit_X8, by decide +kernel⟩
set_option maxHeartbeats 4000000 in
set_option maxRecDepth 100000 in
theorem c_X8_why {l : Launch} {D : va_G} {cy : Nat → ClassId} {ad : Nat → Nat} {P : AS} {wy : Int32} {so : Int32} {w : Int64} {r : UInt64} {ns : Nat → Int32} {nw : Nat → Int64} {nr : Nat → UInt64} {fr : Nat → Int32} {tt : Nat → Int32}   : CM l yX8_why cX8_why 1 (some .int) (rm_ 0 0) D cy 13 ad [.ref (ad 0)] (mct cy ad P wy so w r ns nw nr fr tt) (some (.int (wy))) (mct cy ad P wy so w r ns nw nr fr tt) := by
  refine CM.start (by decide) (Nat.le_of_ble_eq_true rfl) ?_
  intro p_ e_ s m_ below meth cd A ls hC hr hlk hin hK hA hH hl
  obtain ⟨hx, hb, hml, hown, hts⟩ := id hC
  have hS : va_S A s.heap s.heap [] := va_S.rf
  have hl : lv_has ls 1 [(0, .ref (ad 0))] := hl
  refine lv_aload_n hx hb dX8_why_0 rfl (lv_at hl 0 rfl) ?_
  refine g_get hC hK inG8 hH 0 (by decide) rfl rfl 8 (by decide) qF_X8_48 (Or.inl rfl) rfl dX8_why_1 ?_
  exact cm_ri hC hr hlk (rfl) (rfl) hH hS dX8_why_4
end
section
/-! what the calls over whole columns do, place by place -/
def ldI (f v : Nat → Int32) : Nat → Nat → Int32
  | 0 => f
  | k + 1 => upd (ldI f v k) k (v k)
def ldL (f v : Nat → Int64) : Nat → Nat → Int64
  | 0 => f
  | k + 1 => vp_updL (ldL f v k) k (v k)
def ldD (f v : Nat → UInt64) : Nat → Nat → UInt64
  | 0 => f
  | k + 1 => vf_upd (ldD f v k) k (v k)
theorem ldI_at {f v : Nat → Int32} : ∀ {k j : Nat}, j < k → ldI f v k j = v j
  | 0, j, h => absurd h (Nat.not_lt_zero j)
  | k + 1, j, h => by
    show (if j = k then v k else ldI f v k j) = v j
    by_cases e : j = k
    · rw [if_pos e, e]
    · rw [if_neg e]; exact ldI_at (by omega)
theorem ldL_at {f v : Nat → Int64} : ∀ {k j : Nat}, j < k → ldL f v k j = v j
  | 0, j, h => absurd h (Nat.not_lt_zero j)
  | k + 1, j, h => by
    show (if j = k then v k else ldL f v k j) = v j
    by_cases e : j = k
    · rw [if_pos e, e]
    · rw [if_neg e]; exact ldL_at (by omega)
theorem ldD_at {f v : Nat → UInt64} : ∀ {k j : Nat}, j < k → ldD f v k j = v j
  | 0, j, h => absurd h (Nat.not_lt_zero j)
  | k + 1, j, h => by
    show (if j = k then v k else ldD f v k j) = v j
    by_cases e : j = k
    · rw [if_pos e, e]
    · rw [if_neg e]; exact ldD_at (by omega)
theorem hasP_c {P : AS} {t : Nat} {i : Int32} (h : hasP P t i = true) : i = nI (cN i) ∧ cN i < P.ln t := by
  unfold hasP at h
  rw [decide_eq_true_eq] at h
  have hb := Int32.toInt_lt i
  have e : cN i = i.toInt.toNat := rfl
  refine ⟨?_, by rw [e]; omega⟩
  rw [i_eq, nI_toInt (by rw [e]; omega), e]; omega
/-- what place i of thing f is as one of row t -/
def mvV (P : AS) (f t i : Nat) : Int64 × UInt64 := if P.kd f < 8 then wdn (P.kd f) (P.kd t) (P.wh f i) (P.re f i) else (P.wh f i, P.re f i)
/-- the reason at the k-th move -/
def mvr (P : AS) (f t : Nat) (fr tt : Nat → Int32) (k : Nat) : Nat := if hasP P f (fr k) = true ∧ hasP P t (tt k) = true then (if goesI P (P.kd f) (P.wh f (cN (fr k))) t = true then 0 else 5) else 4
/-- the first reason among the first k moves -/
def mvR (P : AS) (f t : Nat) (fr tt : Nat → Int32) : Nat → Nat
  | 0 => 0
  | k + 1 => if mvR P f t fr tt k = 0 then mvr P f t fr tt k else mvR P f t fr tt k
/-- the state behind the first k moves -/
def mvW (P : AS) (f t : Nat) (fr tt : Nat → Int32) : Nat → AS
  | 0 => P
  | k + 1 => (mvW P f t fr tt k).put t (cN (tt k)) (mvV P f t (cN (fr k)))
def sp_move (P : AS) (wy : Int32) (f t : Nat) (fr tt : Nat → Int32) (n : Nat) : Int32 × AS × Int32 := if mvR P f t fr tt n = 0 then (nI n, mvW P f t fr tt n, wy) else rf P (mvR P f t fr tt n)
theorem mvR_mono {P : AS} {f t : Nat} {fr tt : Nat → Int32} {k : Nat} (h : mvR P f t fr tt k ≠ 0) : ∀ {n : Nat}, k ≤ n → mvR P f t fr tt n = mvR P f t fr tt k
  | 0, hn => by rw [show k = 0 by omega]
  | n + 1, hn => by
    by_cases e : k = n + 1
    · rw [e]
    · have ih := mvR_mono h (n := n) (by omega)
      show (if mvR P f t fr tt n = 0 then _ else _) = _
      rw [if_neg (by rw [ih]; exact h), ih]
theorem mvR_le {P : AS} {f t : Nat} {fr tt : Nat → Int32} {k n : Nat} (h : mvR P f t fr tt n = 0) (hk : k ≤ n) : mvR P f t fr tt k = 0 :=
  Classical.byContradiction (fun e => e (by rw [← mvR_mono e hk]; exact h))
theorem mvR_at {P : AS} {f t : Nat} {fr tt : Nat → Int32} {k n : Nat} (h : mvR P f t fr tt n = 0) (hk : k < n) : mvr P f t fr tt k = 0 := by
  have h1 := mvR_le h (k := k + 1) (by omega)
  have h2 := mvR_le h (k := k) (by omega)
  have h3 : (if mvR P f t fr tt k = 0 then mvr P f t fr tt k else mvR P f t fr tt k) = 0 := h1
  rwa [if_pos h2] at h3
theorem mvR_s {P : AS} {f t : Nat} {fr tt : Nat → Int32} {k : Nat} (h : mvR P f t fr tt k = 0) : mvR P f t fr tt (k + 1) = mvr P f t fr tt k := if_pos h
theorem mvr_0 {P : AS} {f t : Nat} {fr tt : Nat → Int32} {k : Nat} (h : mvr P f t fr tt k = 0) : hasP P f (fr k) = true ∧ hasP P t (tt k) = true := by
  unfold mvr at h
  split at h
  · assumption
  · omega
theorem mvR_end {P : AS} {f t : Nat} {fr tt : Nat → Int32} {k n q : Nat} (h : mvR P f t fr tt k = 0) (hk : k < n) (hr : mvr P f t fr tt k = q) (hq : q ≠ 0) : mvR P f t fr tt n = q := by
  have e := mvR_s h
  rw [mvR_mono (k := k + 1) (by rw [e, hr]; exact hq) (by omega), e, hr]
theorem mvW_same (P : AS) (f t : Nat) (fr tt : Nat → Int32) : ∀ k, (mvW P f t fr tt k).n = P.n ∧ (mvW P f t fr tt k).kd = P.kd ∧ (mvW P f t fr tt k).ln = P.ln ∧ (mvW P f t fr tt k).tg = P.tg ∧ (mvW P f t fr tt k).co = P.co
  | 0 => ⟨rfl, rfl, rfl, rfl, rfl⟩
  | k + 1 => by
    obtain ⟨h1, h2, h3, h4, h5⟩ := mvW_same P f t fr tt k
    exact ⟨h1, h2, h3, h4, h5⟩
theorem mvR_congr {P : AS} {f t : Nat} {fr tt fr' tt' : Nat → Int32} : ∀ {n : Nat}, (∀ j, j < n → fr j = fr' j ∧ tt j = tt' j) → mvR P f t fr tt n = mvR P f t fr' tt' n
  | 0, _ => rfl
  | n + 1, h => by
    have e : mvr P f t fr tt n = mvr P f t fr' tt' n := by unfold mvr; rw [(h n (by omega)).1, (h n (by omega)).2]
    show (if _ then _ else _) = (if _ then _ else _)
    rw [mvR_congr (n := n) (fun j hj => h j (by omega)), e]
theorem mvW_congr {P : AS} {f t : Nat} {fr tt fr' tt' : Nat → Int32} : ∀ {n : Nat}, (∀ j, j < n → fr j = fr' j ∧ tt j = tt' j) → mvW P f t fr tt n = mvW P f t fr' tt' n
  | 0, _ => rfl
  | n + 1, h => by
    show (mvW P f t fr tt n).put t (cN (tt n)) _ = (mvW P f t fr' tt' n).put t (cN (tt' n)) _
    rw [mvW_congr (n := n) (fun j hj => h j (by omega)), (h n (by omega)).1, (h n (by omega)).2]
theorem sp_move_congr {P : AS} {wy : Int32} {f t n : Nat} {fr tt fr' tt' : Nat → Int32} (h : ∀ j, j < n → fr j = fr' j ∧ tt j = tt' j) : sp_move P wy f t fr tt n = sp_move P wy f t fr' tt' n := by
  unfold sp_move; rw [mvR_congr h, mvW_congr h]
theorem mvV_t {P : AS} {f t i : Nat} (h : P.kd f < 8) : mvV P f t i = wdn (P.kd f) (P.kd t) (P.wh f i) (P.re f i) := if_pos h
theorem mvV_f {P : AS} {f t i : Nat} (h : ¬ P.kd f < 8) : mvV P f t i = (P.wh f i, P.re f i) := if_neg h
def sp_copy (P : AS) (c d : Int32) : Int32 × AS × Int32 :=
  if isC c = true ∧ isC d = true then (if rsRows P (cN c) (cN d) (cN d) = 0 then (if P.ln (P.co (cN c) - 1) = P.ln (P.co (cN d) - 1) then sp_move P 0 (P.co (cN c) - 1) (P.co (cN d) - 1) (fun k => nI k) (fun k => nI k) (P.ln (P.co (cN c) - 1)) else rf P 4) else rf P (rsRows P (cN c) (cN d) (cN d))) else rf P 1
def tlP (P : AS) (x : Nat) : Bool := decide (P.kd x < 8) && goes (P.kd x) 4
def sp_gather (P : AS) (c x d : Int32) : Int32 × AS × Int32 :=
  if isC c = true ∧ isC x = true ∧ isC d = true then (if rsRows P (cN c) (cN x) (cN d) = 0 then (if tlP P (P.co (cN x) - 1) = true then (if P.ln (P.co (cN x) - 1) = P.ln (P.co (cN d) - 1) then sp_move P 0 (P.co (cN c) - 1) (P.co (cN d) - 1) (fun k => (P.wh (P.co (cN x) - 1) k).toInt32) (fun k => nI k) (P.ln (P.co (cN x) - 1)) else rf P 4) else rf P 6) else rf P (rsRows P (cN c) (cN x) (cN d))) else rf P 1
def sp_scatter (P : AS) (c x d : Int32) : Int32 × AS × Int32 :=
  if isC c = true ∧ isC x = true ∧ isC d = true then (if rsRows P (cN c) (cN x) (cN d) = 0 then (if tlP P (P.co (cN x) - 1) = true then (if P.ln (P.co (cN x) - 1) = P.ln (P.co (cN c) - 1) then sp_move P 0 (P.co (cN c) - 1) (P.co (cN d) - 1) (fun k => nI k) (fun k => (P.wh (P.co (cN x) - 1) k).toInt32) (P.ln (P.co (cN x) - 1)) else rf P 4) else rf P 6) else rf P (rsRows P (cN c) (cN x) (cN d))) else rf P 1
end
section
theorem mv_X8_reasonOfRows : mvok RX8 yX8_reasonOfRows cX8_reasonOfRows 4 (some .int) 3 := ⟨qK_X8_reasonOfRows, qI_X8_reasonOfRows, qSel_X8_X8_reasonOfRows, qInit_X8, by decide +kernel⟩
set_option maxHeartbeats 4000000 in
set_option maxRecDepth 100000 in
theorem c_X8_reasonOfRows {l : Launch} {D : va_G} {cy : Nat → ClassId} {ad : Nat → Nat} {P : AS} {wy : Int32} {so : Int32} {w : Int64} {r : UInt64} {ns : Nat → Int32} {nw : Nat → Int64} {nr : Nat → UInt64} {fr : Nat → Int32} {tt : Nat → Int32} {j k u : Nat} (hj : j < 12) (hk : k < 12) (hu : u < 12) (hw : WF P) : CM l yX8_reasonOfRows cX8_reasonOfRows 4 (some .int) (rm_ 1 21) D cy 13 ad [.ref (ad 0), .int (nI j), .int (nI k), .int (nI u)] (mct cy ad P wy so w r ns nw nr fr tt) (some (.int (nI (rsRows P j k u)))) (mct cy ad P wy so w r ns nw nr fr tt) := by
  refine CM.start (by decide) (Nat.le_of_ble_eq_true rfl) ?_
  intro p_ e_ s m_ below meth cd A ls hC hr hlk hin hK hA hH hl
  obtain ⟨hx, hb, hml, hown, hts⟩ := id hC
  have hS : va_S A s.heap s.heap [] := va_S.rf
  have hl : lv_has ls 4 [(0, .ref (ad 0)), (1, .int (nI j)), (2, .int (nI k)), (3, .int (nI u))] := hl
  rcases co_cases (P.co j) with h0j | ⟨ta, h1j⟩
  · refine lv_aload_n hx hb dX8_reasonOfRows_0 rfl (lv_at hl 0 rfl) ?_
    refine lv_iload_n hx hb dX8_reasonOfRows_1 rfl (lv_at hl 1 rfl) ?_
    refine cm_V (As' := [.int (nI j)]) (rest := []) hC (c_X8_in0 hj h0j) mv_X8_in qM_X8_56 ⟨⟨rfl, rfl⟩, Nat.le_of_ble_eq_true rfl, Nat.le_of_ble_eq_true rfl⟩ hK hH hS hA (hp.recv hK hH (i := 0) (by decide) rfl rfl) hl.1 ⟨Nat.zero_le _, Nat.zero_le _⟩ rfl rfl (Nat.le_of_ble_eq_true rfl) dX8_reasonOfRows_2 (fun H locs hH hS => ?_)
    refine lv_if_lt (tgt := 24) hx hb dX8_reasonOfRows_5 (by decide) (fun c_5 => ?_) (fun c_5 => absurd c_5 (by decide))
    refine lv_iconst (v := 2) hx hb dX8_reasonOfRows_24 (by decide) ?_
    exact cm_ri hC hr hlk (by simp [rsRows, h0j] <;> rfl) (rfl) hH hS dX8_reasonOfRows_25
  · refine lv_aload_n hx hb dX8_reasonOfRows_0 rfl (lv_at hl 0 rfl) ?_
    refine lv_iload_n hx hb dX8_reasonOfRows_1 rfl (lv_at hl 1 rfl) ?_
    have htta : ta < 513 := by have := hw.2.2.2.1 j; have := hw.2.2.1; omega
    refine cm_V (As' := [.int (nI j)]) (rest := []) hC (c_X8_in1 hj h1j) mv_X8_in qM_X8_56 ⟨⟨rfl, rfl⟩, Nat.le_of_ble_eq_true rfl, Nat.le_of_ble_eq_true rfl⟩ hK hH hS hA (hp.recv hK hH (i := 0) (by decide) rfl rfl) hl.1 ⟨Nat.zero_le _, Nat.zero_le _⟩ rfl rfl (Nat.le_of_ble_eq_true rfl) dX8_reasonOfRows_2 (fun H locs hH hS => ?_)
    refine lv_if_lt (tgt := 24) hx hb dX8_reasonOfRows_5 (by decide) (fun c_5 => absurd c_5 (nI_pos (by omega))) (fun c_5 => ?_)
    rcases co_cases (P.co k) with h0k | ⟨tb, h1k⟩
    · refine lv_aload_n hx hb dX8_reasonOfRows_8 rfl (lv_at hl 0 rfl) ?_
      refine lv_iload_n hx hb dX8_reasonOfRows_9 rfl (lv_at hl 2 rfl) ?_
      refine cm_V (As' := [.int (nI k)]) (rest := []) hC (c_X8_in0 hk h0k) mv_X8_in qM_X8_56 ⟨⟨rfl, rfl⟩, Nat.le_of_ble_eq_true rfl, Nat.le_of_ble_eq_true rfl⟩ hK hH hS hA (hp.recv hK hH (i := 0) (by decide) rfl rfl) hl.1 ⟨Nat.zero_le _, Nat.zero_le _⟩ rfl rfl (Nat.le_of_ble_eq_true rfl) dX8_reasonOfRows_10 (fun H locs hH hS => ?_)
      refine lv_if_lt (tgt := 24) hx hb dX8_reasonOfRows_13 (by decide) (fun c_13 => ?_) (fun c_13 => absurd c_13 (by decide))
      refine lv_iconst (v := 2) hx hb dX8_reasonOfRows_24 (by decide) ?_
      exact cm_ri hC hr hlk (by simp [rsRows, h1j, h0k] <;> rfl) (rfl) hH hS dX8_reasonOfRows_25
    · refine lv_aload_n hx hb dX8_reasonOfRows_8 rfl (lv_at hl 0 rfl) ?_
      refine lv_iload_n hx hb dX8_reasonOfRows_9 rfl (lv_at hl 2 rfl) ?_
      have httb : tb < 513 := by have := hw.2.2.2.1 k; have := hw.2.2.1; omega
      refine cm_V (As' := [.int (nI k)]) (rest := []) hC (c_X8_in1 hk h1k) mv_X8_in qM_X8_56 ⟨⟨rfl, rfl⟩, Nat.le_of_ble_eq_true rfl, Nat.le_of_ble_eq_true rfl⟩ hK hH hS hA (hp.recv hK hH (i := 0) (by decide) rfl rfl) hl.1 ⟨Nat.zero_le _, Nat.zero_le _⟩ rfl rfl (Nat.le_of_ble_eq_true rfl) dX8_reasonOfRows_10 (fun H locs hH hS => ?_)
      refine lv_if_lt (tgt := 24) hx hb dX8_reasonOfRows_13 (by decide) (fun c_13 => absurd c_13 (nI_pos (by omega))) (fun c_13 => ?_)
      rcases co_cases (P.co u) with h0u | ⟨tc, h1u⟩
      · refine lv_aload_n hx hb dX8_reasonOfRows_16 rfl (lv_at hl 0 rfl) ?_
        refine lv_iload_n hx hb dX8_reasonOfRows_17 rfl (lv_at hl 3 rfl) ?_
        refine cm_V (As' := [.int (nI u)]) (rest := []) hC (c_X8_in0 hu h0u) mv_X8_in qM_X8_56 ⟨⟨rfl, rfl⟩, Nat.le_of_ble_eq_true rfl, Nat.le_of_ble_eq_true rfl⟩ hK hH hS hA (hp.recv hK hH (i := 0) (by decide) rfl rfl) hl.1 ⟨Nat.zero_le _, Nat.zero_le _⟩ rfl rfl (Nat.le_of_ble_eq_true rfl) dX8_reasonOfRows_18 (fun H locs hH hS => ?_)
        refine lv_if_ge (tgt := 26) hx hb dX8_reasonOfRows_21 (by decide) (fun c_21 => absurd c_21 (by decide)) (fun c_21 => ?_)
        refine lv_iconst (v := 2) hx hb dX8_reasonOfRows_24 (by decide) ?_
        exact cm_ri hC hr hlk (by simp [rsRows, h1j, h1k, h0u] <;> rfl) (rfl) hH hS dX8_reasonOfRows_25
      · refine lv_aload_n hx hb dX8_reasonOfRows_16 rfl (lv_at hl 0 rfl) ?_
        refine lv_iload_n hx hb dX8_reasonOfRows_17 rfl (lv_at hl 3 rfl) ?_
        have httc : tc < 513 := by have := hw.2.2.2.1 u; have := hw.2.2.1; omega
        refine cm_V (As' := [.int (nI u)]) (rest := []) hC (c_X8_in1 hu h1u) mv_X8_in qM_X8_56 ⟨⟨rfl, rfl⟩, Nat.le_of_ble_eq_true rfl, Nat.le_of_ble_eq_true rfl⟩ hK hH hS hA (hp.recv hK hH (i := 0) (by decide) rfl rfl) hl.1 ⟨Nat.zero_le _, Nat.zero_le _⟩ rfl rfl (Nat.le_of_ble_eq_true rfl) dX8_reasonOfRows_18 (fun H locs hH hS => ?_)
        refine lv_if_ge (tgt := 26) hx hb dX8_reasonOfRows_21 (by decide) (fun c_21 => ?_) (fun c_21 => absurd (nI_pos' (by omega)) c_21)
        refine lv_aload_n hx hb dX8_reasonOfRows_26 rfl (lv_at hl 0 rfl) ?_
        refine lv_aload_n hx hb dX8_reasonOfRows_27 rfl (lv_at hl 0 rfl) ?_
        refine lv_iload_n hx hb dX8_reasonOfRows_28 rfl (lv_at hl 1 rfl) ?_
        refine cm_V (As' := [.int (nI j)]) (rest := [.ref (ad 0)]) hC (c_X8_in1 hj h1j) mv_X8_in qM_X8_56 ⟨⟨rfl, rfl⟩, Nat.le_of_ble_eq_true rfl, Nat.le_of_ble_eq_true rfl⟩ hK hH hS hA (hp.recv hK hH (i := 0) (by decide) rfl rfl) hl.1 ⟨Nat.zero_le _, Nat.zero_le _⟩ rfl rfl (Nat.le_of_ble_eq_true rfl) dX8_reasonOfRows_29 (fun H locs hH hS => ?_)
        refine cm_V (As' := [.int (nI ta)]) (rest := []) hC (c_X8_isRow (by omega) hw) mv_X8_isRow qM_X8_60 ⟨⟨rfl, rfl⟩, Nat.le_of_ble_eq_true rfl, Nat.le_of_ble_eq_true rfl⟩ hK hH hS hA (hp.recv hK hH (i := 0) (by decide) rfl rfl) hl.1 ⟨Nat.zero_le _, Nat.zero_le _⟩ rfl rfl (Nat.le_of_ble_eq_true rfl) dX8_reasonOfRows_32 (fun H locs hH hS => ?_)
        refine lv_if_eq (tgt := 66) hx hb dX8_reasonOfRows_35 (by decide) (fun c_35 => ?_) (fun c_35 => ?_)
        · have c_35 := b2d_f c_35
          refine lv_iconst (v := 3) hx hb dX8_reasonOfRows_66 (by decide) ?_
          exact cm_ri hC hr hlk (by simp [rsRows, h1j, h1k, h1u, c_35] <;> rfl) (rfl) hH hS dX8_reasonOfRows_67
        · have c_35 := b2d_t c_35
          refine lv_aload_n hx hb dX8_reasonOfRows_38 rfl (lv_at hl 0 rfl) ?_
          refine lv_aload_n hx hb dX8_reasonOfRows_39 rfl (lv_at hl 0 rfl) ?_
          refine lv_iload_n hx hb dX8_reasonOfRows_40 rfl (lv_at hl 2 rfl) ?_
          refine cm_V (As' := [.int (nI k)]) (rest := [.ref (ad 0)]) hC (c_X8_in1 hk h1k) mv_X8_in qM_X8_56 ⟨⟨rfl, rfl⟩, Nat.le_of_ble_eq_true rfl, Nat.le_of_ble_eq_true rfl⟩ hK hH hS hA (hp.recv hK hH (i := 0) (by decide) rfl rfl) hl.1 ⟨Nat.zero_le _, Nat.zero_le _⟩ rfl rfl (Nat.le_of_ble_eq_true rfl) dX8_reasonOfRows_41 (fun H locs hH hS => ?_)
          refine cm_V (As' := [.int (nI tb)]) (rest := []) hC (c_X8_isRow (by omega) hw) mv_X8_isRow qM_X8_60 ⟨⟨rfl, rfl⟩, Nat.le_of_ble_eq_true rfl, Nat.le_of_ble_eq_true rfl⟩ hK hH hS hA (hp.recv hK hH (i := 0) (by decide) rfl rfl) hl.1 ⟨Nat.zero_le _, Nat.zero_le _⟩ rfl rfl (Nat.le_of_ble_eq_true rfl) dX8_reasonOfRows_44 (fun H locs hH hS => ?_)
          refine lv_if_eq (tgt := 66) hx hb dX8_reasonOfRows_47 (by decide) (fun c_47 => ?_) (fun c_47 => ?_)
          · have c_47 := b2d_f c_47
            refine lv_iconst (v := 3) hx hb dX8_reasonOfRows_66 (by decide) ?_
            exact cm_ri hC hr hlk (by simp [rsRows, h1j, h1k, h1u, c_35, c_47] <;> rfl) (rfl) hH hS dX8_reasonOfRows_67
          · have c_47 := b2d_t c_47
            refine lv_aload_n hx hb dX8_reasonOfRows_50 rfl (lv_at hl 0 rfl) ?_
            refine lv_aload_n hx hb dX8_reasonOfRows_51 rfl (lv_at hl 0 rfl) ?_
            refine lv_iload_n hx hb dX8_reasonOfRows_52 rfl (lv_at hl 3 rfl) ?_
            refine cm_V (As' := [.int (nI u)]) (rest := [.ref (ad 0)]) hC (c_X8_in1 hu h1u) mv_X8_in qM_X8_56 ⟨⟨rfl, rfl⟩, Nat.le_of_ble_eq_true rfl, Nat.le_of_ble_eq_true rfl⟩ hK hH hS hA (hp.recv hK hH (i := 0) (by decide) rfl rfl) hl.1 ⟨Nat.zero_le _, Nat.zero_le _⟩ rfl rfl (Nat.le_of_ble_eq_true rfl) dX8_reasonOfRows_53 (fun H locs hH hS => ?_)
            refine cm_V (As' := [.int (nI tc)]) (rest := []) hC (c_X8_isRow (by omega) hw) mv_X8_isRow qM_X8_60 ⟨⟨rfl, rfl⟩, Nat.le_of_ble_eq_true rfl, Nat.le_of_ble_eq_true rfl⟩ hK hH hS hA (hp.recv hK hH (i := 0) (by decide) rfl rfl) hl.1 ⟨Nat.zero_le _, Nat.zero_le _⟩ rfl rfl (Nat.le_of_ble_eq_true rfl) dX8_reasonOfRows_56 (fun H locs hH hS => ?_)
            refine lv_if_eq (tgt := 66) hx hb dX8_reasonOfRows_59 (by decide) (fun c_59 => ?_) (fun c_59 => ?_)
            · have c_59 := b2d_f c_59
              refine lv_iconst (v := 3) hx hb dX8_reasonOfRows_66 (by decide) ?_
              exact cm_ri hC hr hlk (by simp [rsRows, h1j, h1k, h1u, c_35, c_47, c_59] <;> rfl) (rfl) hH hS dX8_reasonOfRows_67
            · have c_59 := b2d_t c_59
              refine lv_iconst (v := 0) hx hb dX8_reasonOfRows_62 (by decide) ?_
              refine lv_goto (tgt := 67) hx hb dX8_reasonOfRows_63 (by decide) ?_
              exact cm_ri hC hr hlk (by simp [rsRows, h1j, h1k, h1u, c_35, c_47, c_59] <;> rfl) (rfl) hH hS dX8_reasonOfRows_67
theorem mv_X8_tellsPlaces : mvok RX8 yX8_tellsPlaces cX8_tellsPlaces 2 (some .boolean) 1 := ⟨qK_X8_tellsPlaces, qI_X8_tellsPlaces, qSel_X8_X8_tellsPlaces, qInit_X8, by decide +kernel⟩
set_option maxHeartbeats 4000000 in
set_option maxRecDepth 100000 in
theorem c_X8_tellsPlaces {l : Launch} {D : va_G} {cy : Nat → ClassId} {ad : Nat → Nat} {P : AS} {wy : Int32} {so : Int32} {w : Int64} {r : UInt64} {ns : Nat → Int32} {nw : Nat → Int64} {nr : Nat → UInt64} {fr : Nat → Int32} {tt : Nat → Int32} {u : Nat} (hu : u < 513) (hw : WF P) : CM l yX8_tellsPlaces cX8_tellsPlaces 2 (some .boolean) (rm_ 1 22) D cy 13 ad [.ref (ad 0), .int (nI u)] (mct cy ad P wy so w r ns nw nr fr tt) (some (.int (b2i (tlP P u)))) (mct cy ad P wy so w r ns nw nr fr tt) := by
  refine CM.start (by decide) (Nat.le_of_ble_eq_true rfl) ?_
  intro p_ e_ s m_ below meth cd A ls hC hr hlk hin hK hA hH hl
  obtain ⟨hx, hb, hml, hown, hts⟩ := id hC
  have hS : va_S A s.heap s.heap [] := va_S.rf
  have hl : lv_has ls 2 [(0, .ref (ad 0)), (1, .int (nI u))] := hl
  refine lv_aload_n hx hb dX8_tellsPlaces_0 rfl (lv_at hl 0 rfl) ?_
  refine lv_iload_n hx hb dX8_tellsPlaces_1 rfl (lv_at hl 1 rfl) ?_
  refine cm_V (As' := [.int (nI u)]) (rest := []) hC (c_X8_isPlain (by omega) hw) mv_X8_isPlain qM_X8_91 ⟨⟨rfl, rfl⟩, Nat.le_of_ble_eq_true rfl, Nat.le_of_ble_eq_true rfl⟩ hK hH hS hA (hp.recv hK hH (i := 0) (by decide) rfl rfl) hl.1 ⟨Nat.zero_le _, Nat.zero_le _⟩ rfl rfl (Nat.le_of_ble_eq_true rfl) dX8_tellsPlaces_2 (fun H locs hH hS => ?_)
  refine lv_if_eq (tgt := 26) hx hb dX8_tellsPlaces_5 (by decide) (fun c_5 => ?_) (fun c_5 => ?_)
  · have c_5 := b2d_f c_5
    refine lv_iconst (v := 0) hx hb dX8_tellsPlaces_26 (by decide) ?_
    exact cm_rz hC hr hlk (by first | exact Or.inl rfl | exact Or.inr rfl | exact b2i_01 _) (by simp [tlP, b2i, c_5]) (rfl) hH hS dX8_tellsPlaces_27
  · have c_5 := b2d_t c_5
    refine lv_aload_n hx hb dX8_tellsPlaces_8 rfl (lv_at hl 0 rfl) ?_
    refine lv_aload_n hx hb dX8_tellsPlaces_9 rfl (lv_at hl 0 rfl) ?_
    refine g_get hC hK inG8 hH 0 (by decide) rfl rfl 1 (by decide) qF_X8_13 (Or.inl rfl) rfl dX8_tellsPlaces_10 ?_
    refine lv_iload_n hx hb dX8_tellsPlaces_13 rfl (lv_at hl 1 rfl) ?_
    refine gN_iald hC hK hH 2 (by decide) rfl u (by omega) dX8_tellsPlaces_14 ?_
    refine lv_iconst (v := 4) hx hb dX8_tellsPlaces_15 (by decide) ?_
    refine cm_V (As' := [.int (nI (P.kd u)), .int (4)]) (rest := []) hC (c_X8_goesInto (a := (P.kd u)) (b := 4) (by omega) (by omega)) mv_X8_goesInto qM_X8_94 ⟨⟨rfl, rfl⟩, Nat.le_of_ble_eq_true rfl, Nat.le_of_ble_eq_true rfl⟩ hK hH hS hA (hp.recv hK hH (i := 0) (by decide) rfl rfl) hl.1 ⟨Nat.zero_le _, Nat.zero_le _⟩ rfl rfl (Nat.le_of_ble_eq_true rfl) dX8_tellsPlaces_16 (fun H locs hH hS => ?_)
    refine lv_if_eq (tgt := 26) hx hb dX8_tellsPlaces_19 (by decide) (fun c_19 => ?_) (fun c_19 => ?_)
    · have c_19 := b2i_f c_19
      refine lv_iconst (v := 0) hx hb dX8_tellsPlaces_26 (by decide) ?_
      exact cm_rz hC hr hlk (by first | exact Or.inl rfl | exact Or.inr rfl | exact b2i_01 _) (by simp [tlP, b2i, c_5, c_19]) (rfl) hH hS dX8_tellsPlaces_27
    · have c_19 := b2i_t c_19
      refine lv_iconst (v := 1) hx hb dX8_tellsPlaces_22 (by decide) ?_
      refine lv_goto (tgt := 27) hx hb dX8_tellsPlaces_23 (by decide) ?_
      exact cm_rz hC hr hlk (by first | exact Or.inl rfl | exact Or.inr rfl | exact b2i_01 _) (by simp [tlP, b2i, c_5, c_19]) (rfl) hH hS dX8_tellsPlaces_27
theorem mv_X8_carry : mvok RX8 yX8_carry cX8_carry 5 (some .int) 3 := ⟨qK_X8_carry, qI_X8_carry, qSel_X8_X8_carry, qInit_X8, by decide +kernel⟩
set_option maxHeartbeats 4000000 in
set_option maxRecDepth 100000 in
theorem c_X8_carry {l : Launch} {D : va_G} {cy : Nat → ClassId} {ad : Nat → Nat} {P : AS} {wy : Int32} {so : Int32} {w : Int64} {r : UInt64} {ns : Nat → Int32} {nw : Nat → Int64} {nr : Nat → UInt64} {fr : Nat → Int32} {tt : Nat → Int32} {f t N : Nat} (hf : f < 513) (ht : t < 513) (hfr : P.kd f < 12) (htr : P.kd t < 12) (hN : N ≤ 24) (hw : WF P) : CX l yX8_carry cX8_carry 5 (some .int) (rm_ 2 46) D cy 13 ad [.ref (ad 0), .int (nI f), .int (nI t), .int (nI N)] (mct cy ad P wy so w r ns nw nr fr tt) (mpost cy ad (sp_move P wy f t fr tt N)) := by
  have hlf := hw.2.1 f
  have hlt := hw.2.1 t
  refine CX.startQ (by decide) (Nat.le_of_ble_eq_true rfl) ?_
  intro p_ e_ s m_ args_ below meth cd A ls Q hQ hC hr hlk hK hA hH hl
  obtain ⟨hx, hb, hml, hown, hts⟩ := id hC
  have hS : va_S A s.heap s.heap [] := va_S.rf
  have hl : lv_has ls 5 [(0, .ref (ad 0)), (1, .int (nI f)), (2, .int (nI t)), (3, .int (nI N))] := hl
  refine lv_iconst (v := 0) hx hb dX8_carry_0 (by decide) ?_
  refine lv_istore (lv' := [(4, .int (0)), (0, .ref (ad 0)), (1, .int (nI f)), (2, .int (nI t)), (3, .int (nI N))]) hx hb dX8_carry_1 hl (by decide) rfl (fun ls hl => ?_)
  have lp1 : ∀ (n9 k : Nat), k ≤ N → N < k + n9 → ∀ (so : Int32) (w : Int64) (r : UInt64) (hz : mvR P f t fr tt k = 0) (H : Heap) (locs : List Loc), hp D A 13 ad (mct cy ad P wy so w r ns (ldL nw (fun j => (mvV P f t (cN (fr j))).1) k) (ldD nr (fun j => (mvV P f t (cN (fr j))).2) k) fr tt) H → va_S A s.heap H locs → ∀ (ls : Array Slot), lv_has ls 5 [(4, .int (nI k)), (0, .ref (ad 0)), (1, .int (nI f)), (2, .int (nI t)), (3, .int (nI N))] → W p_ l e_ (rm_ 2 46) s m_ args_ below meth cd H locs 0 0 Q (F0 m_ 3 ls []) := by
    intro n9
    induction n9 with
    | zero => intro k h1 h2; omega
    | succ n9 ih =>
      intro k hk1 hk2 so w r hz H locs hH hS ls hl
      refine lv_iload hx hb dX8_carry_3 (lv_at hl 0 rfl) ?_
      refine lv_iload_n hx hb dX8_carry_5 rfl (lv_at hl 4 rfl) ?_
      refine lv_icmp_ge (tgt := 118) hx hb dX8_carry_6 (by decide) (fun c_6 => ?_) (fun c_6 => ?_)
      · have c_6 := nc_le (a := N) (b := k) (by omega) (by omega) c_6
        have hz9 : mvR P f t fr tt N = 0 := by rw [show N = k by omega]; exact hz
        refine lv_iconst (v := 0) hx hb dX8_carry_118 (by decide) ?_
        refine lv_istore (lv' := [(4, .int (0)), (0, .ref (ad 0)), (1, .int (nI f)), (2, .int (nI t)), (3, .int (nI N))]) hx hb dX8_carry_119 hl (by decide) rfl (fun ls hl => ?_)
        have lp2 : ∀ (n9 i2 : Nat), i2 ≤ N → N < i2 + n9 → ∀   (H : Heap) (locs : List Loc), hp D A 13 ad (mct cy ad (mvW P f t fr tt i2) wy so w r ns (ldL nw (fun j => (mvV P f t (cN (fr j))).1) k) (ldD nr (fun j => (mvV P f t (cN (fr j))).2) k) fr tt) H → va_S A s.heap H locs → ∀ (ls : Array Slot), lv_has ls 5 [(4, .int (nI i2)), (0, .ref (ad 0)), (1, .int (nI f)), (2, .int (nI t)), (3, .int (nI N))] → W p_ l e_ (rm_ 2 46) s m_ args_ below meth cd H locs 0 0 Q (F0 m_ 121 ls []) := by
          intro n9
          induction n9 with
          | zero => intro i2 h1 h2; omega
          | succ n9 ih =>
            intro i2 hk1 hk2   H locs hH hS ls hl
            refine lv_iload hx hb dX8_carry_121 (lv_at hl 0 rfl) ?_
            refine lv_iload_n hx hb dX8_carry_123 rfl (lv_at hl 4 rfl) ?_
            refine lv_icmp_ge (tgt := 181) hx hb dX8_carry_124 (by decide) (fun c_124 => ?_) (fun c_124 => ?_)
            · have c_124 := nc_le (a := N) (b := i2) (by omega) (by omega) c_124
              refine lv_iload_n hx hb dX8_carry_181 rfl (lv_at hl 4 rfl) ?_
              subst hQ
              exact cx_ri hC hr hlk (mpost.mk (by unfold sp_move; rw [if_pos hz9, show i2 = N by omega])) hH hS dX8_carry_182
            · have c_124 := nc_nle (a := N) (b := i2) (by omega) (by omega) c_124
              refine lv_aload_n hx hb dX8_carry_127 rfl (lv_at hl 1 rfl) ?_
              refine g_get hC hK inG8 hH 0 (by decide) rfl rfl 4 (by decide) qF_X8_22 (Or.inl rfl) rfl dX8_carry_128 ?_
              refine lv_bipush (v := 24) hx hb dX8_carry_131 (by decide) ?_
              refine lv_iload_n hx hb dX8_carry_133 rfl (lv_at hl 3 rfl) ?_
              refine lv_imul hx hb dX8_carry_134 ?_
              refine lv_aload_n hx hb dX8_carry_135 rfl (lv_at hl 1 rfl) ?_
              refine g_get hC hK inG8 hH 0 (by decide) rfl rfl 16 (by decide) qF_X8_45 (Or.inl rfl) rfl dX8_carry_136 ?_
              refine lv_iload hx hb dX8_carry_139 (lv_at hl 0 rfl) ?_
              refine gN_iald hC hK hH 12 (by decide) rfl i2 (by omega) dX8_carry_141 ?_
              obtain ⟨hg1, hg2⟩ := hasP_c (mvr_0 (mvR_at hz9 (by omega : i2 < N))).2
              refine lv_chg (y := nI (cN (tt i2))) (hg1) ?_
              refine lv_iadd hx hb dX8_carry_142 ?_
              refine lv_aload_n hx hb dX8_carry_143 rfl (lv_at hl 1 rfl) ?_
              refine g_get hC hK inG8 hH 0 (by decide) rfl rfl 13 (by decide) qF_X8_36 (Or.inl rfl) rfl dX8_carry_144 ?_
              refine lv_iload hx hb dX8_carry_147 (lv_at hl 0 rfl) ?_
              refine gN_lald hC hK hH 9 (by decide) rfl i2 (by omega) dX8_carry_149 ?_
              refine lv_chgl (y := (mvV P f t (cN (fr i2))).1) (ldL_at (by omega)) ?_
              refine mr_whs hC hK hH hS t (cN (tt i2)) (by omega) dX8_carry_150 (fun H locs hH hS => ?_)
              refine lv_aload_n hx hb dX8_carry_151 rfl (lv_at hl 1 rfl) ?_
              refine g_get hC hK inG8 hH 0 (by decide) rfl rfl 5 (by decide) qF_X8_26 (Or.inl rfl) rfl dX8_carry_152 ?_
              refine lv_bipush (v := 24) hx hb dX8_carry_155 (by decide) ?_
              refine lv_iload_n hx hb dX8_carry_157 rfl (lv_at hl 3 rfl) ?_
              refine lv_imul hx hb dX8_carry_158 ?_
              refine lv_aload_n hx hb dX8_carry_159 rfl (lv_at hl 1 rfl) ?_
              refine g_get hC hK inG8 hH 0 (by decide) rfl rfl 16 (by decide) qF_X8_45 (Or.inl rfl) rfl dX8_carry_160 ?_
              refine lv_iload hx hb dX8_carry_163 (lv_at hl 0 rfl) ?_
              refine gN_iald hC hK hH 12 (by decide) rfl i2 (by omega) dX8_carry_165 ?_
              refine lv_chg (y := nI (cN (tt i2))) (hg1) ?_
              refine lv_iadd hx hb dX8_carry_166 ?_
              refine lv_aload_n hx hb dX8_carry_167 rfl (lv_at hl 1 rfl) ?_
              refine g_get hC hK inG8 hH 0 (by decide) rfl rfl 14 (by decide) qF_X8_39 (Or.inl rfl) rfl dX8_carry_168 ?_
              refine lv_iload hx hb dX8_carry_171 (lv_at hl 0 rfl) ?_
              refine gN_dald hC hK hH 10 (by decide) rfl i2 (by omega) dX8_carry_173 ?_
              refine lv_chgd (y := (mvV P f t (cN (fr i2))).2) (ldD_at (by omega)) ?_
              refine mr_res hC hK hH hS t (cN (tt i2)) (by omega) dX8_carry_174 (fun H locs hH hS => ?_)
              refine lv_iinc (v := nI (i2 + 1)) (lv' := [(4, .int (nI (i2 + 1))), (0, .ref (ad 0)), (1, .int (nI f)), (2, .int (nI t)), (3, .int (nI N))]) hx hb dX8_carry_175 hl (k := 0) rfl (nI_1 _) (by decide) rfl (fun ls hl => ?_)
              refine lv_goto (tgt := 121) hx hb dX8_carry_178 (by decide) ?_
              exact ih (i2 + 1) (by omega) (by omega)   H locs hH hS ls (lv_sub hl [0, 1, 2, 3, 4] rfl)
        exact lp2 (N + 1) 0 (by omega) (by omega)   H locs hH hS ls (lv_sub hl [0, 1, 2, 3, 4] rfl)
      · have c_6 := nc_nle (a := N) (b := k) (by omega) (by omega) c_6
        have hkN : k < N := by omega
        refine lv_aload_n hx hb dX8_carry_9 rfl (lv_at hl 1 rfl) ?_
        refine lv_iload_n hx hb dX8_carry_10 rfl (lv_at hl 2 rfl) ?_
        refine lv_aload_n hx hb dX8_carry_11 rfl (lv_at hl 1 rfl) ?_
        refine g_get hC hK inG8 hH 0 (by decide) rfl rfl 15 (by decide) qF_X8_42 (Or.inl rfl) rfl dX8_carry_12 ?_
        refine lv_iload hx hb dX8_carry_15 (lv_at hl 0 rfl) ?_
        refine gN_iald hC hK hH 11 (by decide) rfl k (by omega) dX8_carry_17 ?_
        refine cm_V (As' := [.int (nI f), .int (fr k)]) (rest := []) hC (c_X8_hasPlace (by omega) hw) mv_X8_hasPlace qM_X8_117 ⟨⟨rfl, rfl⟩, Nat.le_of_ble_eq_true rfl, Nat.le_of_ble_eq_true rfl⟩ hK hH hS hA (hp.recv hK hH (i := 0) (by decide) rfl rfl) hl.1 ⟨Nat.zero_le _, Nat.zero_le _⟩ rfl rfl (Nat.le_of_ble_eq_true rfl) dX8_carry_18 (fun H locs hH hS => ?_)
        refine lv_if_eq (tgt := 39) hx hb dX8_carry_21 (by decide) (fun c_21 => ?_) (fun c_21 => ?_)
        · have c_21 := b2i_f c_21
          refine lv_aload_n hx hb dX8_carry_39 rfl (lv_at hl 1 rfl) ?_
          refine lv_iconst (v := 4) hx hb dX8_carry_40 (by decide) ?_
          refine cm_V (As' := [.int (4)]) (rest := []) hC (c_X8_refuse) mv_X8_refuse qM_X8_105 ⟨⟨rfl, rfl⟩, Nat.le_of_ble_eq_true rfl, Nat.le_of_ble_eq_true rfl⟩ hK hH hS hA (hp.recv hK hH (i := 0) (by decide) rfl rfl) hl.1 ⟨Nat.zero_le _, Nat.zero_le _⟩ rfl rfl (Nat.le_of_ble_eq_true rfl) dX8_carry_41 (fun H locs hH hS => ?_)
          subst hQ
          exact cx_ri hC hr hlk (mpost.mk (by unfold sp_move; rw [mvR_end hz hkN (by unfold mvr; rw [if_neg (by simp [c_21])]) (by decide : (4 : Nat) ≠ 0), if_neg (by decide)]; rfl)) hH hS dX8_carry_44
        · have c_21 := b2i_t c_21
          refine lv_aload_n hx hb dX8_carry_24 rfl (lv_at hl 1 rfl) ?_
          refine lv_iload_n hx hb dX8_carry_25 rfl (lv_at hl 3 rfl) ?_
          refine lv_aload_n hx hb dX8_carry_26 rfl (lv_at hl 1 rfl) ?_
          refine g_get hC hK inG8 hH 0 (by decide) rfl rfl 16 (by decide) qF_X8_45 (Or.inl rfl) rfl dX8_carry_27 ?_
          refine lv_iload hx hb dX8_carry_30 (lv_at hl 0 rfl) ?_
          refine gN_iald hC hK hH 12 (by decide) rfl k (by omega) dX8_carry_32 ?_
          refine cm_V (As' := [.int (nI t), .int (tt k)]) (rest := []) hC (c_X8_hasPlace (by omega) hw) mv_X8_hasPlace qM_X8_117 ⟨⟨rfl, rfl⟩, Nat.le_of_ble_eq_true rfl, Nat.le_of_ble_eq_true rfl⟩ hK hH hS hA (hp.recv hK hH (i := 0) (by decide) rfl rfl) hl.1 ⟨Nat.zero_le _, Nat.zero_le _⟩ rfl rfl (Nat.le_of_ble_eq_true rfl) dX8_carry_33 (fun H locs hH hS => ?_)
          refine lv_if_ne (tgt := 45) hx hb dX8_carry_36 (by decide) (fun c_36 => ?_) (fun c_36 => ?_)
          · have c_36 := b2i_t c_36
            refine lv_aload_n hx hb dX8_carry_45 rfl (lv_at hl 1 rfl) ?_
            refine lv_iload_n hx hb dX8_carry_46 rfl (lv_at hl 2 rfl) ?_
            refine lv_aload_n hx hb dX8_carry_47 rfl (lv_at hl 1 rfl) ?_
            refine g_get hC hK inG8 hH 0 (by decide) rfl rfl 15 (by decide) qF_X8_42 (Or.inl rfl) rfl dX8_carry_48 ?_
            refine lv_iload hx hb dX8_carry_51 (lv_at hl 0 rfl) ?_
            refine gN_iald hC hK hH 11 (by decide) rfl k (by omega) dX8_carry_53 ?_
            obtain ⟨hf1, hf2⟩ := hasP_c c_21
            refine lv_chg (y := nI (cN (fr k))) hf1 ?_
            refine cm_V (As' := [.int (nI f), .int (nI (cN (fr k)))]) (rest := []) hC (c_X8_get (by omega) (by omega)) mv_X8_get qM_X8_143 ⟨⟨rfl, rfl⟩, Nat.le_of_ble_eq_true rfl, Nat.le_of_ble_eq_true rfl⟩ hK hH hS hA (hp.recv hK hH (i := 0) (by decide) rfl rfl) hl.1 ⟨Nat.zero_le _, Nat.zero_le _⟩ rfl rfl (Nat.le_of_ble_eq_true rfl) dX8_carry_54 (fun H locs hH hS => ?_)
            refine lv_aload_n hx hb dX8_carry_57 rfl (lv_at hl 1 rfl) ?_
            refine lv_iload_n hx hb dX8_carry_58 rfl (lv_at hl 3 rfl) ?_
            refine cm_V (As' := [.int (nI t)]) (rest := []) hC (c_X8_goesIn (by omega) (by omega) hw (hw.2.2.2.2 f _) (by omega)) mv_X8_goesIn qM_X8_128 ⟨⟨rfl, rfl⟩, Nat.le_of_ble_eq_true rfl, Nat.le_of_ble_eq_true rfl⟩ hK hH hS hA (hp.recv hK hH (i := 0) (by decide) rfl rfl) hl.1 ⟨Nat.zero_le _, Nat.zero_le _⟩ rfl rfl (Nat.le_of_ble_eq_true rfl) dX8_carry_59 (fun H locs hH hS => ?_)
            refine lv_if_ne (tgt := 71) hx hb dX8_carry_62 (by decide) (fun c_62 => ?_) (fun c_62 => ?_)
            · have c_62 := b2i_t c_62
              refine lv_aload_n hx hb dX8_carry_71 rfl (lv_at hl 1 rfl) ?_
              refine g_get hC hK inG8 hH 0 (by decide) rfl rfl 9 (by decide) qF_X8_66 (Or.inl rfl) rfl dX8_carry_72 ?_
              refine lv_bipush (v := 8) hx hb dX8_carry_75 (by decide) ?_
              refine lv_icmp_ge (tgt := 90) hx hb dX8_carry_77 (by decide) (fun c_77 => ?_) (fun c_77 => ?_)
              · have c_77 := nc_le (a := 8) (b := (P.kd f)) (by omega) (by omega) c_77
                refine lv_aload_n hx hb dX8_carry_90 rfl (lv_at hl 1 rfl) ?_
                refine g_get hC hK inG8 hH 0 (by decide) rfl rfl 13 (by decide) qF_X8_36 (Or.inl rfl) rfl dX8_carry_91 ?_
                refine lv_iload hx hb dX8_carry_94 (lv_at hl 0 rfl) ?_
                refine lv_aload_n hx hb dX8_carry_96 rfl (lv_at hl 1 rfl) ?_
                refine g_get hC hK inG8 hH 0 (by decide) rfl rfl 10 (by decide) qF_X8_69 (Or.inl rfl) rfl dX8_carry_97 ?_
                refine lv_chgl (y := (mvV P f t (cN (fr k))).1) (by rw [mvV_f (by omega)]) ?_
                refine gN_last (ct' := mct cy ad P wy (nI (P.kd f)) (P.wh f (cN (fr k))) (P.re f (cN (fr k))) ns (vp_updL (ldL nw (fun j => (mvV P f t (cN (fr j))).1) k) k ((mvV P f t (cN (fr k))).1)) (ldD nr (fun j => (mvV P f t (cN (fr j))).2) k) fr tt) hC hK hH hS 9 (by decide) rfl k (by omega) rfl mct_9 dX8_carry_100 (fun H locs hH hS => ?_)
                refine lv_aload_n hx hb dX8_carry_101 rfl (lv_at hl 1 rfl) ?_
                refine g_get hC hK inG8 hH 0 (by decide) rfl rfl 14 (by decide) qF_X8_39 (Or.inl rfl) rfl dX8_carry_102 ?_
                refine lv_iload hx hb dX8_carry_105 (lv_at hl 0 rfl) ?_
                refine lv_aload_n hx hb dX8_carry_107 rfl (lv_at hl 1 rfl) ?_
                refine g_get hC hK inG8 hH 0 (by decide) rfl rfl 11 (by decide) qF_X8_73 (Or.inl rfl) rfl dX8_carry_108 ?_
                refine lv_chgd (y := (mvV P f t (cN (fr k))).2) (by rw [mvV_f (by omega)]) ?_
                refine gN_dast (ct' := mct cy ad P wy (nI (P.kd f)) (P.wh f (cN (fr k))) (P.re f (cN (fr k))) ns (vp_updL (ldL nw (fun j => (mvV P f t (cN (fr j))).1) k) k ((mvV P f t (cN (fr k))).1)) (vf_upd (ldD nr (fun j => (mvV P f t (cN (fr j))).2) k) k ((mvV P f t (cN (fr k))).2)) fr tt) hC hK hH hS 10 (by decide) rfl k (by omega) rfl mct_10 dX8_carry_111 (fun H locs hH hS => ?_)
                refine lv_iinc (v := nI (k + 1)) (lv' := [(4, .int (nI (k + 1))), (0, .ref (ad 0)), (1, .int (nI f)), (2, .int (nI t)), (3, .int (nI N))]) hx hb dX8_carry_112 hl (k := 0) rfl (nI_1 _) (by decide) rfl (fun ls hl => ?_)
                refine lv_goto (tgt := 3) hx hb dX8_carry_115 (by decide) ?_
                exact ih (k + 1) (by omega) (by omega) _ _ _ ((mvR_s hz).trans (by unfold mvr; rw [if_pos ⟨c_21, c_36⟩, if_pos c_62])) H locs hH hS ls (lv_sub hl [0, 1, 2, 3, 4] rfl)
              · have c_77 := nc_nle (a := 8) (b := (P.kd f)) (by omega) (by omega) c_77
                refine lv_aload_n hx hb dX8_carry_80 rfl (lv_at hl 1 rfl) ?_
                refine lv_aload_n hx hb dX8_carry_81 rfl (lv_at hl 1 rfl) ?_
                refine g_get hC hK inG8 hH 0 (by decide) rfl rfl 1 (by decide) qF_X8_13 (Or.inl rfl) rfl dX8_carry_82 ?_
                refine lv_iload_n hx hb dX8_carry_85 rfl (lv_at hl 3 rfl) ?_
                refine gN_iald hC hK hH 2 (by decide) rfl t (by omega) dX8_carry_86 ?_
                refine cm_V (As' := [.int (nI (P.kd t))]) (rest := []) hC (c_X8_widen (by omega) (by omega)) mv_X8_widen qM_X8_131 ⟨⟨rfl, rfl⟩, Nat.le_of_ble_eq_true rfl, Nat.le_of_ble_eq_true rfl⟩ hK hH hS hA (hp.recv hK hH (i := 0) (by decide) rfl rfl) hl.1 ⟨Nat.zero_le _, Nat.zero_le _⟩ rfl rfl (Nat.le_of_ble_eq_true rfl) dX8_carry_87 (fun H locs hH hS => ?_)
                refine lv_aload_n hx hb dX8_carry_90 rfl (lv_at hl 1 rfl) ?_
                refine g_get hC hK inG8 hH 0 (by decide) rfl rfl 13 (by decide) qF_X8_36 (Or.inl rfl) rfl dX8_carry_91 ?_
                refine lv_iload hx hb dX8_carry_94 (lv_at hl 0 rfl) ?_
                refine lv_aload_n hx hb dX8_carry_96 rfl (lv_at hl 1 rfl) ?_
                refine g_get hC hK inG8 hH 0 (by decide) rfl rfl 10 (by decide) qF_X8_69 (Or.inl rfl) rfl dX8_carry_97 ?_
                refine lv_chgl (y := (mvV P f t (cN (fr k))).1) (by rw [mvV_t (by omega)]) ?_
                refine gN_last (ct' := mct cy ad P wy (nI (P.kd t)) ((wdn (P.kd f) (P.kd t) (P.wh f (cN (fr k))) (P.re f (cN (fr k)))).1) ((wdn (P.kd f) (P.kd t) (P.wh f (cN (fr k))) (P.re f (cN (fr k)))).2) ns (vp_updL (ldL nw (fun j => (mvV P f t (cN (fr j))).1) k) k ((mvV P f t (cN (fr k))).1)) (ldD nr (fun j => (mvV P f t (cN (fr j))).2) k) fr tt) hC hK hH hS 9 (by decide) rfl k (by omega) rfl mct_9 dX8_carry_100 (fun H locs hH hS => ?_)
                refine lv_aload_n hx hb dX8_carry_101 rfl (lv_at hl 1 rfl) ?_
                refine g_get hC hK inG8 hH 0 (by decide) rfl rfl 14 (by decide) qF_X8_39 (Or.inl rfl) rfl dX8_carry_102 ?_
                refine lv_iload hx hb dX8_carry_105 (lv_at hl 0 rfl) ?_
                refine lv_aload_n hx hb dX8_carry_107 rfl (lv_at hl 1 rfl) ?_
                refine g_get hC hK inG8 hH 0 (by decide) rfl rfl 11 (by decide) qF_X8_73 (Or.inl rfl) rfl dX8_carry_108 ?_
                refine lv_chgd (y := (mvV P f t (cN (fr k))).2) (by rw [mvV_t (by omega)]) ?_
                refine gN_dast (ct' := mct cy ad P wy (nI (P.kd t)) ((wdn (P.kd f) (P.kd t) (P.wh f (cN (fr k))) (P.re f (cN (fr k)))).1) ((wdn (P.kd f) (P.kd t) (P.wh f (cN (fr k))) (P.re f (cN (fr k)))).2) ns (vp_updL (ldL nw (fun j => (mvV P f t (cN (fr j))).1) k) k ((mvV P f t (cN (fr k))).1)) (vf_upd (ldD nr (fun j => (mvV P f t (cN (fr j))).2) k) k ((mvV P f t (cN (fr k))).2)) fr tt) hC hK hH hS 10 (by decide) rfl k (by omega) rfl mct_10 dX8_carry_111 (fun H locs hH hS => ?_)
                refine lv_iinc (v := nI (k + 1)) (lv' := [(4, .int (nI (k + 1))), (0, .ref (ad 0)), (1, .int (nI f)), (2, .int (nI t)), (3, .int (nI N))]) hx hb dX8_carry_112 hl (k := 0) rfl (nI_1 _) (by decide) rfl (fun ls hl => ?_)
                refine lv_goto (tgt := 3) hx hb dX8_carry_115 (by decide) ?_
                exact ih (k + 1) (by omega) (by omega) _ _ _ ((mvR_s hz).trans (by unfold mvr; rw [if_pos ⟨c_21, c_36⟩, if_pos c_62])) H locs hH hS ls (lv_sub hl [0, 1, 2, 3, 4] rfl)
            · have c_62 := b2i_f c_62
              refine lv_aload_n hx hb dX8_carry_65 rfl (lv_at hl 1 rfl) ?_
              refine lv_iconst (v := 5) hx hb dX8_carry_66 (by decide) ?_
              refine cm_V (As' := [.int (5)]) (rest := []) hC (c_X8_refuse) mv_X8_refuse qM_X8_105 ⟨⟨rfl, rfl⟩, Nat.le_of_ble_eq_true rfl, Nat.le_of_ble_eq_true rfl⟩ hK hH hS hA (hp.recv hK hH (i := 0) (by decide) rfl rfl) hl.1 ⟨Nat.zero_le _, Nat.zero_le _⟩ rfl rfl (Nat.le_of_ble_eq_true rfl) dX8_carry_67 (fun H locs hH hS => ?_)
              subst hQ
              exact cx_ri hC hr hlk (mpost.mk (by unfold sp_move; rw [mvR_end hz hkN (by unfold mvr; rw [if_pos ⟨c_21, c_36⟩, if_neg (by simp [c_62])]) (by decide : (5 : Nat) ≠ 0), if_neg (by decide)]; rfl)) hH hS dX8_carry_70
          · have c_36 := b2i_f c_36
            refine lv_aload_n hx hb dX8_carry_39 rfl (lv_at hl 1 rfl) ?_
            refine lv_iconst (v := 4) hx hb dX8_carry_40 (by decide) ?_
            refine cm_V (As' := [.int (4)]) (rest := []) hC (c_X8_refuse) mv_X8_refuse qM_X8_105 ⟨⟨rfl, rfl⟩, Nat.le_of_ble_eq_true rfl, Nat.le_of_ble_eq_true rfl⟩ hK hH hS hA (hp.recv hK hH (i := 0) (by decide) rfl rfl) hl.1 ⟨Nat.zero_le _, Nat.zero_le _⟩ rfl rfl (Nat.le_of_ble_eq_true rfl) dX8_carry_41 (fun H locs hH hS => ?_)
            subst hQ
            exact cx_ri hC hr hlk (mpost.mk (by unfold sp_move; rw [mvR_end hz hkN (by unfold mvr; rw [if_neg (by simp [c_21, c_36])]) (by decide : (4 : Nat) ≠ 0), if_neg (by decide)]; rfl)) hH hS dX8_carry_44
  exact lp1 (N + 1) 0 (by omega) (by omega) _ _ _ (rfl) H locs hH hS ls (lv_sub hl [0, 1, 2, 3, 4] rfl)
end
