section
-- ===== PART A: goes FIRST, ahead of the names: the tables' words, and 'selects' of the private methods out of them =====
/-- a private method of a class that the tables say can be made, by its rows of tables_1 -/
def lw_okq (q : MethodName × Nat) : Prop := (q.1.cls ≠ "java/lang/invoke/MethodHandle" ∧ q.1.cls ≠ "java/lang/invoke/VarHandle") ∧ Cond.instantiable q.1.cls q.2 ∈ tables_1 ∧ Cond.privateMethod q.1 ∈ tables_1 ∧ Cond.instanceMethod q.1 ∈ tables_1
theorem lw_p0 : lw_okq (⟨"ArrayMaker", "stop", "(I)I"⟩, 8) := ⟨⟨by decide +kernel, by decide +kernel⟩, List.mem_of_getElem? (i := 13) (by decide +kernel), List.mem_of_getElem? (i := 159) (by decide +kernel), List.mem_of_getElem? (i := 160) (by decide +kernel)⟩
theorem lw_p1 : lw_okq (⟨"ArrayMaker", "tell", "(II)I"⟩, 8) := ⟨⟨by decide +kernel, by decide +kernel⟩, List.mem_of_getElem? (i := 13) (by decide +kernel), List.mem_of_getElem? (i := 163) (by decide +kernel), List.mem_of_getElem? (i := 164) (by decide +kernel)⟩
theorem lw_p2 : lw_okq (⟨"ArrayMaker", "done", "(I)I"⟩, 8) := ⟨⟨by decide +kernel, by decide +kernel⟩, List.mem_of_getElem? (i := 13) (by decide +kernel), List.mem_of_getElem? (i := 171) (by decide +kernel), List.mem_of_getElem? (i := 172) (by decide +kernel)⟩
theorem lw_p3 : lw_okq (⟨"ArrayMaker", "whyNotMade", "(I)I"⟩, 8) := ⟨⟨by decide +kernel, by decide +kernel⟩, List.mem_of_getElem? (i := 13) (by decide +kernel), List.mem_of_getElem? (i := 184) (by decide +kernel), List.mem_of_getElem? (i := 185) (by decide +kernel)⟩
theorem lw_p4 : lw_okq (⟨"ArrayMaker", "hasRoom", "(II)Z"⟩, 8) := ⟨⟨by decide +kernel, by decide +kernel⟩, List.mem_of_getElem? (i := 13) (by decide +kernel), List.mem_of_getElem? (i := 205) (by decide +kernel), List.mem_of_getElem? (i := 206) (by decide +kernel)⟩
theorem lw_p5 : lw_okq (⟨"ArrayMaker$Store", "growRows", "(I)V"⟩, 6) := ⟨⟨by decide +kernel, by decide +kernel⟩, List.mem_of_getElem? (i := 69) (by decide +kernel), List.mem_of_getElem? (i := 214) (by decide +kernel), List.mem_of_getElem? (i := 215) (by decide +kernel)⟩
theorem lw_p6 : lw_okq (⟨"ArrayMaker$Store", "growCells", "(I)V"⟩, 6) := ⟨⟨by decide +kernel, by decide +kernel⟩, List.mem_of_getElem? (i := 69) (by decide +kernel), List.mem_of_getElem? (i := 237) (by decide +kernel), List.mem_of_getElem? (i := 238) (by decide +kernel)⟩
theorem lw_p7 : lw_okq (⟨"ArrayMaker", "nextArrayIn", "(LArrayMaker$Shape;I)LArrayMaker$MadeArray;"⟩, 8) := ⟨⟨by decide +kernel, by decide +kernel⟩, List.mem_of_getElem? (i := 13) (by decide +kernel), List.mem_of_getElem? (i := 250) (by decide +kernel), List.mem_of_getElem? (i := 251) (by decide +kernel)⟩
theorem lw_p8 : lw_okq (⟨"ArrayMaker", "nextArray", "(I)LArrayMaker$MadeArray;"⟩, 8) := ⟨⟨by decide +kernel, by decide +kernel⟩, List.mem_of_getElem? (i := 13) (by decide +kernel), List.mem_of_getElem? (i := 254) (by decide +kernel), List.mem_of_getElem? (i := 255) (by decide +kernel)⟩
theorem lw_p9 : lw_okq (⟨"ArrayMaker", "addTableRows", "(LArrayMaker$MadeArray;)V"⟩, 8) := ⟨⟨by decide +kernel, by decide +kernel⟩, List.mem_of_getElem? (i := 13) (by decide +kernel), List.mem_of_getElem? (i := 263) (by decide +kernel), List.mem_of_getElem? (i := 264) (by decide +kernel)⟩
theorem lw_p10 : lw_okq (⟨"ArrayMaker", "addOwnRow", "(LArrayMaker$MadeArray;)V"⟩, 8) := ⟨⟨by decide +kernel, by decide +kernel⟩, List.mem_of_getElem? (i := 13) (by decide +kernel), List.mem_of_getElem? (i := 276) (by decide +kernel), List.mem_of_getElem? (i := 277) (by decide +kernel)⟩
theorem lw_p11 : lw_okq (⟨"ArrayMaker", "arrayOf", "(I)LArrayMaker$MadeArray;"⟩, 8) := ⟨⟨by decide +kernel, by decide +kernel⟩, List.mem_of_getElem? (i := 13) (by decide +kernel), List.mem_of_getElem? (i := 288) (by decide +kernel), List.mem_of_getElem? (i := 289) (by decide +kernel)⟩
theorem lw_p12 : lw_okq (⟨"ArrayMaker", "whyNoRow", "(LArrayMaker$MadeArray;)I"⟩, 8) := ⟨⟨by decide +kernel, by decide +kernel⟩, List.mem_of_getElem? (i := 13) (by decide +kernel), List.mem_of_getElem? (i := 292) (by decide +kernel), List.mem_of_getElem? (i := 293) (by decide +kernel)⟩
theorem lw_p13 : lw_okq (⟨"ArrayMaker", "findTurned", "(LArrayMaker$MadeArray;)V"⟩, 8) := ⟨⟨by decide +kernel, by decide +kernel⟩, List.mem_of_getElem? (i := 13) (by decide +kernel), List.mem_of_getElem? (i := 304) (by decide +kernel), List.mem_of_getElem? (i := 305) (by decide +kernel)⟩
theorem lw_p14 : lw_okq (⟨"ArrayMaker", "copySources", "(LArrayMaker$MadeArray;)V"⟩, 8) := ⟨⟨by decide +kernel, by decide +kernel⟩, List.mem_of_getElem? (i := 13) (by decide +kernel), List.mem_of_getElem? (i := 316) (by decide +kernel), List.mem_of_getElem? (i := 317) (by decide +kernel)⟩
theorem lw_p15 : lw_okq (⟨"ArrayMaker", "findCut", "(LArrayMaker$MadeArray;)I"⟩, 8) := ⟨⟨by decide +kernel, by decide +kernel⟩, List.mem_of_getElem? (i := 13) (by decide +kernel), List.mem_of_getElem? (i := 328) (by decide +kernel), List.mem_of_getElem? (i := 329) (by decide +kernel)⟩
def lw_privs_1 : List (MethodName × Nat) := [(⟨"ArrayMaker", "stop", "(I)I"⟩, 8), (⟨"ArrayMaker", "tell", "(II)I"⟩, 8), (⟨"ArrayMaker", "done", "(I)I"⟩, 8), (⟨"ArrayMaker", "whyNotMade", "(I)I"⟩, 8), (⟨"ArrayMaker", "hasRoom", "(II)Z"⟩, 8), (⟨"ArrayMaker$Store", "growRows", "(I)V"⟩, 6), (⟨"ArrayMaker$Store", "growCells", "(I)V"⟩, 6), (⟨"ArrayMaker", "nextArrayIn", "(LArrayMaker$Shape;I)LArrayMaker$MadeArray;"⟩, 8), (⟨"ArrayMaker", "nextArray", "(I)LArrayMaker$MadeArray;"⟩, 8), (⟨"ArrayMaker", "addTableRows", "(LArrayMaker$MadeArray;)V"⟩, 8), (⟨"ArrayMaker", "addOwnRow", "(LArrayMaker$MadeArray;)V"⟩, 8), (⟨"ArrayMaker", "arrayOf", "(I)LArrayMaker$MadeArray;"⟩, 8), (⟨"ArrayMaker", "whyNoRow", "(LArrayMaker$MadeArray;)I"⟩, 8), (⟨"ArrayMaker", "findTurned", "(LArrayMaker$MadeArray;)V"⟩, 8), (⟨"ArrayMaker", "copySources", "(LArrayMaker$MadeArray;)V"⟩, 8), (⟨"ArrayMaker", "findCut", "(LArrayMaker$MadeArray;)I"⟩, 8)]
theorem lw_r1 : ∀ q ∈ lw_privs_1, lw_okq q := List.forall_mem_cons.mpr ⟨lw_p0, List.forall_mem_cons.mpr ⟨lw_p1, List.forall_mem_cons.mpr ⟨lw_p2, List.forall_mem_cons.mpr ⟨lw_p3, List.forall_mem_cons.mpr ⟨lw_p4, List.forall_mem_cons.mpr ⟨lw_p5, List.forall_mem_cons.mpr ⟨lw_p6, List.forall_mem_cons.mpr ⟨lw_p7, List.forall_mem_cons.mpr ⟨lw_p8, List.forall_mem_cons.mpr ⟨lw_p9, List.forall_mem_cons.mpr ⟨lw_p10, List.forall_mem_cons.mpr ⟨lw_p11, List.forall_mem_cons.mpr ⟨lw_p12, List.forall_mem_cons.mpr ⟨lw_p13, List.forall_mem_cons.mpr ⟨lw_p14, List.forall_mem_cons.mpr ⟨lw_p15, fun _ h => absurd h List.not_mem_nil⟩⟩⟩⟩⟩⟩⟩⟩⟩⟩⟩⟩⟩⟩⟩⟩
theorem lw_p16 : lw_okq (⟨"ArrayMaker", "stopBeyond", "(I)I"⟩, 8) := ⟨⟨by decide +kernel, by decide +kernel⟩, List.mem_of_getElem? (i := 13) (by decide +kernel), List.mem_of_getElem? (i := 351) (by decide +kernel), List.mem_of_getElem? (i := 352) (by decide +kernel)⟩
theorem lw_p17 : lw_okq (⟨"ArrayMaker", "whyNotDeep", "(LArrayMaker$MadeArray;)I"⟩, 8) := ⟨⟨by decide +kernel, by decide +kernel⟩, List.mem_of_getElem? (i := 13) (by decide +kernel), List.mem_of_getElem? (i := 359) (by decide +kernel), List.mem_of_getElem? (i := 360) (by decide +kernel)⟩
theorem lw_p18 : lw_okq (⟨"ArrayMaker", "whyNotFlat", "(LArrayMaker$MadeArray;)I"⟩, 8) := ⟨⟨by decide +kernel, by decide +kernel⟩, List.mem_of_getElem? (i := 13) (by decide +kernel), List.mem_of_getElem? (i := 367) (by decide +kernel), List.mem_of_getElem? (i := 368) (by decide +kernel)⟩
theorem lw_p19 : lw_okq (⟨"ArrayMaker", "whyNoTableRow", "(LArrayMaker$MadeArray;I)I"⟩, 8) := ⟨⟨by decide +kernel, by decide +kernel⟩, List.mem_of_getElem? (i := 13) (by decide +kernel), List.mem_of_getElem? (i := 375) (by decide +kernel), List.mem_of_getElem? (i := 376) (by decide +kernel)⟩
theorem lw_p20 : lw_okq (⟨"ArrayMaker", "cellOf", "(LArrayMaker$MadeArray;III)I"⟩, 8) := ⟨⟨by decide +kernel, by decide +kernel⟩, List.mem_of_getElem? (i := 13) (by decide +kernel), List.mem_of_getElem? (i := 393) (by decide +kernel), List.mem_of_getElem? (i := 394) (by decide +kernel)⟩
theorem lw_p21 : lw_okq (⟨"ArrayMaker", "tableCellOf", "(LArrayMaker$MadeArray;II)I"⟩, 8) := ⟨⟨by decide +kernel, by decide +kernel⟩, List.mem_of_getElem? (i := 13) (by decide +kernel), List.mem_of_getElem? (i := 397) (by decide +kernel), List.mem_of_getElem? (i := 398) (by decide +kernel)⟩
theorem lw_p22 : lw_okq (⟨"ArrayMaker", "joinCell", "(IIJI)Z"⟩, 8) := ⟨⟨by decide +kernel, by decide +kernel⟩, List.mem_of_getElem? (i := 13) (by decide +kernel), List.mem_of_getElem? (i := 432) (by decide +kernel), List.mem_of_getElem? (i := 433) (by decide +kernel)⟩
theorem lw_p23 : lw_okq (⟨"ArrayMaker", "whyNotJoined", "(LArrayMaker$MadeArray;LArrayMaker$MadeArray;)I"⟩, 8) := ⟨⟨by decide +kernel, by decide +kernel⟩, List.mem_of_getElem? (i := 13) (by decide +kernel), List.mem_of_getElem? (i := 445) (by decide +kernel), List.mem_of_getElem? (i := 446) (by decide +kernel)⟩
theorem lw_p24 : lw_okq (⟨"ArrayMaker", "itemsOf", "(LArrayMaker$MadeArray;)I"⟩, 8) := ⟨⟨by decide +kernel, by decide +kernel⟩, List.mem_of_getElem? (i := 13) (by decide +kernel), List.mem_of_getElem? (i := 467) (by decide +kernel), List.mem_of_getElem? (i := 468) (by decide +kernel)⟩
theorem lw_p25 : lw_okq (⟨"ArrayMakerModel", "no", "(I)I"⟩, 25) := ⟨⟨by decide +kernel, by decide +kernel⟩, List.mem_of_getElem? (i := 501) (by decide +kernel), List.mem_of_getElem? (i := 596) (by decide +kernel), List.mem_of_getElem? (i := 597) (by decide +kernel)⟩
theorem lw_p26 : lw_okq (⟨"ArrayMakerModel", "yes", "(I)I"⟩, 25) := ⟨⟨by decide +kernel, by decide +kernel⟩, List.mem_of_getElem? (i := 501) (by decide +kernel), List.mem_of_getElem? (i := 600) (by decide +kernel), List.mem_of_getElem? (i := 601) (by decide +kernel)⟩
theorem lw_p27 : lw_okq (⟨"ArrayMakerModel", "shapeItems", "()I"⟩, 25) := ⟨⟨by decide +kernel, by decide +kernel⟩, List.mem_of_getElem? (i := 501) (by decide +kernel), List.mem_of_getElem? (i := 617) (by decide +kernel), List.mem_of_getElem? (i := 618) (by decide +kernel)⟩
theorem lw_p28 : lw_okq (⟨"ArrayMakerModel", "newArray", "(II)I"⟩, 25) := ⟨⟨by decide +kernel, by decide +kernel⟩, List.mem_of_getElem? (i := 501) (by decide +kernel), List.mem_of_getElem? (i := 626) (by decide +kernel), List.mem_of_getElem? (i := 627) (by decide +kernel)⟩
theorem lw_p29 : lw_okq (⟨"ArrayMakerModel", "newTable", "(I)V"⟩, 25) := ⟨⟨by decide +kernel, by decide +kernel⟩, List.mem_of_getElem? (i := 501) (by decide +kernel), List.mem_of_getElem? (i := 630) (by decide +kernel), List.mem_of_getElem? (i := 631) (by decide +kernel)⟩
theorem lw_p30 : lw_okq (⟨"ArrayMakerModel", "lengthOf", "(II)J"⟩, 25) := ⟨⟨by decide +kernel, by decide +kernel⟩, List.mem_of_getElem? (i := 501) (by decide +kernel), List.mem_of_getElem? (i := 634) (by decide +kernel), List.mem_of_getElem? (i := 635) (by decide +kernel)⟩
theorem lw_p31 : lw_okq (⟨"ArrayMakerModel", "newRow", "(I)I"⟩, 25) := ⟨⟨by decide +kernel, by decide +kernel⟩, List.mem_of_getElem? (i := 501) (by decide +kernel), List.mem_of_getElem? (i := 638) (by decide +kernel), List.mem_of_getElem? (i := 639) (by decide +kernel)⟩
def lw_privs_2 : List (MethodName × Nat) := [(⟨"ArrayMaker", "stopBeyond", "(I)I"⟩, 8), (⟨"ArrayMaker", "whyNotDeep", "(LArrayMaker$MadeArray;)I"⟩, 8), (⟨"ArrayMaker", "whyNotFlat", "(LArrayMaker$MadeArray;)I"⟩, 8), (⟨"ArrayMaker", "whyNoTableRow", "(LArrayMaker$MadeArray;I)I"⟩, 8), (⟨"ArrayMaker", "cellOf", "(LArrayMaker$MadeArray;III)I"⟩, 8), (⟨"ArrayMaker", "tableCellOf", "(LArrayMaker$MadeArray;II)I"⟩, 8), (⟨"ArrayMaker", "joinCell", "(IIJI)Z"⟩, 8), (⟨"ArrayMaker", "whyNotJoined", "(LArrayMaker$MadeArray;LArrayMaker$MadeArray;)I"⟩, 8), (⟨"ArrayMaker", "itemsOf", "(LArrayMaker$MadeArray;)I"⟩, 8), (⟨"ArrayMakerModel", "no", "(I)I"⟩, 25), (⟨"ArrayMakerModel", "yes", "(I)I"⟩, 25), (⟨"ArrayMakerModel", "shapeItems", "()I"⟩, 25), (⟨"ArrayMakerModel", "newArray", "(II)I"⟩, 25), (⟨"ArrayMakerModel", "newTable", "(I)V"⟩, 25), (⟨"ArrayMakerModel", "lengthOf", "(II)J"⟩, 25), (⟨"ArrayMakerModel", "newRow", "(I)I"⟩, 25)]
theorem lw_r2 : ∀ q ∈ lw_privs_2, lw_okq q := List.forall_mem_cons.mpr ⟨lw_p16, List.forall_mem_cons.mpr ⟨lw_p17, List.forall_mem_cons.mpr ⟨lw_p18, List.forall_mem_cons.mpr ⟨lw_p19, List.forall_mem_cons.mpr ⟨lw_p20, List.forall_mem_cons.mpr ⟨lw_p21, List.forall_mem_cons.mpr ⟨lw_p22, List.forall_mem_cons.mpr ⟨lw_p23, List.forall_mem_cons.mpr ⟨lw_p24, List.forall_mem_cons.mpr ⟨lw_p25, List.forall_mem_cons.mpr ⟨lw_p26, List.forall_mem_cons.mpr ⟨lw_p27, List.forall_mem_cons.mpr ⟨lw_p28, List.forall_mem_cons.mpr ⟨lw_p29, List.forall_mem_cons.mpr ⟨lw_p30, List.forall_mem_cons.mpr ⟨lw_p31, fun _ h => absurd h List.not_mem_nil⟩⟩⟩⟩⟩⟩⟩⟩⟩⟩⟩⟩⟩⟩⟩⟩
theorem lw_p32 : lw_okq (⟨"ArrayMakerModel", "wants", "(I)I"⟩, 25) := ⟨⟨by decide +kernel, by decide +kernel⟩, List.mem_of_getElem? (i := 501) (by decide +kernel), List.mem_of_getElem? (i := 651) (by decide +kernel), List.mem_of_getElem? (i := 652) (by decide +kernel)⟩
theorem lw_p33 : lw_okq (⟨"ArrayMakerModel", "isArray", "(I)Z"⟩, 25) := ⟨⟨by decide +kernel, by decide +kernel⟩, List.mem_of_getElem? (i := 501) (by decide +kernel), List.mem_of_getElem? (i := 655) (by decide +kernel), List.mem_of_getElem? (i := 656) (by decide +kernel)⟩
theorem lw_p34 : lw_okq (⟨"ArrayMakerModel", "copy", "(II)V"⟩, 25) := ⟨⟨by decide +kernel, by decide +kernel⟩, List.mem_of_getElem? (i := 501) (by decide +kernel), List.mem_of_getElem? (i := 663) (by decide +kernel), List.mem_of_getElem? (i := 664) (by decide +kernel)⟩
theorem lw_p35 : lw_okq (⟨"ArrayMakerModel", "placeOf", "(IIII)I"⟩, 25) := ⟨⟨by decide +kernel, by decide +kernel⟩, List.mem_of_getElem? (i := 501) (by decide +kernel), List.mem_of_getElem? (i := 674) (by decide +kernel), List.mem_of_getElem? (i := 675) (by decide +kernel)⟩
theorem lw_p36 : lw_okq (⟨"ArrayMakerModel", "noItem", "(I)I"⟩, 25) := ⟨⟨by decide +kernel, by decide +kernel⟩, List.mem_of_getElem? (i := 501) (by decide +kernel), List.mem_of_getElem? (i := 678) (by decide +kernel), List.mem_of_getElem? (i := 679) (by decide +kernel)⟩
theorem lw_p37 : lw_okq (⟨"ArrayMakerModel", "tableRows", "(I)I"⟩, 25) := ⟨⟨by decide +kernel, by decide +kernel⟩, List.mem_of_getElem? (i := 501) (by decide +kernel), List.mem_of_getElem? (i := 690) (by decide +kernel), List.mem_of_getElem? (i := 691) (by decide +kernel)⟩
theorem lw_p38 : lw_okq (⟨"ArrayMakerModel", "wantsRow", "(II)I"⟩, 25) := ⟨⟨by decide +kernel, by decide +kernel⟩, List.mem_of_getElem? (i := 501) (by decide +kernel), List.mem_of_getElem? (i := 698) (by decide +kernel), List.mem_of_getElem? (i := 699) (by decide +kernel)⟩
theorem lw_p39 : lw_okq (⟨"ArrayMakerModel", "slotOf", "(II)I"⟩, 25) := ⟨⟨by decide +kernel, by decide +kernel⟩, List.mem_of_getElem? (i := 501) (by decide +kernel), List.mem_of_getElem? (i := 702) (by decide +kernel), List.mem_of_getElem? (i := 703) (by decide +kernel)⟩
theorem lw_p40 : lw_okq (⟨"ArrayMakerModel", "find", "(IIII)I"⟩, 25) := ⟨⟨by decide +kernel, by decide +kernel⟩, List.mem_of_getElem? (i := 501) (by decide +kernel), List.mem_of_getElem? (i := 718) (by decide +kernel), List.mem_of_getElem? (i := 719) (by decide +kernel)⟩
theorem lw_p41 : lw_okq (⟨"ArrayMakerModel", "lay", "(IIJ)V"⟩, 25) := ⟨⟨by decide +kernel, by decide +kernel⟩, List.mem_of_getElem? (i := 501) (by decide +kernel), List.mem_of_getElem? (i := 726) (by decide +kernel), List.mem_of_getElem? (i := 727) (by decide +kernel)⟩
theorem lw_p42 : lw_okq (⟨"ArrayMakerModel", "joins", "(IIIJ)Z"⟩, 25) := ⟨⟨by decide +kernel, by decide +kernel⟩, List.mem_of_getElem? (i := 501) (by decide +kernel), List.mem_of_getElem? (i := 749) (by decide +kernel), List.mem_of_getElem? (i := 750) (by decide +kernel)⟩
theorem lw_p43 : lw_okq (⟨"ArrayMakerModel", "sumOf", "(I)J"⟩, 25) := ⟨⟨by decide +kernel, by decide +kernel⟩, List.mem_of_getElem? (i := 501) (by decide +kernel), List.mem_of_getElem? (i := 762) (by decide +kernel), List.mem_of_getElem? (i := 763) (by decide +kernel)⟩
def lw_privs_3 : List (MethodName × Nat) := [(⟨"ArrayMakerModel", "wants", "(I)I"⟩, 25), (⟨"ArrayMakerModel", "isArray", "(I)Z"⟩, 25), (⟨"ArrayMakerModel", "copy", "(II)V"⟩, 25), (⟨"ArrayMakerModel", "placeOf", "(IIII)I"⟩, 25), (⟨"ArrayMakerModel", "noItem", "(I)I"⟩, 25), (⟨"ArrayMakerModel", "tableRows", "(I)I"⟩, 25), (⟨"ArrayMakerModel", "wantsRow", "(II)I"⟩, 25), (⟨"ArrayMakerModel", "slotOf", "(II)I"⟩, 25), (⟨"ArrayMakerModel", "find", "(IIII)I"⟩, 25), (⟨"ArrayMakerModel", "lay", "(IIJ)V"⟩, 25), (⟨"ArrayMakerModel", "joins", "(IIIJ)Z"⟩, 25), (⟨"ArrayMakerModel", "sumOf", "(I)J"⟩, 25)]
theorem lw_r3 : ∀ q ∈ lw_privs_3, lw_okq q := List.forall_mem_cons.mpr ⟨lw_p32, List.forall_mem_cons.mpr ⟨lw_p33, List.forall_mem_cons.mpr ⟨lw_p34, List.forall_mem_cons.mpr ⟨lw_p35, List.forall_mem_cons.mpr ⟨lw_p36, List.forall_mem_cons.mpr ⟨lw_p37, List.forall_mem_cons.mpr ⟨lw_p38, List.forall_mem_cons.mpr ⟨lw_p39, List.forall_mem_cons.mpr ⟨lw_p40, List.forall_mem_cons.mpr ⟨lw_p41, List.forall_mem_cons.mpr ⟨lw_p42, List.forall_mem_cons.mpr ⟨lw_p43, fun _ h => absurd h List.not_mem_nil⟩⟩⟩⟩⟩⟩⟩⟩⟩⟩⟩⟩
def lw_privs : List (MethodName × Nat) := lw_privs_1 ++ (lw_privs_2 ++ (lw_privs_3))
def lw_tbl : List Cond := k2_sels lw_privs ++ tables_1
theorem lw_privs_ok : ∀ q ∈ lw_privs, lw_okq q := by
  show ∀ q ∈ lw_privs_1 ++ (lw_privs_2 ++ (lw_privs_3)), lw_okq q
  exact List.forall_mem_append.mpr ⟨lw_r1, List.forall_mem_append.mpr ⟨lw_r2, lw_r3⟩⟩
end
section
/-! ===== BEGIN words of one list among another's, by their places ===== -/
theorem goodIn_r {big : List Cond} (ws : List Cond) (ps : List Nat) (hp : ws = ps.filterMap (fun i => big[i]?)) (h : ws.all goodWord = true) : GoodIn big ws := by
  intro w hw
  have h1 := List.all_eq_true.mp h w hw
  rw [hp] at hw
  obtain ⟨i, -, hi⟩ := List.mem_filterMap.mp hw
  have hm : w ∈ big := by first | exact List.mem_of_getElem? hi | exact List.getElem?_mem hi
  exact ⟨hm, good_of_word h1⟩
theorem goodIn_app {big a b : List Cond} (ha : GoodIn big a) (hb : GoodIn big b) : GoodIn big (a ++ b) := fun w h => (List.mem_append.mp h).elim (ha w) (hb w)
theorem goodIn_ca {big a b : List Cond} {c : Cond} (ha : GoodIn big (c :: a)) (hb : GoodIn big b) : GoodIn big (c :: (a ++ b)) := fun w h => (List.mem_cons.mp h).elim (fun e => ha w (List.mem_cons.mpr (Or.inl e))) (fun h => (List.mem_append.mp h).elim (fun h => ha w (List.mem_cons.mpr (Or.inr h))) (hb w))
theorem goodIn_sub {big ws : List Cond} (hm : ∀ w ∈ ws, w ∈ big) (h : ws.all goodWord = true) : GoodIn big ws := fun w hw => ⟨hm w hw, good_of_word (List.all_eq_true.mp h w hw)⟩
/-! ===== END ===== -/

/-! ===== BEGIN printed: names, fields, word lists, decode rows ===== -/
def RX0 : String := "ArrayMaker$Lines"
def TX0 : u_T := fun k => match k with
  | 0 => ("ArrayMaker$Lines", "i", "[I", true)
  | 1 => ("ArrayMaker$Lines", "j", "[I", true)
  | 2 => ("ArrayMaker$Lines", "k", "[I", true)
  | 3 => ("ArrayMaker$Lines", "v", "[J", true)
  | _ => ("ArrayMaker$Lines", "count", "I", false)
def tyX0 : Nat → FieldType := fun k => match k with
  | 0 => .array .int
  | 1 => .array .int
  | 2 => .array .int
  | 3 => .array .long
  | _ => .int
abbrev wsX00 : List Cond := u_ws RX0 TX0 5
theorem nmX0 : ∀ a, a < 5 → ∀ b, b < 5 → a ≠ b → (TX0 a).2.1 ≠ (TX0 b).2.1 := by decide +kernel
theorem tyX0_ok : ∀ k, k < 5 → parseFieldDescriptor (TX0 k).2.2.1 = some (tyX0 k) := by decide +kernel
abbrev cX0_init : ByteArray := prog_2_method_1_code
def yX0_init : MethodName := ⟨RX0, "<init>", "()V"⟩
abbrev cX0_add : ByteArray := prog_2_method_2_code
def yX0_add : MethodName := ⟨RX0, "add", "(IIIJ)V"⟩
def RX1 : String := "ArrayMaker$MadeArray"
def TX1 : u_T := fun k => match k with
  | 0 => ("ArrayMaker$MadeArray", "shape", "LArrayMaker$Shape;", true)
  | 1 => ("ArrayMaker$MadeArray", "kind", "I", false)
  | 2 => ("ArrayMaker$MadeArray", "row", "I", false)
  | _ => ("ArrayMaker$MadeArray", "rows", "[I", false)
def tyX1 : Nat → FieldType := fun k => match k with
  | 0 => .object "ArrayMaker$Shape"
  | 1 => .int
  | 2 => .int
  | _ => .array .int
abbrev wsX10 : List Cond := u_ws RX1 TX1 4
theorem nmX1 : ∀ a, a < 4 → ∀ b, b < 4 → a ≠ b → (TX1 a).2.1 ≠ (TX1 b).2.1 := by decide +kernel
theorem tyX1_ok : ∀ k, k < 4 → parseFieldDescriptor (TX1 k).2.2.1 = some (tyX1 k) := by decide +kernel
abbrev cX1_init : ByteArray := prog_3_method_1_code
def yX1_init : MethodName := ⟨RX1, "<init>", "()V"⟩
abbrev cX1_rowCount : ByteArray := prog_3_method_2_code
def yX1_rowCount : MethodName := ⟨RX1, "rowCount", "()I"⟩
def RX2 : String := "ArrayMaker$Shape"
def TX2 : u_T := fun k => match k with
  | 0 => ("ArrayMaker$Shape", "low", "[I", true)
  | 1 => ("ArrayMaker$Shape", "high", "[I", true)
  | _ => ("ArrayMaker$Shape", "count", "I", false)
def tyX2 : Nat → FieldType := fun k => match k with
  | 0 => .array .int
  | 1 => .array .int
  | _ => .int
abbrev wsX20 : List Cond := u_ws RX2 TX2 3
theorem nmX2 : ∀ a, a < 3 → ∀ b, b < 3 → a ≠ b → (TX2 a).2.1 ≠ (TX2 b).2.1 := by decide +kernel
theorem tyX2_ok : ∀ k, k < 3 → parseFieldDescriptor (TX2 k).2.2.1 = some (tyX2 k) := by decide +kernel
abbrev cX2_init : ByteArray := prog_4_method_1_code
def yX2_init : MethodName := ⟨RX2, "<init>", "()V"⟩
abbrev cX2_add : ByteArray := prog_4_method_2_code
def yX2_add : MethodName := ⟨RX2, "add", "(II)V"⟩
abbrev cX2_addAll : ByteArray := prog_4_method_3_code
def yX2_addAll : MethodName := ⟨RX2, "addAll", "(LArrayMaker$Shape;)V"⟩
abbrev cX2_swapFirstTwo : ByteArray := prog_4_method_4_code
def yX2_swapFirstTwo : MethodName := ⟨RX2, "swapFirstTwo", "()V"⟩
abbrev cX2_length : ByteArray := prog_4_method_5_code
def yX2_length : MethodName := ⟨RX2, "length", "(I)J"⟩
abbrev cX2_items : ByteArray := prog_4_method_6_code
def yX2_items : MethodName := ⟨RX2, "items", "()I"⟩
abbrev cX2_holds : ByteArray := prog_4_method_7_code
def yX2_holds : MethodName := ⟨RX2, "holds", "(II)Z"⟩
abbrev cX2_offset : ByteArray := prog_4_method_8_code
def yX2_offset : MethodName := ⟨RX2, "offset", "(II)I"⟩
abbrev cX2_firstBeyond : ByteArray := prog_4_method_9_code
def yX2_firstBeyond : MethodName := ⟨RX2, "firstBeyond", "(III)I"⟩
abbrev cX2_place : ByteArray := prog_4_method_10_code
def yX2_place : MethodName := ⟨RX2, "place", "(III)I"⟩
abbrev cX2_indexOf : ByteArray := prog_4_method_11_code
def yX2_indexOf : MethodName := ⟨RX2, "indexOf", "(IIII)I"⟩
def RX3 : String := "ArrayMaker$Store"
def TX3 : u_T := fun k => match k with
  | 0 => ("ArrayMaker$Store", "numbers", "[J", false)
  | 1 => ("ArrayMaker$Store", "filled", "[Z", false)
  | 2 => ("ArrayMaker$Store", "starts", "[I", false)
  | 3 => ("ArrayMaker$Store", "lengths", "[I", false)
  | 4 => ("ArrayMaker$Store", "cellCount", "I", false)
  | _ => ("ArrayMaker$Store", "rowCount", "I", false)
def tyX3 : Nat → FieldType := fun k => match k with
  | 0 => .array .long
  | 1 => .array .boolean
  | 2 => .array .int
  | 3 => .array .int
  | 4 => .int
  | _ => .int
abbrev wsX30 : List Cond := u_ws RX3 TX3 6
theorem nmX3 : ∀ a, a < 6 → ∀ b, b < 6 → a ≠ b → (TX3 a).2.1 ≠ (TX3 b).2.1 := by decide +kernel
theorem tyX3_ok : ∀ k, k < 6 → parseFieldDescriptor (TX3 k).2.2.1 = some (tyX3 k) := by decide +kernel
abbrev cX3_init : ByteArray := prog_5_method_1_code
def yX3_init : MethodName := ⟨RX3, "<init>", "()V"⟩
abbrev cX3_reserve : ByteArray := prog_5_method_2_code
def yX3_reserve : MethodName := ⟨RX3, "reserve", "(II)Z"⟩
abbrev cX3_growRows : ByteArray := prog_5_method_3_code
def yX3_growRows : MethodName := ⟨RX3, "growRows", "(I)V"⟩
abbrev cX3_growCells : ByteArray := prog_5_method_4_code
def yX3_growCells : MethodName := ⟨RX3, "growCells", "(I)V"⟩
abbrev cX3_addRow : ByteArray := prog_5_method_5_code
def yX3_addRow : MethodName := ⟨RX3, "addRow", "(IZ)I"⟩
abbrev cX3_forget : ByteArray := prog_5_method_6_code
def yX3_forget : MethodName := ⟨RX3, "forget", "()V"⟩
abbrev cX3_startOf : ByteArray := prog_5_method_7_code
def yX3_startOf : MethodName := ⟨RX3, "startOf", "(I)I"⟩
abbrev cX3_lengthOf : ByteArray := prog_5_method_8_code
def yX3_lengthOf : MethodName := ⟨RX3, "lengthOf", "(I)I"⟩
abbrev cX3_fill : ByteArray := prog_5_method_9_code
def yX3_fill : MethodName := ⟨RX3, "fill", "(IJ)V"⟩
abbrev cX3_drain : ByteArray := prog_5_method_10_code
def yX3_drain : MethodName := ⟨RX3, "drain", "(I)V"⟩
abbrev cX3_copyCells : ByteArray := prog_5_method_11_code
def yX3_copyCells : MethodName := ⟨RX3, "copyCells", "(III)V"⟩
abbrev cX3_totalOf : ByteArray := prog_5_method_12_code
def yX3_totalOf : MethodName := ⟨RX3, "totalOf", "(I)J"⟩
abbrev cX3_orderOf : ByteArray := prog_5_method_13_code
def yX3_orderOf : MethodName := ⟨RX3, "orderOf", "(II)I"⟩
def RX4 : String := "ArrayMaker"
def TX4 : u_T := fun k => match k with
  | 0 => ("ArrayMaker", "shape", "LArrayMaker$Shape;", true)
  | 1 => ("ArrayMaker", "list", "LArrayMaker$Lines;", true)
  | 2 => ("ArrayMaker", "store", "LArrayMaker$Store;", true)
  | 3 => ("ArrayMaker", "arrays", "[LArrayMaker$MadeArray;", true)
  | 4 => ("ArrayMaker", "sources", "[I", true)
  | 5 => ("ArrayMaker", "made", "I", false)
  | 6 => ("ArrayMaker", "code", "I", false)
  | _ => ("ArrayMaker", "which", "I", false)
def tyX4 : Nat → FieldType := fun k => match k with
  | 0 => .object "ArrayMaker$Shape"
  | 1 => .object "ArrayMaker$Lines"
  | 2 => .object "ArrayMaker$Store"
  | 3 => .array (.object "ArrayMaker$MadeArray")
  | 4 => .array .int
  | 5 => .int
  | 6 => .int
  | _ => .int
abbrev wsX40 : List Cond := u_ws RX4 TX4 8
theorem nmX4 : ∀ a, a < 8 → ∀ b, b < 8 → a ≠ b → (TX4 a).2.1 ≠ (TX4 b).2.1 := by decide +kernel
theorem tyX4_ok : ∀ k, k < 8 → parseFieldDescriptor (TX4 k).2.2.1 = some (tyX4 k) := by decide +kernel
abbrev cX4_init : ByteArray := prog_1_method_1_code
def yX4_init : MethodName := ⟨RX4, "<init>", "()V"⟩
abbrev cX4_code : ByteArray := prog_1_method_2_code
def yX4_code : MethodName := ⟨RX4, "code", "()I"⟩
abbrev cX4_which : ByteArray := prog_1_method_3_code
def yX4_which : MethodName := ⟨RX4, "which", "()I"⟩
abbrev cX4_range : ByteArray := prog_1_method_4_code
def yX4_range : MethodName := ⟨RX4, "range", "(II)I"⟩
abbrev cX4_shapeless : ByteArray := prog_1_method_5_code
def yX4_shapeless : MethodName := ⟨RX4, "shapeless", "()I"⟩
abbrev cX4_make : ByteArray := prog_1_method_6_code
def yX4_make : MethodName := ⟨RX4, "make", "(I)I"⟩
abbrev cX4_raw : ByteArray := prog_1_method_7_code
def yX4_raw : MethodName := ⟨RX4, "raw", "(II)I"⟩
abbrev cX4_see : ByteArray := prog_1_method_8_code
def yX4_see : MethodName := ⟨RX4, "see", "(I)I"⟩
abbrev cX4_turn : ByteArray := prog_1_method_9_code
def yX4_turn : MethodName := ⟨RX4, "turn", "(I)I"⟩
abbrev cX4_cut : ByteArray := prog_1_method_10_code
def yX4_cut : MethodName := ⟨RX4, "cut", "(I)I"⟩
abbrev cX4_deep : ByteArray := prog_1_method_11_code
def yX4_deep : MethodName := ⟨RX4, "deep", "(I)I"⟩
abbrev cX4_flat : ByteArray := prog_1_method_12_code
def yX4_flat : MethodName := ⟨RX4, "flat", "(I)I"⟩
abbrev cX4_ragged : ByteArray := prog_1_method_13_code
def yX4_ragged : MethodName := ⟨RX4, "ragged", "(III)I"⟩
abbrev cX4_without : ByteArray := prog_1_method_14_code
def yX4_without : MethodName := ⟨RX4, "without", "(II)I"⟩
abbrev cX4_tie : ByteArray := prog_1_method_15_code
def yX4_tie : MethodName := ⟨RX4, "tie", "(IIII)I"⟩
abbrev cX4_get : ByteArray := prog_1_method_16_code
def yX4_get : MethodName := ⟨RX4, "get", "(IIII)J"⟩
abbrev cX4_put : ByteArray := prog_1_method_17_code
def yX4_put : MethodName := ⟨RX4, "put", "(IIIIJ)I"⟩
abbrev cX4_empty : ByteArray := prog_1_method_18_code
def yX4_empty : MethodName := ⟨RX4, "empty", "(IIII)I"⟩
abbrev cX4_pair : ByteArray := prog_1_method_19_code
def yX4_pair : MethodName := ⟨RX4, "pair", "(IIIJ)I"⟩
abbrev cX4_gather : ByteArray := prog_1_method_20_code
def yX4_gather : MethodName := ⟨RX4, "gather", "(II)I"⟩
abbrev cX4_join : ByteArray := prog_1_method_21_code
def yX4_join : MethodName := ⟨RX4, "join", "(III)I"⟩
abbrev cX4_sum : ByteArray := prog_1_method_22_code
def yX4_sum : MethodName := ⟨RX4, "sum", "(I)J"⟩
abbrev cX4_mean : ByteArray := prog_1_method_23_code
def yX4_mean : MethodName := ⟨RX4, "mean", "(I)J"⟩
abbrev cX4_about : ByteArray := prog_1_method_24_code
def yX4_about : MethodName := ⟨RX4, "about", "(II)I"⟩
abbrev cX4_same : ByteArray := prog_1_method_25_code
def yX4_same : MethodName := ⟨RX4, "same", "(II)I"⟩
abbrev cX4_compare : ByteArray := prog_1_method_26_code
def yX4_compare : MethodName := ⟨RX4, "compare", "(II)I"⟩
abbrev cX4_clear : ByteArray := prog_1_method_27_code
def yX4_clear : MethodName := ⟨RX4, "clear", "()I"⟩
abbrev cX4_tell : ByteArray := prog_1_method_28_code
def yX4_tell : MethodName := ⟨RX4, "tell", "(II)I"⟩
abbrev cX4_done : ByteArray := prog_1_method_29_code
def yX4_done : MethodName := ⟨RX4, "done", "(I)I"⟩
abbrev cX4_stop : ByteArray := prog_1_method_30_code
def yX4_stop : MethodName := ⟨RX4, "stop", "(I)I"⟩
abbrev cX4_stopBeyond : ByteArray := prog_1_method_31_code
def yX4_stopBeyond : MethodName := ⟨RX4, "stopBeyond", "(I)I"⟩
abbrev cX4_arrayOf : ByteArray := prog_1_method_32_code
def yX4_arrayOf : MethodName := ⟨RX4, "arrayOf", "(I)LArrayMaker$MadeArray;"⟩
abbrev cX4_hasRoom : ByteArray := prog_1_method_33_code
def yX4_hasRoom : MethodName := ⟨RX4, "hasRoom", "(II)Z"⟩
abbrev cX4_whyNotMade : ByteArray := prog_1_method_34_code
def yX4_whyNotMade : MethodName := ⟨RX4, "whyNotMade", "(I)I"⟩
abbrev cX4_whyNoRow : ByteArray := prog_1_method_35_code
def yX4_whyNoRow : MethodName := ⟨RX4, "whyNoRow", "(LArrayMaker$MadeArray;)I"⟩
abbrev cX4_whyNotDeep : ByteArray := prog_1_method_36_code
def yX4_whyNotDeep : MethodName := ⟨RX4, "whyNotDeep", "(LArrayMaker$MadeArray;)I"⟩
abbrev cX4_whyNotFlat : ByteArray := prog_1_method_37_code
def yX4_whyNotFlat : MethodName := ⟨RX4, "whyNotFlat", "(LArrayMaker$MadeArray;)I"⟩
abbrev cX4_whyNoTableRow : ByteArray := prog_1_method_38_code
def yX4_whyNoTableRow : MethodName := ⟨RX4, "whyNoTableRow", "(LArrayMaker$MadeArray;I)I"⟩
abbrev cX4_whyNotJoined : ByteArray := prog_1_method_39_code
def yX4_whyNotJoined : MethodName := ⟨RX4, "whyNotJoined", "(LArrayMaker$MadeArray;LArrayMaker$MadeArray;)I"⟩
abbrev cX4_nextArray : ByteArray := prog_1_method_40_code
def yX4_nextArray : MethodName := ⟨RX4, "nextArray", "(I)LArrayMaker$MadeArray;"⟩
abbrev cX4_nextArrayIn : ByteArray := prog_1_method_41_code
def yX4_nextArrayIn : MethodName := ⟨RX4, "nextArrayIn", "(LArrayMaker$Shape;I)LArrayMaker$MadeArray;"⟩
abbrev cX4_addOwnRow : ByteArray := prog_1_method_42_code
def yX4_addOwnRow : MethodName := ⟨RX4, "addOwnRow", "(LArrayMaker$MadeArray;)V"⟩
abbrev cX4_addTableRows : ByteArray := prog_1_method_43_code
def yX4_addTableRows : MethodName := ⟨RX4, "addTableRows", "(LArrayMaker$MadeArray;)V"⟩
abbrev cX4_findTurned : ByteArray := prog_1_method_44_code
def yX4_findTurned : MethodName := ⟨RX4, "findTurned", "(LArrayMaker$MadeArray;)V"⟩
abbrev cX4_findCut : ByteArray := prog_1_method_45_code
def yX4_findCut : MethodName := ⟨RX4, "findCut", "(LArrayMaker$MadeArray;)I"⟩
abbrev cX4_copySources : ByteArray := prog_1_method_46_code
def yX4_copySources : MethodName := ⟨RX4, "copySources", "(LArrayMaker$MadeArray;)V"⟩
abbrev cX4_cellOf : ByteArray := prog_1_method_47_code
def yX4_cellOf : MethodName := ⟨RX4, "cellOf", "(LArrayMaker$MadeArray;III)I"⟩
abbrev cX4_tableCellOf : ByteArray := prog_1_method_48_code
def yX4_tableCellOf : MethodName := ⟨RX4, "tableCellOf", "(LArrayMaker$MadeArray;II)I"⟩
abbrev cX4_itemsOf : ByteArray := prog_1_method_49_code
def yX4_itemsOf : MethodName := ⟨RX4, "itemsOf", "(LArrayMaker$MadeArray;)I"⟩
abbrev cX4_haveSameRows : ByteArray := prog_1_method_50_code
def yX4_haveSameRows : MethodName := ⟨RX4, "haveSameRows", "(LArrayMaker$MadeArray;LArrayMaker$MadeArray;)Z"⟩
abbrev cX4_joinCell : ByteArray := prog_1_method_51_code
def yX4_joinCell : MethodName := ⟨RX4, "joinCell", "(IIJI)Z"⟩
abbrev cX4_joined : ByteArray := prog_1_method_52_code
def yX4_joined : MethodName := ⟨RX4, "joined", "(JJI)J"⟩
abbrev cX4_fitted : ByteArray := prog_1_method_53_code
def yX4_fitted : MethodName := ⟨RX4, "fitted", "(IJ)J"⟩
def RX5 : String := "ArrayMakerModel"
def TX5 : u_T := fun k => match k with
  | 0 => ("ArrayMakerModel", "code", "I", false)
  | 1 => ("ArrayMakerModel", "which", "I", false)
  | 2 => ("ArrayMakerModel", "dimensions", "I", false)
  | 3 => ("ArrayMakerModel", "low", "[I", true)
  | 4 => ("ArrayMakerModel", "high", "[I", true)
  | 5 => ("ArrayMakerModel", "arrays", "I", false)
  | 6 => ("ArrayMakerModel", "kinds", "[I", true)
  | 7 => ("ArrayMakerModel", "ranks", "[I", true)
  | 8 => ("ArrayMakerModel", "lows", "[I", true)
  | 9 => ("ArrayMakerModel", "highs", "[I", true)
  | 10 => ("ArrayMakerModel", "rowOf", "[I", true)
  | 11 => ("ArrayMakerModel", "rows", "I", false)
  | 12 => ("ArrayMakerModel", "rowAt", "[I", true)
  | 13 => ("ArrayMakerModel", "rowSize", "[I", true)
  | 14 => ("ArrayMakerModel", "pooled", "I", false)
  | 15 => ("ArrayMakerModel", "pool", "[J", true)
  | 16 => ("ArrayMakerModel", "hasBox", "[Z", true)
  | 17 => ("ArrayMakerModel", "slots", "I", false)
  | 18 => ("ArrayMakerModel", "slot", "[I", true)
  | 19 => ("ArrayMakerModel", "lines", "I", false)
  | 20 => ("ArrayMakerModel", "lineI", "[I", true)
  | 21 => ("ArrayMakerModel", "lineJ", "[I", true)
  | 22 => ("ArrayMakerModel", "lineK", "[I", true)
  | 23 => ("ArrayMakerModel", "lineV", "[J", true)
  | _ => ("ArrayMakerModel", "beyond", "I", false)
def tyX5 : Nat → FieldType := fun k => match k with
  | 0 => .int
  | 1 => .int
  | 2 => .int
  | 3 => .array .int
  | 4 => .array .int
  | 5 => .int
  | 6 => .array .int
  | 7 => .array .int
  | 8 => .array .int
  | 9 => .array .int
  | 10 => .array .int
  | 11 => .int
  | 12 => .array .int
  | 13 => .array .int
  | 14 => .int
  | 15 => .array .long
  | 16 => .array .boolean
  | 17 => .int
  | 18 => .array .int
  | 19 => .int
  | 20 => .array .int
  | 21 => .array .int
  | 22 => .array .int
  | 23 => .array .long
  | _ => .int
abbrev wsX50 : List Cond := u_ws RX5 TX5 25
theorem nmX5 : ∀ a, a < 25 → ∀ b, b < 25 → a ≠ b → (TX5 a).2.1 ≠ (TX5 b).2.1 := by decide +kernel
theorem tyX5_ok : ∀ k, k < 25 → parseFieldDescriptor (TX5 k).2.2.1 = some (tyX5 k) := by decide +kernel
abbrev cX5_init : ByteArray := prog_7_method_1_code
def yX5_init : MethodName := ⟨RX5, "<init>", "()V"⟩
abbrev cX5_within : ByteArray := prog_7_method_3_code
def yX5_within : MethodName := ⟨RX5, "within", "(JJJ)Z"⟩
abbrev cX5_code : ByteArray := prog_7_method_4_code
def yX5_code : MethodName := ⟨RX5, "code", "()I"⟩
abbrev cX5_which : ByteArray := prog_7_method_5_code
def yX5_which : MethodName := ⟨RX5, "which", "()I"⟩
abbrev cX5_no : ByteArray := prog_7_method_6_code
def yX5_no : MethodName := ⟨RX5, "no", "(I)I"⟩
abbrev cX5_noItem : ByteArray := prog_7_method_7_code
def yX5_noItem : MethodName := ⟨RX5, "noItem", "(I)I"⟩
abbrev cX5_yes : ByteArray := prog_7_method_8_code
def yX5_yes : MethodName := ⟨RX5, "yes", "(I)I"⟩
abbrev cX5_range : ByteArray := prog_7_method_9_code
def yX5_range : MethodName := ⟨RX5, "range", "(II)I"⟩
abbrev cX5_shapeless : ByteArray := prog_7_method_10_code
def yX5_shapeless : MethodName := ⟨RX5, "shapeless", "()I"⟩
abbrev cX5_length : ByteArray := prog_7_method_11_code
def yX5_length : MethodName := ⟨RX5, "length", "(II)J"⟩
abbrev cX5_shapeItems : ByteArray := prog_7_method_12_code
def yX5_shapeItems : MethodName := ⟨RX5, "shapeItems", "()I"⟩
abbrev cX5_lengthOf : ByteArray := prog_7_method_13_code
def yX5_lengthOf : MethodName := ⟨RX5, "lengthOf", "(II)J"⟩
abbrev cX5_newRow : ByteArray := prog_7_method_14_code
def yX5_newRow : MethodName := ⟨RX5, "newRow", "(I)I"⟩
abbrev cX5_as : ByteArray := prog_7_method_15_code
def yX5_as : MethodName := ⟨RX5, "as", "(IJ)J"⟩
abbrev cX5_isArray : ByteArray := prog_7_method_16_code
def yX5_isArray : MethodName := ⟨RX5, "isArray", "(I)Z"⟩
abbrev cX5_newArray : ByteArray := prog_7_method_17_code
def yX5_newArray : MethodName := ⟨RX5, "newArray", "(II)I"⟩
abbrev cX5_newTable : ByteArray := prog_7_method_18_code
def yX5_newTable : MethodName := ⟨RX5, "newTable", "(I)V"⟩
abbrev cX5_make : ByteArray := prog_7_method_19_code
def yX5_make : MethodName := ⟨RX5, "make", "(I)I"⟩
abbrev cX5_raw : ByteArray := prog_7_method_20_code
def yX5_raw : MethodName := ⟨RX5, "raw", "(II)I"⟩
abbrev cX5_wants : ByteArray := prog_7_method_21_code
def yX5_wants : MethodName := ⟨RX5, "wants", "(I)I"⟩
abbrev cX5_see : ByteArray := prog_7_method_22_code
def yX5_see : MethodName := ⟨RX5, "see", "(I)I"⟩
abbrev cX5_copy : ByteArray := prog_7_method_23_code
def yX5_copy : MethodName := ⟨RX5, "copy", "(II)V"⟩
abbrev cX5_turn : ByteArray := prog_7_method_24_code
def yX5_turn : MethodName := ⟨RX5, "turn", "(I)I"⟩
abbrev cX5_placeOf : ByteArray := prog_7_method_25_code
def yX5_placeOf : MethodName := ⟨RX5, "placeOf", "(IIII)I"⟩
abbrev cX5_index : ByteArray := prog_7_method_26_code
def yX5_index : MethodName := ⟨RX5, "index", "(II)I"⟩
abbrev cX5_cut : ByteArray := prog_7_method_27_code
def yX5_cut : MethodName := ⟨RX5, "cut", "(I)I"⟩
abbrev cX5_deep : ByteArray := prog_7_method_28_code
def yX5_deep : MethodName := ⟨RX5, "deep", "(I)I"⟩
abbrev cX5_tableRows : ByteArray := prog_7_method_29_code
def yX5_tableRows : MethodName := ⟨RX5, "tableRows", "(I)I"⟩
abbrev cX5_flat : ByteArray := prog_7_method_30_code
def yX5_flat : MethodName := ⟨RX5, "flat", "(I)I"⟩
abbrev cX5_wantsRow : ByteArray := prog_7_method_31_code
def yX5_wantsRow : MethodName := ⟨RX5, "wantsRow", "(II)I"⟩
abbrev cX5_slotOf : ByteArray := prog_7_method_32_code
def yX5_slotOf : MethodName := ⟨RX5, "slotOf", "(II)I"⟩
abbrev cX5_ragged : ByteArray := prog_7_method_33_code
def yX5_ragged : MethodName := ⟨RX5, "ragged", "(III)I"⟩
abbrev cX5_without : ByteArray := prog_7_method_34_code
def yX5_without : MethodName := ⟨RX5, "without", "(II)I"⟩
abbrev cX5_tie : ByteArray := prog_7_method_35_code
def yX5_tie : MethodName := ⟨RX5, "tie", "(IIII)I"⟩
abbrev cX5_find : ByteArray := prog_7_method_36_code
def yX5_find : MethodName := ⟨RX5, "find", "(IIII)I"⟩
abbrev cX5_get : ByteArray := prog_7_method_37_code
def yX5_get : MethodName := ⟨RX5, "get", "(IIII)J"⟩
abbrev cX5_lay : ByteArray := prog_7_method_38_code
def yX5_lay : MethodName := ⟨RX5, "lay", "(IIJ)V"⟩
abbrev cX5_put : ByteArray := prog_7_method_39_code
def yX5_put : MethodName := ⟨RX5, "put", "(IIIIJ)I"⟩
abbrev cX5_empty : ByteArray := prog_7_method_40_code
def yX5_empty : MethodName := ⟨RX5, "empty", "(IIII)I"⟩
abbrev cX5_pair : ByteArray := prog_7_method_41_code
def yX5_pair : MethodName := ⟨RX5, "pair", "(IIIJ)I"⟩
abbrev cX5_joins : ByteArray := prog_7_method_42_code
def yX5_joins : MethodName := ⟨RX5, "joins", "(IIIJ)Z"⟩
abbrev cX5_gather : ByteArray := prog_7_method_43_code
def yX5_gather : MethodName := ⟨RX5, "gather", "(II)I"⟩
abbrev cX5_join : ByteArray := prog_7_method_44_code
def yX5_join : MethodName := ⟨RX5, "join", "(III)I"⟩
abbrev cX5_sumOf : ByteArray := prog_7_method_45_code
def yX5_sumOf : MethodName := ⟨RX5, "sumOf", "(I)J"⟩
abbrev cX5_sum : ByteArray := prog_7_method_46_code
def yX5_sum : MethodName := ⟨RX5, "sum", "(I)J"⟩
abbrev cX5_mean : ByteArray := prog_7_method_47_code
def yX5_mean : MethodName := ⟨RX5, "mean", "(I)J"⟩
abbrev cX5_about : ByteArray := prog_7_method_48_code
def yX5_about : MethodName := ⟨RX5, "about", "(II)I"⟩
abbrev cX5_same : ByteArray := prog_7_method_49_code
def yX5_same : MethodName := ⟨RX5, "same", "(II)I"⟩
abbrev cX5_compare : ByteArray := prog_7_method_50_code
def yX5_compare : MethodName := ⟨RX5, "compare", "(II)I"⟩
abbrev cX5_clear : ByteArray := prog_7_method_51_code
def yX5_clear : MethodName := ⟨RX5, "clear", "()I"⟩
def RJx8e188 : String := "java/lang/Cloneable"
def TJx8e188 : u_T := fun k => match k with
  | _ => ("", "", "", false)
def tyJx8e188 : Nat → FieldType := fun k => match k with
  | _ => .int
abbrev wsJx8e1880 : List Cond := u_ws RJx8e188 TJx8e188 0
theorem nmJx8e188 : ∀ a, a < 0 → ∀ b, b < 0 → a ≠ b → (TJx8e188 a).2.1 ≠ (TJx8e188 b).2.1 := by decide +kernel
theorem tyJx8e188_ok : ∀ k, k < 0 → parseFieldDescriptor (TJx8e188 k).2.2.1 = some (tyJx8e188 k) := by decide +kernel
def RJ6 : String := "java/lang/Integer"
def TJ6 : u_T := fun k => match k with
  | _ => ("", "", "", false)
def tyJ6 : Nat → FieldType := fun k => match k with
  | _ => .int
abbrev wsJ60 : List Cond := u_ws RJ6 TJ6 0
theorem nmJ6 : ∀ a, a < 0 → ∀ b, b < 0 → a ≠ b → (TJ6 a).2.1 ≠ (TJ6 b).2.1 := by decide +kernel
theorem tyJ6_ok : ∀ k, k < 0 → parseFieldDescriptor (TJ6 k).2.2.1 = some (tyJ6 k) := by decide +kernel
abbrev cJ6_compare_7cf53 : ByteArray := prog_9_method_40_code
def yJ6_compare_7cf53 : MethodName := ⟨RJ6, "compare", "(II)I"⟩
def RJ13 : String := "java/lang/Long"
def TJ13 : u_T := fun k => match k with
  | _ => ("", "", "", false)
def tyJ13 : Nat → FieldType := fun k => match k with
  | _ => .int
abbrev wsJ130 : List Cond := u_ws RJ13 TJ13 0
theorem nmJ13 : ∀ a, a < 0 → ∀ b, b < 0 → a ≠ b → (TJ13 a).2.1 ≠ (TJ13 b).2.1 := by decide +kernel
theorem tyJ13_ok : ∀ k, k < 0 → parseFieldDescriptor (TJ13 k).2.2.1 = some (tyJ13 k) := by decide +kernel
abbrev cJ13_compare_74951 : ByteArray := prog_10_method_42_code
def yJ13_compare_74951 : MethodName := ⟨RJ13, "compare", "(JJ)I"⟩
def RJ9 : String := "java/lang/Math"
def TJ9 : u_T := fun k => match k with
  | _ => ("", "", "", false)
def tyJ9 : Nat → FieldType := fun k => match k with
  | _ => .int
abbrev wsJ90 : List Cond := u_ws RJ9 TJ9 0
theorem nmJ9 : ∀ a, a < 0 → ∀ b, b < 0 → a ≠ b → (TJ9 a).2.1 ≠ (TJ9 b).2.1 := by decide +kernel
theorem tyJ9_ok : ∀ k, k < 0 → parseFieldDescriptor (TJ9 k).2.2.1 = some (tyJ9 k) := by decide +kernel
abbrev cJ9_max_7cf53 : ByteArray := prog_11_method_65_code
def yJ9_max_7cf53 : MethodName := ⟨RJ9, "max", "(II)I"⟩
abbrev cJ9_max_f86c9 : ByteArray := prog_11_method_66_code
def yJ9_max_f86c9 : MethodName := ⟨RJ9, "max", "(JJ)J"⟩
abbrev cJ9_min_7cf53 : ByteArray := prog_11_method_69_code
def yJ9_min_7cf53 : MethodName := ⟨RJ9, "min", "(II)I"⟩
abbrev cJ9_min_f86c9 : ByteArray := prog_11_method_70_code
def yJ9_min_f86c9 : MethodName := ⟨RJ9, "min", "(JJ)J"⟩
def RJ10 : String := "java/lang/System"
def TJ10 : u_T := fun k => match k with
  | _ => ("", "", "", false)
def tyJ10 : Nat → FieldType := fun k => match k with
  | _ => .int
abbrev wsJ100 : List Cond := u_ws RJ10 TJ10 0
theorem nmJ10 : ∀ a, a < 0 → ∀ b, b < 0 → a ≠ b → (TJ10 a).2.1 ≠ (TJ10 b).2.1 := by decide +kernel
theorem tyJ10_ok : ∀ k, k < 0 → parseFieldDescriptor (TJ10 k).2.2.1 = some (tyJ10 k) := by decide +kernel
def RJ7 : String := "java/util/Arrays"
def TJ7 : u_T := fun k => match k with
  | _ => ("", "", "", false)
def tyJ7 : Nat → FieldType := fun k => match k with
  | _ => .int
abbrev wsJ70 : List Cond := u_ws RJ7 TJ7 0
theorem nmJ7 : ∀ a, a < 0 → ∀ b, b < 0 → a ≠ b → (TJ7 a).2.1 ≠ (TJ7 b).2.1 := by decide +kernel
theorem tyJ7_ok : ∀ k, k < 0 → parseFieldDescriptor (TJ7 k).2.2.1 = some (tyJ7 k) := by decide +kernel
abbrev cJ7_copyOf_59c91 : ByteArray := prog_13_method_123_code
def yJ7_copyOf_59c91 : MethodName := ⟨RJ7, "copyOf", "([II)[I"⟩
abbrev cJ7_copyOf_c38d5 : ByteArray := prog_13_method_124_code
def yJ7_copyOf_c38d5 : MethodName := ⟨RJ7, "copyOf", "([JI)[J"⟩
def RL : String := "ArrayMakerLaw"
abbrev cL_law : ByteArray := code
def yL_law : MethodName := ⟨RL, "law", "([I)Z"⟩
def wsL_law_r1 : List Cond := [Cond.classLink RL 7 RX4, Cond.instantiable RX4 8, Cond.initialized RX4, Cond.classLink RL 10 RX5, Cond.instantiable RX5 25, Cond.initialized RX5, Cond.constantLong RL 79 (4294967295), Cond.methodLink RL 9 yX4_init, Cond.instanceMethod yX4_init, Cond.code yX4_init cX4_init 2 none, Cond.methodLink RX4 3 objectInit, Cond.instanceMethod objectInit, Cond.code objectInit ⟨#[0xb1]⟩ 1 none, Cond.classLink RX4 9 RX2, Cond.instantiable RX2 3, Cond.initialized RX2, Cond.fieldLink RX4 12 "ArrayMaker" "shape" "LArrayMaker$Shape;", Cond.classLink RX4 16 RX0, Cond.instantiable RX0 5, Cond.initialized RX0, Cond.fieldLink RX4 19 "ArrayMaker" "list" "LArrayMaker$Lines;", Cond.classLink RX4 23 RX3, Cond.instantiable RX3 6, Cond.initialized RX3]
def wsL_law_r2 : List Cond := [Cond.fieldLink RX4 26 "ArrayMaker" "store" "LArrayMaker$Store;", Cond.classLink RX4 30 RX1, Cond.fieldLink RX4 32 "ArrayMaker" "arrays" "[LArrayMaker$MadeArray;", Cond.arrayClass .int, Cond.fieldLink RX4 36 "ArrayMaker" "sources" "[I", Cond.fieldLink RX4 40 "ArrayMaker" "made" "I", Cond.fieldLink RX4 44 "ArrayMaker" "code" "I", Cond.fieldLink RX4 47 "ArrayMaker" "which" "I", Cond.instantiable RX1 4, Cond.initialized RX1, Cond.instanceMethod yX2_init, Cond.code yX2_init cX2_init 1 none, Cond.methodLink RX2 3 objectInit, Cond.fieldLink RX2 9 "ArrayMaker$Shape" "low" "[I", Cond.fieldLink RX2 15 "ArrayMaker$Shape" "high" "[I", Cond.instanceMethod yX0_init, Cond.code yX0_init cX0_init 1 none, Cond.methodLink RX0 3 objectInit, Cond.fieldLink RX0 9 "ArrayMaker$Lines" "i" "[I", Cond.fieldLink RX0 15 "ArrayMaker$Lines" "j" "[I", Cond.fieldLink RX0 18 "ArrayMaker$Lines" "k" "[I", Cond.arrayClass .long, Cond.fieldLink RX0 21 "ArrayMaker$Lines" "v" "[J", Cond.instanceMethod yX3_init]
def wsL_law_r3 : List Cond := [Cond.code yX3_init cX3_init 1 none, Cond.methodLink RX3 3 objectInit, Cond.fieldLink RX3 9 "ArrayMaker$Store" "numbers" "[J", Cond.arrayClass .boolean, Cond.fieldLink RX3 15 "ArrayMaker$Store" "filled" "[Z", Cond.fieldLink RX3 19 "ArrayMaker$Store" "starts" "[I", Cond.fieldLink RX3 23 "ArrayMaker$Store" "lengths" "[I", Cond.instanceMethod yX1_init, Cond.code yX1_init cX1_init 1 none, Cond.methodLink RX1 3 objectInit, Cond.classLink RX1 9 RX2, Cond.fieldLink RX1 12 "ArrayMaker$MadeArray" "shape" "LArrayMaker$Shape;", Cond.fieldLink RX1 18 "ArrayMaker$MadeArray" "row" "I", Cond.fieldLink RX1 22 "ArrayMaker$MadeArray" "rows" "[I", Cond.methodLink RL 12 yX5_init, Cond.instanceMethod yX5_init, Cond.code yX5_init cX5_init 1 none, Cond.methodLink RX5 1 objectInit, Cond.fieldLink RX5 9 "ArrayMakerModel" "which" "I", Cond.fieldLink RX5 13 "ArrayMakerModel" "low" "[I", Cond.fieldLink RX5 17 "ArrayMakerModel" "high" "[I", Cond.fieldLink RX5 20 "ArrayMakerModel" "kinds" "[I", Cond.fieldLink RX5 23 "ArrayMakerModel" "ranks" "[I", Cond.fieldLink RX5 26 "ArrayMakerModel" "lows" "[I"]
def wsL_law_r4 : List Cond := [Cond.fieldLink RX5 29 "ArrayMakerModel" "highs" "[I", Cond.fieldLink RX5 32 "ArrayMakerModel" "rowOf" "[I", Cond.fieldLink RX5 35 "ArrayMakerModel" "rowAt" "[I", Cond.fieldLink RX5 38 "ArrayMakerModel" "rowSize" "[I", Cond.constant RX5 41 (300000), Cond.fieldLink RX5 42 "ArrayMakerModel" "pool" "[J", Cond.fieldLink RX5 46 "ArrayMakerModel" "hasBox" "[Z", Cond.fieldLink RX5 50 "ArrayMakerModel" "slot" "[I", Cond.fieldLink RX5 53 "ArrayMakerModel" "lineI" "[I", Cond.fieldLink RX5 56 "ArrayMakerModel" "lineJ" "[I", Cond.fieldLink RX5 59 "ArrayMakerModel" "lineK" "[I", Cond.fieldLink RX5 62 "ArrayMakerModel" "lineV" "[J", Cond.methodLink RL 13 yX4_code, Cond.instanceMethod yX4_code, Cond.selects RX4 yX4_code yX4_code, Cond.code yX4_code cX4_code 1 (some .int), Cond.methodLink RL 17 yX5_code, Cond.instanceMethod yX5_code, Cond.selects RX5 yX5_code yX5_code, Cond.code yX5_code cX5_code 1 (some .int), Cond.fieldLink RX5 65 "ArrayMakerModel" "code" "I", Cond.methodLink RL 18 yX4_which, Cond.instanceMethod yX4_which, Cond.selects RX4 yX4_which yX4_which]
def wsL_law_r5 : List Cond := [Cond.code yX4_which cX4_which 1 (some .int), Cond.methodLink RL 21 yX5_which, Cond.instanceMethod yX5_which, Cond.selects RX5 yX5_which yX5_which, Cond.code yX5_which cX5_which 1 (some .int), Cond.methodLink RL 22 yX4_range, Cond.instanceMethod yX4_range, Cond.selects RX4 yX4_range yX4_range, Cond.code yX4_range cX4_range 3 (some .int), Cond.fieldLink RX4 51 "ArrayMaker$Shape" "count" "I", Cond.methodLink RX4 54 yX4_stop, Cond.instanceMethod yX4_stop, Cond.selects RX4 yX4_stop yX4_stop, Cond.code yX4_stop cX4_stop 2 (some .int), Cond.methodLink RX4 205 yX4_tell, Cond.instanceMethod yX4_tell, Cond.selects RX4 yX4_tell yX4_tell, Cond.code yX4_tell cX4_tell 3 (some .int), Cond.methodLink RX4 58 yX2_add, Cond.instanceMethod yX2_add, Cond.selects RX2 yX2_add yX2_add, Cond.code yX2_add cX2_add 3 none, Cond.fieldLink RX2 18 "ArrayMaker$Shape" "count" "I", Cond.methodLink RX4 62 yX4_done]
def wsL_law_r6 : List Cond := [Cond.instanceMethod yX4_done, Cond.selects RX4 yX4_done yX4_done, Cond.code yX4_done cX4_done 2 (some .int), Cond.methodLink RL 26 yX5_range, Cond.instanceMethod yX5_range, Cond.selects RX5 yX5_range yX5_range, Cond.code yX5_range cX5_range 3 (some .int), Cond.fieldLink RX5 72 "ArrayMakerModel" "dimensions" "I", Cond.methodLink RX5 68 yX5_no, Cond.instanceMethod yX5_no, Cond.selects RX5 yX5_no yX5_no, Cond.code yX5_no cX5_no 2 (some .int), Cond.methodLink RX5 75 yX5_yes, Cond.instanceMethod yX5_yes, Cond.selects RX5 yX5_yes yX5_yes, Cond.code yX5_yes cX5_yes 2 (some .int), Cond.methodLink RL 27 yX4_shapeless, Cond.instanceMethod yX4_shapeless, Cond.selects RX4 yX4_shapeless yX4_shapeless, Cond.code yX4_shapeless cX4_shapeless 2 (some .int), Cond.methodLink RL 30 yX5_shapeless, Cond.instanceMethod yX5_shapeless, Cond.selects RX5 yX5_shapeless yX5_shapeless, Cond.code yX5_shapeless cX5_shapeless 2 (some .int)]
def wsL_law_r7 : List Cond := [Cond.methodLink RL 31 yX4_make, Cond.instanceMethod yX4_make, Cond.selects RX4 yX4_make yX4_make, Cond.code yX4_make cX4_make 4 (some .int), Cond.constant RX4 65 (-2000000001), Cond.methodLink RX4 66 yX4_whyNotMade, Cond.instanceMethod yX4_whyNotMade, Cond.selects RX4 yX4_whyNotMade yX4_whyNotMade, Cond.code yX4_whyNotMade cX4_whyNotMade 4 (some .int), Cond.constantLong RX4 238 (500), Cond.methodLink RX4 96 yX2_items, Cond.instanceMethod yX2_items, Cond.selects RX2 yX2_items yX2_items, Cond.code yX2_items cX2_items 4 (some .int), Cond.constantLong RX2 32 (501), Cond.methodLink RX2 34 Lib.MathLoose.min_long.x, Cond.static Lib.MathLoose.min_long.x, Cond.initialized "java/lang/Math", Cond.code Lib.MathLoose.min_long.x Lib.MathLoose.min_long.code 4 (some .long), Cond.methodLink RX2 37 yX2_length, Cond.instanceMethod yX2_length, Cond.selects RX2 yX2_length yX2_length, Cond.code yX2_length cX2_length 2 (some .long), Cond.methodLink RX2 26 Lib.MathLoose.max_long.x]
def wsL_law_r8 : List Cond := [Cond.static Lib.MathLoose.max_long.x, Cond.code Lib.MathLoose.max_long.x Lib.MathLoose.max_long.code 4 (some .long), Cond.methodLink RX4 235 yX2_length, Cond.methodLink RX4 80 yX4_hasRoom, Cond.instanceMethod yX4_hasRoom, Cond.selects RX4 yX4_hasRoom yX4_hasRoom, Cond.code yX4_hasRoom cX4_hasRoom 3 (some .boolean), Cond.methodLink RX4 147 yX3_reserve, Cond.instanceMethod yX3_reserve, Cond.selects RX3 yX3_reserve yX3_reserve, Cond.code yX3_reserve cX3_reserve 3 (some .boolean), Cond.fieldLink RX3 26 "ArrayMaker$Store" "rowCount" "I", Cond.constant RX3 30 (63200), Cond.fieldLink RX3 31 "ArrayMaker$Store" "cellCount" "I", Cond.methodLink RX3 34 yX3_growRows, Cond.instanceMethod yX3_growRows, Cond.selects RX3 yX3_growRows yX3_growRows, Cond.code yX3_growRows cX3_growRows 3 none, Cond.methodLink RX3 41 Lib.Math.max.name, Cond.static Lib.Math.max.name, Cond.code Lib.Math.max.name Lib.Math.max.code 2 (some .int), Cond.methodLink RX3 47 yJ7_copyOf_59c91, Cond.static yJ7_copyOf_59c91, Cond.initialized RJ7]
def wsL_law_r9 : List Cond := [Cond.code yJ7_copyOf_59c91 cJ7_copyOf_59c91 3 (some (.array .int)), Cond.methodLink RJ7 316 ⟨"[I", "clone", "()Ljava/lang/Object;"⟩, Cond.sameMethod "[I" "java/lang/Object" "clone" "()Ljava/lang/Object;", Cond.native ⟨"java/lang/Object", "clone", "()Ljava/lang/Object;"⟩, Cond.instanceMethod ⟨"java/lang/Object", "clone", "()Ljava/lang/Object;"⟩, Cond.selects "[I" ⟨"[I", "clone", "()Ljava/lang/Object;"⟩ ⟨"java/lang/Object", "clone", "()Ljava/lang/Object;"⟩, Cond.classLink RJ7 317 "[I", Cond.methodLink RJ7 304 Lib.Math.min.name, Cond.static Lib.Math.min.name, Cond.code Lib.Math.min.name Lib.Math.min.code 2 (some .int), Cond.methodLink RJ7 150 arraycopyName, Cond.native arraycopyName, Cond.static arraycopyName, Cond.initialized "java/lang/System", Cond.methodLink RX3 38 yX3_growCells, Cond.instanceMethod yX3_growCells, Cond.selects RX3 yX3_growCells yX3_growCells, Cond.code yX3_growCells cX3_growCells 4 none, Cond.methodLink RX3 56 arraycopyName, Cond.methodLink RX3 53 yJ7_copyOf_c38d5, Cond.static yJ7_copyOf_c38d5, Cond.code yJ7_copyOf_c38d5 cJ7_copyOf_c38d5 3 (some (.array .long)), Cond.methodLink RJ7 319 ⟨"[J", "clone", "()Ljava/lang/Object;"⟩, Cond.sameMethod "[J" "java/lang/Object" "clone" "()Ljava/lang/Object;"]
def wsL_law_r10 : List Cond := [Cond.selects "[J" ⟨"[J", "clone", "()Ljava/lang/Object;"⟩ ⟨"java/lang/Object", "clone", "()Ljava/lang/Object;"⟩, Cond.classLink RJ7 320 "[J", Cond.methodLink RX4 69 yX4_nextArrayIn, Cond.instanceMethod yX4_nextArrayIn, Cond.selects RX4 yX4_nextArrayIn yX4_nextArrayIn, Cond.code yX4_nextArrayIn cX4_nextArrayIn 4 (some (.object "ArrayMaker$MadeArray")), Cond.fieldLink RX4 88 "ArrayMaker$MadeArray" "shape" "LArrayMaker$Shape;", Cond.methodLink RX4 84 yX4_nextArray, Cond.instanceMethod yX4_nextArray, Cond.selects RX4 yX4_nextArray yX4_nextArray, Cond.code yX4_nextArray cX4_nextArray 3 (some (.object "ArrayMaker$MadeArray")), Cond.fieldLink RX4 106 "ArrayMaker$MadeArray" "kind" "I", Cond.fieldLink RX4 100 "ArrayMaker$MadeArray" "row" "I", Cond.methodLink RX4 240 yX2_addAll, Cond.instanceMethod yX2_addAll, Cond.selects RX2 yX2_addAll yX2_addAll, Cond.code yX2_addAll cX2_addAll 3 none, Cond.methodLink RX2 22 yX2_add, Cond.methodLink RX4 73 yX4_addTableRows, Cond.instanceMethod yX4_addTableRows, Cond.selects RX4 yX4_addTableRows yX4_addTableRows, Cond.code yX4_addTableRows cX4_addTableRows 5 none, Cond.fieldLink RX4 133 "ArrayMaker$MadeArray" "rows" "[I", Cond.methodLink RX4 130 yX1_rowCount]
def wsL_law_r11 : List Cond := [Cond.instanceMethod yX1_rowCount, Cond.selects RX1 yX1_rowCount yX1_rowCount, Cond.code yX1_rowCount cX1_rowCount 1 (some .int), Cond.methodLink RX1 26 yX2_length, Cond.methodLink RX4 154 yX3_addRow, Cond.instanceMethod yX3_addRow, Cond.selects RX3 yX3_addRow yX3_addRow, Cond.code yX3_addRow cX3_addRow 5 (some .int), Cond.methodLink RX4 77 yX4_addOwnRow, Cond.instanceMethod yX4_addOwnRow, Cond.selects RX4 yX4_addOwnRow yX4_addOwnRow, Cond.code yX4_addOwnRow cX4_addOwnRow 2 none, Cond.methodLink RL 35 yX5_make, Cond.instanceMethod yX5_make, Cond.selects RX5 yX5_make yX5_make, Cond.code yX5_make cX5_make 4 (some .int), Cond.constantLong RX5 114 (4), Cond.constant RX5 116 (-2000000001), Cond.constantLong RX5 82 (500), Cond.fieldLink RX5 98 "ArrayMakerModel" "arrays" "I", Cond.methodLink RX5 101 yX5_within, Cond.static yX5_within, Cond.code yX5_within cX5_within 6 (some .boolean), Cond.methodLink RX5 117 yX5_shapeItems]
def wsL_law_r12 : List Cond := [Cond.instanceMethod yX5_shapeItems, Cond.selects RX5 yX5_shapeItems yX5_shapeItems, Cond.code yX5_shapeItems cX5_shapeItems 7 (some .int), Cond.constantLong RX5 84 (501), Cond.methodLink RX5 78 yX5_length, Cond.static yX5_length, Cond.code yX5_length cX5_length 4 (some .long), Cond.methodLink RX5 121 yX5_newArray, Cond.instanceMethod yX5_newArray, Cond.selects RX5 yX5_newArray yX5_newArray, Cond.code yX5_newArray cX5_newArray 4 (some .int), Cond.methodLink RX5 125 yX5_newTable, Cond.instanceMethod yX5_newTable, Cond.selects RX5 yX5_newTable yX5_newTable, Cond.code yX5_newTable cX5_newTable 5 none, Cond.fieldLink RX5 105 "ArrayMakerModel" "slots" "I", Cond.methodLink RX5 108 yX5_lengthOf, Cond.instanceMethod yX5_lengthOf, Cond.selects RX5 yX5_lengthOf yX5_lengthOf, Cond.code yX5_lengthOf cX5_lengthOf 3 (some .long), Cond.methodLink RX5 111 yX5_newRow, Cond.instanceMethod yX5_newRow, Cond.selects RX5 yX5_newRow yX5_newRow, Cond.code yX5_newRow cX5_newRow 3 (some .int)]
def wsL_law_r13 : List Cond := [Cond.fieldLink RX5 86 "ArrayMakerModel" "rows" "I", Cond.fieldLink RX5 89 "ArrayMakerModel" "pooled" "I", Cond.methodLink RL 36 yX4_raw, Cond.instanceMethod yX4_raw, Cond.selects RX4 yX4_raw yX4_raw, Cond.code yX4_raw cX4_raw 4 (some .int), Cond.methodLink RL 39 yX5_raw, Cond.instanceMethod yX5_raw, Cond.selects RX5 yX5_raw yX5_raw, Cond.code yX5_raw cX5_raw 3 (some .int), Cond.constantLong RX5 129 (3), Cond.methodLink RL 40 yX4_see, Cond.instanceMethod yX4_see, Cond.selects RX4 yX4_see yX4_see, Cond.code yX4_see cX4_see 4 (some .int), Cond.methodLink RX4 89 yX4_arrayOf, Cond.instanceMethod yX4_arrayOf, Cond.selects RX4 yX4_arrayOf yX4_arrayOf, Cond.code yX4_arrayOf cX4_arrayOf 2 (some (.object "ArrayMaker$MadeArray")), Cond.methodLink RX4 92 yX4_whyNoRow, Cond.instanceMethod yX4_whyNoRow, Cond.selects RX4 yX4_whyNoRow yX4_whyNoRow, Cond.code yX4_whyNoRow cX4_whyNoRow 2 (some .int), Cond.methodLink RX4 103 yX3_lengthOf]
def wsL_law_r14 : List Cond := [Cond.instanceMethod yX3_lengthOf, Cond.selects RX3 yX3_lengthOf yX3_lengthOf, Cond.code yX3_lengthOf cX3_lengthOf 2 (some .int), Cond.methodLink RL 43 yX5_see, Cond.instanceMethod yX5_see, Cond.selects RX5 yX5_see yX5_see, Cond.code yX5_see cX5_see 4 (some .int), Cond.methodLink RX5 135 yX5_wants, Cond.instanceMethod yX5_wants, Cond.selects RX5 yX5_wants yX5_wants, Cond.code yX5_wants cX5_wants 2 (some .int), Cond.methodLink RX5 131 yX5_isArray, Cond.instanceMethod yX5_isArray, Cond.selects RX5 yX5_isArray yX5_isArray, Cond.code yX5_isArray cX5_isArray 2 (some .boolean), Cond.methodLink RL 44 yX4_turn, Cond.instanceMethod yX4_turn, Cond.selects RX4 yX4_turn yX4_turn, Cond.code yX4_turn cX4_turn 5 (some .int), Cond.methodLink RX4 109 yX4_findTurned, Cond.instanceMethod yX4_findTurned, Cond.selects RX4 yX4_findTurned yX4_findTurned, Cond.code yX4_findTurned cX4_findTurned 10 none, Cond.methodLink RX4 127 yX3_startOf]
def wsL_law_r15 : List Cond := [Cond.instanceMethod yX3_startOf, Cond.selects RX3 yX3_startOf yX3_startOf, Cond.code yX3_startOf cX3_startOf 2 (some .int), Cond.methodLink RX4 112 yX2_swapFirstTwo, Cond.instanceMethod yX2_swapFirstTwo, Cond.selects RX2 yX2_swapFirstTwo yX2_swapFirstTwo, Cond.code yX2_swapFirstTwo cX2_swapFirstTwo 3 none, Cond.methodLink RX4 115 yX4_copySources, Cond.instanceMethod yX4_copySources, Cond.selects RX4 yX4_copySources yX4_copySources, Cond.code yX4_copySources cX4_copySources 4 none, Cond.methodLink RX4 136 yX3_copyCells, Cond.instanceMethod yX3_copyCells, Cond.selects RX3 yX3_copyCells yX3_copyCells, Cond.code yX3_copyCells cX3_copyCells 5 none, Cond.methodLink RL 47 yX5_turn, Cond.instanceMethod yX5_turn, Cond.selects RX5 yX5_turn yX5_turn, Cond.code yX5_turn cX5_turn 12 (some .int), Cond.methodLink RX5 138 yX5_copy, Cond.instanceMethod yX5_copy, Cond.selects RX5 yX5_copy yX5_copy, Cond.code yX5_copy cX5_copy 3 none, Cond.methodLink RL 48 yX4_cut]
def wsL_law_r16 : List Cond := [Cond.instanceMethod yX4_cut, Cond.selects RX4 yX4_cut yX4_cut, Cond.code yX4_cut cX4_cut 7 (some .int), Cond.methodLink RX4 118 yX4_findCut, Cond.instanceMethod yX4_findCut, Cond.selects RX4 yX4_findCut yX4_findCut, Cond.code yX4_findCut cX4_findCut 11 (some .int), Cond.fieldLink RX4 219 "ArrayMaker$Shape" "low" "[I", Cond.methodLink RX4 244 yX2_firstBeyond, Cond.instanceMethod yX2_firstBeyond, Cond.selects RX2 yX2_firstBeyond yX2_firstBeyond, Cond.code yX2_firstBeyond cX2_firstBeyond 5 (some .int), Cond.methodLink RX2 41 yX2_indexOf, Cond.static yX2_indexOf, Cond.code yX2_indexOf cX2_indexOf 4 (some .int), Cond.methodLink RX2 45 yX2_holds, Cond.instanceMethod yX2_holds, Cond.selects RX2 yX2_holds yX2_holds, Cond.code yX2_holds cX2_holds 3 (some .boolean), Cond.methodLink RX4 248 yX2_place, Cond.instanceMethod yX2_place, Cond.selects RX2 yX2_place yX2_place, Cond.code yX2_place cX2_place 6 (some .int), Cond.methodLink RX2 49 yX2_offset]
def wsL_law_r17 : List Cond := [Cond.instanceMethod yX2_offset, Cond.selects RX2 yX2_offset yX2_offset, Cond.code yX2_offset cX2_offset 3 (some .int), Cond.methodLink RX4 121 yX4_stopBeyond, Cond.instanceMethod yX4_stopBeyond, Cond.selects RX4 yX4_stopBeyond yX4_stopBeyond, Cond.code yX4_stopBeyond cX4_stopBeyond 2 (some .int), Cond.methodLink RL 51 yX5_cut, Cond.instanceMethod yX5_cut, Cond.selects RX5 yX5_cut yX5_cut, Cond.code yX5_cut cX5_cut 9 (some .int), Cond.fieldLink RX5 142 "ArrayMakerModel" "beyond" "I", Cond.methodLink RX5 145 yX5_index, Cond.static yX5_index, Cond.code yX5_index cX5_index 2 (some .int), Cond.methodLink RX5 148 yX5_placeOf, Cond.instanceMethod yX5_placeOf, Cond.selects RX5 yX5_placeOf yX5_placeOf, Cond.code yX5_placeOf cX5_placeOf 9 (some .int), Cond.methodLink RX5 152 yX5_noItem, Cond.instanceMethod yX5_noItem, Cond.selects RX5 yX5_noItem yX5_noItem, Cond.code yX5_noItem cX5_noItem 2 (some .int), Cond.methodLink RL 52 yX4_deep]
def wsL_law_r18 : List Cond := [Cond.instanceMethod yX4_deep, Cond.selects RX4 yX4_deep yX4_deep, Cond.code yX4_deep cX4_deep 8 (some .int), Cond.methodLink RX4 124 yX4_whyNotDeep, Cond.instanceMethod yX4_whyNotDeep, Cond.selects RX4 yX4_whyNotDeep yX4_whyNotDeep, Cond.code yX4_whyNotDeep cX4_whyNotDeep 3 (some .int), Cond.methodLink RL 55 yX5_deep, Cond.instanceMethod yX5_deep, Cond.selects RX5 yX5_deep yX5_deep, Cond.code yX5_deep cX5_deep 6 (some .int), Cond.methodLink RL 56 yX4_flat, Cond.instanceMethod yX4_flat, Cond.selects RX4 yX4_flat yX4_flat, Cond.code yX4_flat cX4_flat 8 (some .int), Cond.methodLink RX4 140 yX4_whyNotFlat, Cond.instanceMethod yX4_whyNotFlat, Cond.selects RX4 yX4_whyNotFlat yX4_whyNotFlat, Cond.code yX4_whyNotFlat cX4_whyNotFlat 6 (some .int), Cond.methodLink RL 59 yX5_flat, Cond.instanceMethod yX5_flat, Cond.selects RX5 yX5_flat yX5_flat, Cond.code yX5_flat cX5_flat 9 (some .int), Cond.methodLink RX5 155 yX5_tableRows]
def wsL_law_r19 : List Cond := [Cond.instanceMethod yX5_tableRows, Cond.selects RX5 yX5_tableRows yX5_tableRows, Cond.code yX5_tableRows cX5_tableRows 2 (some .int), Cond.methodLink RL 60 yX4_ragged, Cond.instanceMethod yX4_ragged, Cond.selects RX4 yX4_ragged yX4_ragged, Cond.code yX4_ragged cX4_ragged 6 (some .int), Cond.methodLink RX4 143 yX4_whyNoTableRow, Cond.instanceMethod yX4_whyNoTableRow, Cond.selects RX4 yX4_whyNoTableRow yX4_whyNoTableRow, Cond.code yX4_whyNoTableRow cX4_whyNoTableRow 3 (some .int), Cond.methodLink RX4 158 yX2_holds, Cond.methodLink RX4 150 yX2_offset, Cond.methodLink RL 64 yX5_ragged, Cond.instanceMethod yX5_ragged, Cond.selects RX5 yX5_ragged yX5_ragged, Cond.code yX5_ragged cX5_ragged 5 (some .int), Cond.methodLink RX5 158 yX5_wantsRow, Cond.instanceMethod yX5_wantsRow, Cond.selects RX5 yX5_wantsRow yX5_wantsRow, Cond.code yX5_wantsRow cX5_wantsRow 3 (some .int), Cond.methodLink RX5 161 yX5_slotOf, Cond.instanceMethod yX5_slotOf, Cond.selects RX5 yX5_slotOf yX5_slotOf]
def wsL_law_r20 : List Cond := [Cond.code yX5_slotOf cX5_slotOf 3 (some .int), Cond.methodLink RL 65 yX4_without, Cond.instanceMethod yX4_without, Cond.selects RX4 yX4_without yX4_without, Cond.code yX4_without cX4_without 5 (some .int), Cond.methodLink RL 68 yX5_without, Cond.instanceMethod yX5_without, Cond.selects RX5 yX5_without yX5_without, Cond.code yX5_without cX5_without 4 (some .int), Cond.methodLink RL 69 yX4_tie, Cond.instanceMethod yX4_tie, Cond.selects RX4 yX4_tie yX4_tie, Cond.code yX4_tie cX4_tie 7 (some .int), Cond.methodLink RL 73 yX5_tie, Cond.instanceMethod yX5_tie, Cond.selects RX5 yX5_tie yX5_tie, Cond.code yX5_tie cX5_tie 5 (some .int), Cond.methodLink RL 74 yX4_get, Cond.instanceMethod yX4_get, Cond.selects RX4 yX4_get yX4_get, Cond.code yX4_get cX4_get 6 (some .long), Cond.fieldLink RX4 165 "ArrayMaker$Store" "filled" "[Z", Cond.fieldLink RX4 169 "ArrayMaker$Store" "numbers" "[J", Cond.methodLink RX4 161 yX4_cellOf]
def wsL_law_r21 : List Cond := [Cond.instanceMethod yX4_cellOf, Cond.selects RX4 yX4_cellOf yX4_cellOf, Cond.code yX4_cellOf cX4_cellOf 6 (some .int), Cond.methodLink RX4 251 yX4_tableCellOf, Cond.instanceMethod yX4_tableCellOf, Cond.selects RX4 yX4_tableCellOf yX4_tableCellOf, Cond.code yX4_tableCellOf cX4_tableCellOf 7 (some .int), Cond.methodLink RL 78 yX5_get, Cond.instanceMethod yX5_get, Cond.selects RX5 yX5_get yX5_get, Cond.code yX5_get cX5_get 6 (some .long), Cond.methodLink RX5 164 yX5_find, Cond.instanceMethod yX5_find, Cond.selects RX5 yX5_find yX5_find, Cond.code yX5_find cX5_find 9 (some .int), Cond.methodLink RL 81 yX4_put, Cond.instanceMethod yX4_put, Cond.selects RX4 yX4_put yX4_put, Cond.code yX4_put cX4_put 9 (some .int), Cond.methodLink RX4 173 yX4_fitted, Cond.static yX4_fitted, Cond.code yX4_fitted cX4_fitted 3 (some .long), Cond.methodLink RX4 177 yX3_fill, Cond.instanceMethod yX3_fill]
def wsL_law_r22 : List Cond := [Cond.selects RX3 yX3_fill yX3_fill, Cond.code yX3_fill cX3_fill 4 none, Cond.methodLink RL 85 yX5_put, Cond.instanceMethod yX5_put, Cond.selects RX5 yX5_put yX5_put, Cond.code yX5_put cX5_put 8 (some .int), Cond.methodLink RX5 171 yX5_lay, Cond.instanceMethod yX5_lay, Cond.selects RX5 yX5_lay yX5_lay, Cond.code yX5_lay cX5_lay 5 none, Cond.methodLink RX5 167 yX5_as, Cond.static yX5_as, Cond.code yX5_as cX5_as 5 (some .long), Cond.constantLong RX5 92 (255), Cond.constantLong RX5 94 (127), Cond.constantLong RX5 96 (256), Cond.methodLink RL 86 yX4_empty, Cond.instanceMethod yX4_empty, Cond.selects RX4 yX4_empty yX4_empty, Cond.code yX4_empty cX4_empty 7 (some .int), Cond.methodLink RX4 181 yX3_drain, Cond.instanceMethod yX3_drain, Cond.selects RX3 yX3_drain yX3_drain, Cond.code yX3_drain cX3_drain 2 none]
def wsL_law_r23 : List Cond := [Cond.methodLink RL 89 yX5_empty, Cond.instanceMethod yX5_empty, Cond.selects RX5 yX5_empty yX5_empty, Cond.code yX5_empty cX5_empty 6 (some .int), Cond.methodLink RL 90 yX4_pair, Cond.instanceMethod yX4_pair, Cond.selects RX4 yX4_pair yX4_pair, Cond.code yX4_pair cX4_pair 6 (some .int), Cond.fieldLink RX4 185 "ArrayMaker$Lines" "count" "I", Cond.methodLink RX4 186 yX0_add, Cond.instanceMethod yX0_add, Cond.selects RX0 yX0_add yX0_add, Cond.code yX0_add cX0_add 6 none, Cond.fieldLink RX0 25 "ArrayMaker$Lines" "count" "I", Cond.methodLink RL 94 yX5_pair, Cond.instanceMethod yX5_pair, Cond.selects RX5 yX5_pair yX5_pair, Cond.code yX5_pair cX5_pair 6 (some .int), Cond.fieldLink RX5 175 "ArrayMakerModel" "lines" "I", Cond.methodLink RL 95 yX4_gather, Cond.instanceMethod yX4_gather, Cond.selects RX4 yX4_gather yX4_gather, Cond.code yX4_gather cX4_gather 7 (some .int), Cond.fieldLink RX4 189 "ArrayMaker$Lines" "i" "[I"]
def wsL_law_r24 : List Cond := [Cond.fieldLink RX4 192 "ArrayMaker$Lines" "j" "[I", Cond.fieldLink RX4 195 "ArrayMaker$Lines" "k" "[I", Cond.fieldLink RX4 198 "ArrayMaker$Lines" "v" "[J", Cond.methodLink RX4 201 yX4_joinCell, Cond.instanceMethod yX4_joinCell, Cond.selects RX4 yX4_joinCell yX4_joinCell, Cond.code yX4_joinCell cX4_joinCell 6 (some .boolean), Cond.methodLink RX4 255 yX4_joined, Cond.static yX4_joined, Cond.code yX4_joined cX4_joined 5 (some .long), Cond.methodLink RX4 259 Lib.MathLoose.max_long.x, Cond.methodLink RX4 265 Lib.MathLoose.min_long.x, Cond.methodLink RL 98 yX5_gather, Cond.instanceMethod yX5_gather, Cond.selects RX5 yX5_gather yX5_gather, Cond.code yX5_gather cX5_gather 6 (some .int), Cond.constantLong RX5 180 (5), Cond.methodLink RX5 182 yX5_joins, Cond.instanceMethod yX5_joins, Cond.selects RX5 yX5_joins yX5_joins, Cond.code yX5_joins cX5_joins 10 (some .boolean), Cond.constantLong RX5 178 (-1), Cond.methodLink RL 99 yX4_join, Cond.instanceMethod yX4_join]
def wsL_law_r25 : List Cond := [Cond.selects RX4 yX4_join yX4_join, Cond.code yX4_join cX4_join 11 (some .int), Cond.methodLink RX4 208 yX4_whyNotJoined, Cond.instanceMethod yX4_whyNotJoined, Cond.selects RX4 yX4_whyNotJoined yX4_whyNotJoined, Cond.code yX4_whyNotJoined cX4_whyNotJoined 3 (some .int), Cond.methodLink RL 102 yX5_join, Cond.instanceMethod yX5_join, Cond.selects RX5 yX5_join yX5_join, Cond.code yX5_join cX5_join 8 (some .int), Cond.methodLink RL 103 yX4_sum, Cond.instanceMethod yX4_sum, Cond.selects RX4 yX4_sum yX4_sum, Cond.code yX4_sum cX4_sum 6 (some .long), Cond.methodLink RX4 212 yX3_totalOf, Cond.instanceMethod yX3_totalOf, Cond.selects RX3 yX3_totalOf yX3_totalOf, Cond.code yX3_totalOf cX3_totalOf 5 (some .long), Cond.methodLink RX3 62 yX3_lengthOf, Cond.methodLink RX3 66 yX3_startOf, Cond.methodLink RL 107 yX5_sum, Cond.instanceMethod yX5_sum, Cond.selects RX5 yX5_sum yX5_sum, Cond.code yX5_sum cX5_sum 6 (some .long)]
def wsL_law_r26 : List Cond := [Cond.methodLink RX5 186 yX5_sumOf, Cond.instanceMethod yX5_sumOf, Cond.selects RX5 yX5_sumOf yX5_sumOf, Cond.code yX5_sumOf cX5_sumOf 5 (some .long), Cond.methodLink RL 108 yX4_mean, Cond.instanceMethod yX4_mean, Cond.selects RX4 yX4_mean yX4_mean, Cond.code yX4_mean cX4_mean 4 (some .long), Cond.methodLink RL 111 yX5_mean, Cond.instanceMethod yX5_mean, Cond.selects RX5 yX5_mean yX5_mean, Cond.code yX5_mean cX5_mean 3 (some .long), Cond.methodLink RL 112 yX4_about, Cond.instanceMethod yX4_about, Cond.selects RX4 yX4_about yX4_about, Cond.code yX4_about cX4_about 6 (some .int), Cond.fieldLink RX4 222 "ArrayMaker$Shape" "high" "[I", Cond.methodLink RX4 216 yX4_itemsOf, Cond.instanceMethod yX4_itemsOf, Cond.selects RX4 yX4_itemsOf yX4_itemsOf, Cond.code yX4_itemsOf cX4_itemsOf 4 (some .int), Cond.methodLink RL 115 yX5_about, Cond.instanceMethod yX5_about, Cond.selects RX5 yX5_about yX5_about]
def wsL_law_r27 : List Cond := [Cond.code yX5_about cX5_about 6 (some .int), Cond.constantLong RX5 190 (8), Cond.methodLink RL 116 yX4_same, Cond.instanceMethod yX4_same, Cond.selects RX4 yX4_same yX4_same, Cond.code yX4_same cX4_same 5 (some .int), Cond.methodLink RX4 225 yX4_haveSameRows, Cond.static yX4_haveSameRows, Cond.code yX4_haveSameRows cX4_haveSameRows 3 (some .boolean), Cond.methodLink RL 119 yX5_same, Cond.instanceMethod yX5_same, Cond.selects RX5 yX5_same yX5_same, Cond.code yX5_same cX5_same 5 (some .int), Cond.methodLink RL 120 yX4_compare, Cond.instanceMethod yX4_compare, Cond.selects RX4 yX4_compare yX4_compare, Cond.code yX4_compare cX4_compare 5 (some .int), Cond.methodLink RX4 229 yX3_orderOf, Cond.instanceMethod yX3_orderOf, Cond.selects RX3 yX3_orderOf yX3_orderOf, Cond.code yX3_orderOf cX3_orderOf 6 (some .int), Cond.methodLink RX3 69 Lib.Math.min.name, Cond.methodLink RX3 72 yJ13_compare_74951, Cond.static yJ13_compare_74951]
def wsL_law_r28 : List Cond := [Cond.initialized RJ13, Cond.code yJ13_compare_74951 cJ13_compare_74951 4 (some .int), Cond.methodLink RX3 78 yJ6_compare_7cf53, Cond.static yJ6_compare_7cf53, Cond.initialized RJ6, Cond.code yJ6_compare_7cf53 cJ6_compare_7cf53 2 (some .int), Cond.methodLink RL 123 yX5_compare, Cond.instanceMethod yX5_compare, Cond.selects RX5 yX5_compare yX5_compare, Cond.code yX5_compare cX5_compare 10 (some .int), Cond.methodLink RL 124 yX4_clear, Cond.instanceMethod yX4_clear, Cond.selects RX4 yX4_clear yX4_clear, Cond.code yX4_clear cX4_clear 2 (some .int), Cond.methodLink RX4 232 yX3_forget, Cond.instanceMethod yX3_forget, Cond.selects RX3 yX3_forget yX3_forget, Cond.code yX3_forget cX3_forget 1 none, Cond.methodLink RL 127 yX5_clear, Cond.instanceMethod yX5_clear, Cond.selects RX5 yX5_clear yX5_clear, Cond.code yX5_clear cX5_clear 2 (some .int)]
def wsL_law : List Cond := (wsL_law_r1 ++ (wsL_law_r2 ++ (wsL_law_r3 ++ (wsL_law_r4 ++ (wsL_law_r5 ++ (wsL_law_r6 ++ (wsL_law_r7 ++ (wsL_law_r8 ++ (wsL_law_r9 ++ (wsL_law_r10 ++ (wsL_law_r11 ++ (wsL_law_r12 ++ (wsL_law_r13 ++ (wsL_law_r14 ++ (wsL_law_r15 ++ (wsL_law_r16 ++ (wsL_law_r17 ++ (wsL_law_r18 ++ (wsL_law_r19 ++ (wsL_law_r20 ++ (wsL_law_r21 ++ (wsL_law_r22 ++ (wsL_law_r23 ++ (wsL_law_r24 ++ (wsL_law_r25 ++ (wsL_law_r26 ++ (wsL_law_r27 ++ wsL_law_r28))))))))))))))))))))))))))) ++ wsX40 ++ wsX50 ++ wsX20 ++ wsX00 ++ wsX30 ++ wsX10 ++ ([] : List Cond)
theorem inlX0 : ∀ w ∈ wsX00, w ∈ wsL_law := fun _ h => List.mem_append_left _ (List.mem_append_left _ (List.mem_append_left _ (List.mem_append_right _ h)))
theorem inlX1 : ∀ w ∈ wsX10, w ∈ wsL_law := fun _ h => List.mem_append_left _ (List.mem_append_right _ h)
theorem inlX2 : ∀ w ∈ wsX20, w ∈ wsL_law := fun _ h => List.mem_append_left _ (List.mem_append_left _ (List.mem_append_left _ (List.mem_append_left _ (List.mem_append_right _ h))))
theorem inlX3 : ∀ w ∈ wsX30, w ∈ wsL_law := fun _ h => List.mem_append_left _ (List.mem_append_left _ (List.mem_append_right _ h))
theorem inlX4 : ∀ w ∈ wsX40, w ∈ wsL_law := fun _ h => List.mem_append_left _ (List.mem_append_left _ (List.mem_append_left _ (List.mem_append_left _ (List.mem_append_left _ (List.mem_append_left _ (List.mem_append_right _ h))))))
theorem inlX5 : ∀ w ∈ wsX50, w ∈ wsL_law := fun _ h => List.mem_append_left _ (List.mem_append_left _ (List.mem_append_left _ (List.mem_append_left _ (List.mem_append_left _ (List.mem_append_right _ h)))))
abbrev vwCl : List vw_C := [(RX0, TX0, 5), (RX1, TX1, 4), (RX2, TX2, 3), (RX3, TX3, 6), (RX4, TX4, 8), (RX5, TX5, 25)]
end
section
/-! The words of the law, each by its place. Printed by wip/gen/words.py. -/
theorem tb_1 {w : Cond} (h : w ∈ tables_1_1) : w ∈ lw_tbl := List.mem_append_right _ (show w ∈ tables_1_1 ++ (tables_1_2 ++ (tables_1_3 ++ tables_1_4)) from List.mem_append_left _ h)
theorem tb_2 {w : Cond} (h : w ∈ tables_1_2) : w ∈ lw_tbl := List.mem_append_right _ (show w ∈ tables_1_1 ++ (tables_1_2 ++ (tables_1_3 ++ tables_1_4)) from List.mem_append_right _ (List.mem_append_left _ h))
theorem tb_3 {w : Cond} (h : w ∈ tables_1_3) : w ∈ lw_tbl := List.mem_append_right _ (show w ∈ tables_1_1 ++ (tables_1_2 ++ (tables_1_3 ++ tables_1_4)) from List.mem_append_right _ (List.mem_append_right _ (List.mem_append_left _ h)))
theorem tb_4 {w : Cond} (h : w ∈ tables_1_4) : w ∈ lw_tbl := List.mem_append_right _ (show w ∈ tables_1_1 ++ (tables_1_2 ++ (tables_1_3 ++ tables_1_4)) from List.mem_append_right _ (List.mem_append_right _ (List.mem_append_right _ h)))
theorem tb_p {q : MethodName × Nat} (h : q ∈ lw_privs) : Cond.selects q.1.cls q.1 q.1 ∈ lw_tbl := List.mem_append_left _ (List.mem_map.mpr ⟨q, h, rfl⟩)
theorem pv_1 {q : MethodName × Nat} (h : q ∈ lw_privs_1) : q ∈ lw_privs := List.mem_append_left _ h
theorem pv_2 {q : MethodName × Nat} (h : q ∈ lw_privs_2) : q ∈ lw_privs := List.mem_append_right _ (List.mem_append_left _ h)
theorem pv_3 {q : MethodName × Nat} (h : q ∈ lw_privs_3) : q ∈ lw_privs := List.mem_append_right _ (List.mem_append_right _ h)
set_option maxRecDepth 20000 in
theorem tw_1_0 : Cond.classLink RL 7 RX4 ∈ lw_tbl := tb_1 (List.mem_of_getElem? (i := 12) rfl)
set_option maxRecDepth 20000 in
theorem tw_1_1 : Cond.instantiable RX4 8 ∈ lw_tbl := tb_1 (List.mem_of_getElem? (i := 13) rfl)
set_option maxRecDepth 20000 in
theorem tw_1_2 : Cond.initialized RX4 ∈ lw_tbl := tb_1 (List.mem_of_getElem? (i := 1) rfl)
set_option maxRecDepth 20000 in
theorem tw_1_3 : Cond.classLink RL 10 RX5 ∈ lw_tbl := tb_3 (List.mem_of_getElem? (i := 20) rfl)
set_option maxRecDepth 20000 in
theorem tw_1_4 : Cond.instantiable RX5 25 ∈ lw_tbl := tb_3 (List.mem_of_getElem? (i := 21) rfl)
set_option maxRecDepth 20000 in
theorem tw_1_5 : Cond.initialized RX5 ∈ lw_tbl := tb_1 (List.mem_of_getElem? (i := 6) rfl)
set_option maxRecDepth 20000 in
theorem tw_1_6 : Cond.constantLong RL 79 (4294967295) ∈ lw_tbl := tb_4 (List.mem_of_getElem? (i := 66) rfl)
set_option maxRecDepth 20000 in
theorem tw_1_7 : Cond.methodLink RL 9 yX4_init ∈ lw_tbl := tb_1 (List.mem_of_getElem? (i := 14) rfl)
set_option maxRecDepth 20000 in
theorem tw_1_8 : Cond.instanceMethod yX4_init ∈ lw_tbl := tb_1 (List.mem_of_getElem? (i := 15) rfl)
set_option maxRecDepth 20000 in
theorem tw_1_9 : Cond.code yX4_init cX4_init 2 none ∈ lw_tbl := tb_1 (List.mem_of_getElem? (i := 16) rfl)
set_option maxRecDepth 20000 in
theorem tw_1_10 : Cond.methodLink RX4 3 objectInit ∈ lw_tbl := tb_1 (List.mem_of_getElem? (i := 17) rfl)
set_option maxRecDepth 20000 in
theorem tw_1_11 : Cond.instanceMethod objectInit ∈ lw_tbl := tb_1 (List.mem_of_getElem? (i := 18) rfl)
set_option maxRecDepth 20000 in
theorem tw_1_12 : Cond.code objectInit ⟨#[0xb1]⟩ 1 none ∈ lw_tbl := tb_1 (List.mem_of_getElem? (i := 19) rfl)
set_option maxRecDepth 20000 in
theorem tw_1_13 : Cond.classLink RX4 9 RX2 ∈ lw_tbl := tb_1 (List.mem_of_getElem? (i := 20) rfl)
set_option maxRecDepth 20000 in
theorem tw_1_14 : Cond.instantiable RX2 3 ∈ lw_tbl := tb_1 (List.mem_of_getElem? (i := 21) rfl)
set_option maxRecDepth 20000 in
theorem tw_1_15 : Cond.initialized RX2 ∈ lw_tbl := tb_1 (List.mem_of_getElem? (i := 2) rfl)
set_option maxRecDepth 20000 in
theorem tw_1_16 : Cond.fieldLink RX4 12 "ArrayMaker" "shape" "LArrayMaker$Shape;" ∈ lw_tbl := tb_1 (List.mem_of_getElem? (i := 121) rfl)
set_option maxRecDepth 20000 in
theorem tw_1_17 : Cond.classLink RX4 16 RX0 ∈ lw_tbl := tb_1 (List.mem_of_getElem? (i := 40) rfl)
set_option maxRecDepth 20000 in
theorem tw_1_18 : Cond.instantiable RX0 5 ∈ lw_tbl := tb_1 (List.mem_of_getElem? (i := 41) rfl)
set_option maxRecDepth 20000 in
theorem tw_1_19 : Cond.initialized RX0 ∈ lw_tbl := tb_1 (List.mem_of_getElem? (i := 3) rfl)
set_option maxRecDepth 20000 in
theorem tw_1_20 : Cond.fieldLink RX4 19 "ArrayMaker" "list" "LArrayMaker$Lines;" ∈ lw_tbl := tb_1 (List.mem_of_getElem? (i := 122) rfl)
set_option maxRecDepth 20000 in
theorem tw_1_21 : Cond.classLink RX4 23 RX3 ∈ lw_tbl := tb_1 (List.mem_of_getElem? (i := 68) rfl)
set_option maxRecDepth 20000 in
theorem tw_1_22 : Cond.instantiable RX3 6 ∈ lw_tbl := tb_1 (List.mem_of_getElem? (i := 69) rfl)
set_option maxRecDepth 20000 in
theorem tw_1_23 : Cond.initialized RX3 ∈ lw_tbl := tb_1 (List.mem_of_getElem? (i := 4) rfl)
set_option maxRecDepth 20000 in
theorem tw_2_0 : Cond.fieldLink RX4 26 "ArrayMaker" "store" "LArrayMaker$Store;" ∈ lw_tbl := tb_1 (List.mem_of_getElem? (i := 123) rfl)
set_option maxRecDepth 20000 in
theorem tw_2_1 : Cond.classLink RX4 30 RX1 ∈ lw_tbl := tb_1 (List.mem_of_getElem? (i := 96) rfl)
set_option maxRecDepth 20000 in
theorem tw_2_2 : Cond.fieldLink RX4 32 "ArrayMaker" "arrays" "[LArrayMaker$MadeArray;" ∈ lw_tbl := tb_1 (List.mem_of_getElem? (i := 124) rfl)
set_option maxRecDepth 20000 in
theorem tw_2_3 : Cond.arrayClass .int ∈ lw_tbl := tb_1 (List.mem_of_getElem? (i := 39) rfl)
set_option maxRecDepth 20000 in
theorem tw_2_4 : Cond.fieldLink RX4 36 "ArrayMaker" "sources" "[I" ∈ lw_tbl := tb_1 (List.mem_of_getElem? (i := 125) rfl)
set_option maxRecDepth 20000 in
theorem tw_2_5 : Cond.fieldLink RX4 40 "ArrayMaker" "made" "I" ∈ lw_tbl := tb_1 (List.mem_of_getElem? (i := 126) rfl)
set_option maxRecDepth 20000 in
theorem tw_2_6 : Cond.fieldLink RX4 44 "ArrayMaker" "code" "I" ∈ lw_tbl := tb_1 (List.mem_of_getElem? (i := 127) rfl)
set_option maxRecDepth 20000 in
theorem tw_2_7 : Cond.fieldLink RX4 47 "ArrayMaker" "which" "I" ∈ lw_tbl := tb_1 (List.mem_of_getElem? (i := 128) rfl)
set_option maxRecDepth 20000 in
theorem tw_2_8 : Cond.instantiable RX1 4 ∈ lw_tbl := tb_1 (List.mem_of_getElem? (i := 98) rfl)
set_option maxRecDepth 20000 in
theorem tw_2_9 : Cond.initialized RX1 ∈ lw_tbl := tb_1 (List.mem_of_getElem? (i := 5) rfl)
set_option maxRecDepth 20000 in
theorem tw_2_10 : Cond.instanceMethod yX2_init ∈ lw_tbl := tb_1 (List.mem_of_getElem? (i := 23) rfl)
set_option maxRecDepth 20000 in
theorem tw_2_11 : Cond.code yX2_init cX2_init 1 none ∈ lw_tbl := tb_1 (List.mem_of_getElem? (i := 24) rfl)
set_option maxRecDepth 20000 in
theorem tw_2_12 : Cond.methodLink RX2 3 objectInit ∈ lw_tbl := tb_1 (List.mem_of_getElem? (i := 25) rfl)
set_option maxRecDepth 20000 in
theorem tw_2_13 : Cond.fieldLink RX2 9 "ArrayMaker$Shape" "low" "[I" ∈ lw_tbl := tb_1 (List.mem_of_getElem? (i := 26) rfl)
set_option maxRecDepth 20000 in
theorem tw_2_14 : Cond.fieldLink RX2 15 "ArrayMaker$Shape" "high" "[I" ∈ lw_tbl := tb_1 (List.mem_of_getElem? (i := 28) rfl)
set_option maxRecDepth 20000 in
theorem tw_2_15 : Cond.instanceMethod yX0_init ∈ lw_tbl := tb_1 (List.mem_of_getElem? (i := 43) rfl)
set_option maxRecDepth 20000 in
theorem tw_2_16 : Cond.code yX0_init cX0_init 1 none ∈ lw_tbl := tb_1 (List.mem_of_getElem? (i := 44) rfl)
set_option maxRecDepth 20000 in
theorem tw_2_17 : Cond.methodLink RX0 3 objectInit ∈ lw_tbl := tb_1 (List.mem_of_getElem? (i := 45) rfl)
set_option maxRecDepth 20000 in
theorem tw_2_18 : Cond.fieldLink RX0 9 "ArrayMaker$Lines" "i" "[I" ∈ lw_tbl := tb_1 (List.mem_of_getElem? (i := 46) rfl)
set_option maxRecDepth 20000 in
theorem tw_2_19 : Cond.fieldLink RX0 15 "ArrayMaker$Lines" "j" "[I" ∈ lw_tbl := tb_1 (List.mem_of_getElem? (i := 48) rfl)
set_option maxRecDepth 20000 in
theorem tw_2_20 : Cond.fieldLink RX0 18 "ArrayMaker$Lines" "k" "[I" ∈ lw_tbl := tb_1 (List.mem_of_getElem? (i := 50) rfl)
set_option maxRecDepth 20000 in
theorem tw_2_21 : Cond.arrayClass .long ∈ lw_tbl := tb_1 (List.mem_of_getElem? (i := 67) rfl)
set_option maxRecDepth 20000 in
theorem tw_2_22 : Cond.fieldLink RX0 21 "ArrayMaker$Lines" "v" "[J" ∈ lw_tbl := tb_1 (List.mem_of_getElem? (i := 52) rfl)
set_option maxRecDepth 20000 in
theorem tw_2_23 : Cond.instanceMethod yX3_init ∈ lw_tbl := tb_1 (List.mem_of_getElem? (i := 71) rfl)
set_option maxRecDepth 20000 in
theorem tw_3_0 : Cond.code yX3_init cX3_init 1 none ∈ lw_tbl := tb_1 (List.mem_of_getElem? (i := 72) rfl)
set_option maxRecDepth 20000 in
theorem tw_3_1 : Cond.methodLink RX3 3 objectInit ∈ lw_tbl := tb_1 (List.mem_of_getElem? (i := 73) rfl)
set_option maxRecDepth 20000 in
theorem tw_3_2 : Cond.fieldLink RX3 9 "ArrayMaker$Store" "numbers" "[J" ∈ lw_tbl := tb_1 (List.mem_of_getElem? (i := 74) rfl)
set_option maxRecDepth 20000 in
theorem tw_3_3 : Cond.arrayClass .boolean ∈ lw_tbl := tb_1 (List.mem_of_getElem? (i := 95) rfl)
set_option maxRecDepth 20000 in
theorem tw_3_4 : Cond.fieldLink RX3 15 "ArrayMaker$Store" "filled" "[Z" ∈ lw_tbl := tb_1 (List.mem_of_getElem? (i := 76) rfl)
set_option maxRecDepth 20000 in
theorem tw_3_5 : Cond.fieldLink RX3 19 "ArrayMaker$Store" "starts" "[I" ∈ lw_tbl := tb_1 (List.mem_of_getElem? (i := 78) rfl)
set_option maxRecDepth 20000 in
theorem tw_3_6 : Cond.fieldLink RX3 23 "ArrayMaker$Store" "lengths" "[I" ∈ lw_tbl := tb_1 (List.mem_of_getElem? (i := 79) rfl)
set_option maxRecDepth 20000 in
theorem tw_3_7 : Cond.instanceMethod yX1_init ∈ lw_tbl := tb_1 (List.mem_of_getElem? (i := 100) rfl)
set_option maxRecDepth 20000 in
theorem tw_3_8 : Cond.code yX1_init cX1_init 1 none ∈ lw_tbl := tb_1 (List.mem_of_getElem? (i := 101) rfl)
set_option maxRecDepth 20000 in
theorem tw_3_9 : Cond.methodLink RX1 3 objectInit ∈ lw_tbl := tb_1 (List.mem_of_getElem? (i := 102) rfl)
set_option maxRecDepth 20000 in
theorem tw_3_10 : Cond.classLink RX1 9 RX2 ∈ lw_tbl := tb_1 (List.mem_of_getElem? (i := 103) rfl)
set_option maxRecDepth 20000 in
theorem tw_3_11 : Cond.fieldLink RX1 12 "ArrayMaker$MadeArray" "shape" "LArrayMaker$Shape;" ∈ lw_tbl := tb_1 (List.mem_of_getElem? (i := 105) rfl)
set_option maxRecDepth 20000 in
theorem tw_3_12 : Cond.fieldLink RX1 18 "ArrayMaker$MadeArray" "row" "I" ∈ lw_tbl := tb_1 (List.mem_of_getElem? (i := 108) rfl)
set_option maxRecDepth 20000 in
theorem tw_3_13 : Cond.fieldLink RX1 22 "ArrayMaker$MadeArray" "rows" "[I" ∈ lw_tbl := tb_1 (List.mem_of_getElem? (i := 110) rfl)
set_option maxRecDepth 20000 in
theorem tw_3_14 : Cond.methodLink RL 12 yX5_init ∈ lw_tbl := tb_3 (List.mem_of_getElem? (i := 22) rfl)
set_option maxRecDepth 20000 in
theorem tw_3_15 : Cond.instanceMethod yX5_init ∈ lw_tbl := tb_3 (List.mem_of_getElem? (i := 23) rfl)
set_option maxRecDepth 20000 in
theorem tw_3_16 : Cond.code yX5_init cX5_init 1 none ∈ lw_tbl := tb_3 (List.mem_of_getElem? (i := 24) rfl)
set_option maxRecDepth 20000 in
theorem tw_3_17 : Cond.methodLink RX5 1 objectInit ∈ lw_tbl := tb_3 (List.mem_of_getElem? (i := 25) rfl)
set_option maxRecDepth 20000 in
theorem tw_3_18 : Cond.fieldLink RX5 9 "ArrayMakerModel" "which" "I" ∈ lw_tbl := tb_3 (List.mem_of_getElem? (i := 28) rfl)
set_option maxRecDepth 20000 in
theorem tw_3_19 : Cond.fieldLink RX5 13 "ArrayMakerModel" "low" "[I" ∈ lw_tbl := tb_3 (List.mem_of_getElem? (i := 30) rfl)
set_option maxRecDepth 20000 in
theorem tw_3_20 : Cond.fieldLink RX5 17 "ArrayMakerModel" "high" "[I" ∈ lw_tbl := tb_3 (List.mem_of_getElem? (i := 31) rfl)
set_option maxRecDepth 20000 in
theorem tw_3_21 : Cond.fieldLink RX5 20 "ArrayMakerModel" "kinds" "[I" ∈ lw_tbl := tb_3 (List.mem_of_getElem? (i := 33) rfl)
set_option maxRecDepth 20000 in
theorem tw_3_22 : Cond.fieldLink RX5 23 "ArrayMakerModel" "ranks" "[I" ∈ lw_tbl := tb_3 (List.mem_of_getElem? (i := 34) rfl)
set_option maxRecDepth 20000 in
theorem tw_3_23 : Cond.fieldLink RX5 26 "ArrayMakerModel" "lows" "[I" ∈ lw_tbl := tb_3 (List.mem_of_getElem? (i := 35) rfl)
set_option maxRecDepth 20000 in
theorem tw_4_0 : Cond.fieldLink RX5 29 "ArrayMakerModel" "highs" "[I" ∈ lw_tbl := tb_3 (List.mem_of_getElem? (i := 36) rfl)
set_option maxRecDepth 20000 in
theorem tw_4_1 : Cond.fieldLink RX5 32 "ArrayMakerModel" "rowOf" "[I" ∈ lw_tbl := tb_3 (List.mem_of_getElem? (i := 37) rfl)
set_option maxRecDepth 20000 in
theorem tw_4_2 : Cond.fieldLink RX5 35 "ArrayMakerModel" "rowAt" "[I" ∈ lw_tbl := tb_3 (List.mem_of_getElem? (i := 39) rfl)
set_option maxRecDepth 20000 in
theorem tw_4_3 : Cond.fieldLink RX5 38 "ArrayMakerModel" "rowSize" "[I" ∈ lw_tbl := tb_3 (List.mem_of_getElem? (i := 40) rfl)
set_option maxRecDepth 20000 in
theorem tw_4_4 : Cond.constant RX5 41 (300000) ∈ lw_tbl := tb_3 (List.mem_of_getElem? (i := 26) rfl)
set_option maxRecDepth 20000 in
theorem tw_4_5 : Cond.fieldLink RX5 42 "ArrayMakerModel" "pool" "[J" ∈ lw_tbl := tb_3 (List.mem_of_getElem? (i := 42) rfl)
set_option maxRecDepth 20000 in
theorem tw_4_6 : Cond.fieldLink RX5 46 "ArrayMakerModel" "hasBox" "[Z" ∈ lw_tbl := tb_3 (List.mem_of_getElem? (i := 43) rfl)
set_option maxRecDepth 20000 in
theorem tw_4_7 : Cond.fieldLink RX5 50 "ArrayMakerModel" "slot" "[I" ∈ lw_tbl := tb_3 (List.mem_of_getElem? (i := 45) rfl)
set_option maxRecDepth 20000 in
theorem tw_4_8 : Cond.fieldLink RX5 53 "ArrayMakerModel" "lineI" "[I" ∈ lw_tbl := tb_3 (List.mem_of_getElem? (i := 47) rfl)
set_option maxRecDepth 20000 in
theorem tw_4_9 : Cond.fieldLink RX5 56 "ArrayMakerModel" "lineJ" "[I" ∈ lw_tbl := tb_3 (List.mem_of_getElem? (i := 48) rfl)
set_option maxRecDepth 20000 in
theorem tw_4_10 : Cond.fieldLink RX5 59 "ArrayMakerModel" "lineK" "[I" ∈ lw_tbl := tb_3 (List.mem_of_getElem? (i := 49) rfl)
set_option maxRecDepth 20000 in
theorem tw_4_11 : Cond.fieldLink RX5 62 "ArrayMakerModel" "lineV" "[J" ∈ lw_tbl := tb_3 (List.mem_of_getElem? (i := 50) rfl)
set_option maxRecDepth 20000 in
theorem tw_4_12 : Cond.methodLink RL 13 yX4_code ∈ lw_tbl := tb_1 (List.mem_of_getElem? (i := 146) rfl)
set_option maxRecDepth 20000 in
theorem tw_4_13 : Cond.instanceMethod yX4_code ∈ lw_tbl := tb_1 (List.mem_of_getElem? (i := 147) rfl)
set_option maxRecDepth 20000 in
theorem tw_4_14 : Cond.selects RX4 yX4_code yX4_code ∈ lw_tbl := tb_1 (List.mem_of_getElem? (i := 148) rfl)
set_option maxRecDepth 20000 in
theorem tw_4_15 : Cond.code yX4_code cX4_code 1 (some .int) ∈ lw_tbl := tb_1 (List.mem_of_getElem? (i := 149) rfl)
set_option maxRecDepth 20000 in
theorem tw_4_16 : Cond.methodLink RL 17 yX5_code ∈ lw_tbl := tb_3 (List.mem_of_getElem? (i := 103) rfl)
set_option maxRecDepth 20000 in
theorem tw_4_17 : Cond.instanceMethod yX5_code ∈ lw_tbl := tb_3 (List.mem_of_getElem? (i := 104) rfl)
set_option maxRecDepth 20000 in
theorem tw_4_18 : Cond.selects RX5 yX5_code yX5_code ∈ lw_tbl := tb_3 (List.mem_of_getElem? (i := 105) rfl)
set_option maxRecDepth 20000 in
theorem tw_4_19 : Cond.code yX5_code cX5_code 1 (some .int) ∈ lw_tbl := tb_3 (List.mem_of_getElem? (i := 106) rfl)
set_option maxRecDepth 20000 in
theorem tw_4_20 : Cond.fieldLink RX5 65 "ArrayMakerModel" "code" "I" ∈ lw_tbl := tb_3 (List.mem_of_getElem? (i := 27) rfl)
set_option maxRecDepth 20000 in
theorem tw_4_21 : Cond.methodLink RL 18 yX4_which ∈ lw_tbl := tb_1 (List.mem_of_getElem? (i := 150) rfl)
set_option maxRecDepth 20000 in
theorem tw_4_22 : Cond.instanceMethod yX4_which ∈ lw_tbl := tb_1 (List.mem_of_getElem? (i := 151) rfl)
set_option maxRecDepth 20000 in
theorem tw_4_23 : Cond.selects RX4 yX4_which yX4_which ∈ lw_tbl := tb_1 (List.mem_of_getElem? (i := 152) rfl)
set_option maxRecDepth 20000 in
theorem tw_5_0 : Cond.code yX4_which cX4_which 1 (some .int) ∈ lw_tbl := tb_1 (List.mem_of_getElem? (i := 153) rfl)
set_option maxRecDepth 20000 in
theorem tw_5_1 : Cond.methodLink RL 21 yX5_which ∈ lw_tbl := tb_3 (List.mem_of_getElem? (i := 107) rfl)
set_option maxRecDepth 20000 in
theorem tw_5_2 : Cond.instanceMethod yX5_which ∈ lw_tbl := tb_3 (List.mem_of_getElem? (i := 108) rfl)
set_option maxRecDepth 20000 in
theorem tw_5_3 : Cond.selects RX5 yX5_which yX5_which ∈ lw_tbl := tb_3 (List.mem_of_getElem? (i := 109) rfl)
set_option maxRecDepth 20000 in
theorem tw_5_4 : Cond.code yX5_which cX5_which 1 (some .int) ∈ lw_tbl := tb_3 (List.mem_of_getElem? (i := 110) rfl)
set_option maxRecDepth 20000 in
theorem tw_5_5 : Cond.methodLink RL 22 yX4_range ∈ lw_tbl := tb_1 (List.mem_of_getElem? (i := 154) rfl)
set_option maxRecDepth 20000 in
theorem tw_5_6 : Cond.instanceMethod yX4_range ∈ lw_tbl := tb_1 (List.mem_of_getElem? (i := 155) rfl)
set_option maxRecDepth 20000 in
theorem tw_5_7 : Cond.selects RX4 yX4_range yX4_range ∈ lw_tbl := tb_1 (List.mem_of_getElem? (i := 156) rfl)
set_option maxRecDepth 20000 in
theorem tw_5_8 : Cond.code yX4_range cX4_range 3 (some .int) ∈ lw_tbl := tb_1 (List.mem_of_getElem? (i := 157) rfl)
set_option maxRecDepth 20000 in
theorem tw_5_9 : Cond.fieldLink RX4 51 "ArrayMaker$Shape" "count" "I" ∈ lw_tbl := tb_1 (List.mem_of_getElem? (i := 31) rfl)
set_option maxRecDepth 20000 in
theorem tw_5_10 : Cond.methodLink RX4 54 yX4_stop ∈ lw_tbl := tb_1 (List.mem_of_getElem? (i := 158) rfl)
set_option maxRecDepth 20000 in
theorem tw_5_11 : Cond.instanceMethod yX4_stop ∈ lw_tbl := tb_1 (List.mem_of_getElem? (i := 160) rfl)
set_option maxRecDepth 20000 in
theorem tw_5_12 : Cond.selects RX4 yX4_stop yX4_stop ∈ lw_tbl := tb_p (pv_1 (List.mem_of_getElem? (i := 0) rfl))
set_option maxRecDepth 20000 in
theorem tw_5_13 : Cond.code yX4_stop cX4_stop 2 (some .int) ∈ lw_tbl := tb_1 (List.mem_of_getElem? (i := 161) rfl)
set_option maxRecDepth 20000 in
theorem tw_5_14 : Cond.methodLink RX4 205 yX4_tell ∈ lw_tbl := tb_1 (List.mem_of_getElem? (i := 162) rfl)
set_option maxRecDepth 20000 in
theorem tw_5_15 : Cond.instanceMethod yX4_tell ∈ lw_tbl := tb_1 (List.mem_of_getElem? (i := 164) rfl)
set_option maxRecDepth 20000 in
theorem tw_5_16 : Cond.selects RX4 yX4_tell yX4_tell ∈ lw_tbl := tb_p (pv_1 (List.mem_of_getElem? (i := 1) rfl))
set_option maxRecDepth 20000 in
theorem tw_5_17 : Cond.code yX4_tell cX4_tell 3 (some .int) ∈ lw_tbl := tb_1 (List.mem_of_getElem? (i := 165) rfl)
set_option maxRecDepth 20000 in
theorem tw_5_18 : Cond.methodLink RX4 58 yX2_add ∈ lw_tbl := tb_1 (List.mem_of_getElem? (i := 166) rfl)
set_option maxRecDepth 20000 in
theorem tw_5_19 : Cond.instanceMethod yX2_add ∈ lw_tbl := tb_1 (List.mem_of_getElem? (i := 167) rfl)
set_option maxRecDepth 20000 in
theorem tw_5_20 : Cond.selects RX2 yX2_add yX2_add ∈ lw_tbl := tb_1 (List.mem_of_getElem? (i := 168) rfl)
set_option maxRecDepth 20000 in
theorem tw_5_21 : Cond.code yX2_add cX2_add 3 none ∈ lw_tbl := tb_1 (List.mem_of_getElem? (i := 169) rfl)
set_option maxRecDepth 20000 in
theorem tw_5_22 : Cond.fieldLink RX2 18 "ArrayMaker$Shape" "count" "I" ∈ lw_tbl := tb_1 (List.mem_of_getElem? (i := 30) rfl)
set_option maxRecDepth 20000 in
theorem tw_5_23 : Cond.methodLink RX4 62 yX4_done ∈ lw_tbl := tb_1 (List.mem_of_getElem? (i := 170) rfl)
set_option maxRecDepth 20000 in
theorem tw_6_0 : Cond.instanceMethod yX4_done ∈ lw_tbl := tb_1 (List.mem_of_getElem? (i := 172) rfl)
set_option maxRecDepth 20000 in
theorem tw_6_1 : Cond.selects RX4 yX4_done yX4_done ∈ lw_tbl := tb_p (pv_1 (List.mem_of_getElem? (i := 2) rfl))
set_option maxRecDepth 20000 in
theorem tw_6_2 : Cond.code yX4_done cX4_done 2 (some .int) ∈ lw_tbl := tb_1 (List.mem_of_getElem? (i := 173) rfl)
set_option maxRecDepth 20000 in
theorem tw_6_3 : Cond.methodLink RL 26 yX5_range ∈ lw_tbl := tb_3 (List.mem_of_getElem? (i := 111) rfl)
set_option maxRecDepth 20000 in
theorem tw_6_4 : Cond.instanceMethod yX5_range ∈ lw_tbl := tb_3 (List.mem_of_getElem? (i := 112) rfl)
set_option maxRecDepth 20000 in
theorem tw_6_5 : Cond.selects RX5 yX5_range yX5_range ∈ lw_tbl := tb_3 (List.mem_of_getElem? (i := 113) rfl)
set_option maxRecDepth 20000 in
theorem tw_6_6 : Cond.code yX5_range cX5_range 3 (some .int) ∈ lw_tbl := tb_3 (List.mem_of_getElem? (i := 114) rfl)
set_option maxRecDepth 20000 in
theorem tw_6_7 : Cond.fieldLink RX5 72 "ArrayMakerModel" "dimensions" "I" ∈ lw_tbl := tb_3 (List.mem_of_getElem? (i := 29) rfl)
set_option maxRecDepth 20000 in
theorem tw_6_8 : Cond.methodLink RX5 68 yX5_no ∈ lw_tbl := tb_3 (List.mem_of_getElem? (i := 115) rfl)
set_option maxRecDepth 20000 in
theorem tw_6_9 : Cond.instanceMethod yX5_no ∈ lw_tbl := tb_3 (List.mem_of_getElem? (i := 117) rfl)
set_option maxRecDepth 20000 in
theorem tw_6_10 : Cond.selects RX5 yX5_no yX5_no ∈ lw_tbl := tb_p (pv_2 (List.mem_of_getElem? (i := 9) rfl))
set_option maxRecDepth 20000 in
theorem tw_6_11 : Cond.code yX5_no cX5_no 2 (some .int) ∈ lw_tbl := tb_3 (List.mem_of_getElem? (i := 118) rfl)
set_option maxRecDepth 20000 in
theorem tw_6_12 : Cond.methodLink RX5 75 yX5_yes ∈ lw_tbl := tb_3 (List.mem_of_getElem? (i := 119) rfl)
set_option maxRecDepth 20000 in
theorem tw_6_13 : Cond.instanceMethod yX5_yes ∈ lw_tbl := tb_3 (List.mem_of_getElem? (i := 121) rfl)
set_option maxRecDepth 20000 in
theorem tw_6_14 : Cond.selects RX5 yX5_yes yX5_yes ∈ lw_tbl := tb_p (pv_2 (List.mem_of_getElem? (i := 10) rfl))
set_option maxRecDepth 20000 in
theorem tw_6_15 : Cond.code yX5_yes cX5_yes 2 (some .int) ∈ lw_tbl := tb_3 (List.mem_of_getElem? (i := 122) rfl)
set_option maxRecDepth 20000 in
theorem tw_6_16 : Cond.methodLink RL 27 yX4_shapeless ∈ lw_tbl := tb_1 (List.mem_of_getElem? (i := 174) rfl)
set_option maxRecDepth 20000 in
theorem tw_6_17 : Cond.instanceMethod yX4_shapeless ∈ lw_tbl := tb_1 (List.mem_of_getElem? (i := 175) rfl)
set_option maxRecDepth 20000 in
theorem tw_6_18 : Cond.selects RX4 yX4_shapeless yX4_shapeless ∈ lw_tbl := tb_1 (List.mem_of_getElem? (i := 176) rfl)
set_option maxRecDepth 20000 in
theorem tw_6_19 : Cond.code yX4_shapeless cX4_shapeless 2 (some .int) ∈ lw_tbl := tb_1 (List.mem_of_getElem? (i := 177) rfl)
set_option maxRecDepth 20000 in
theorem tw_6_20 : Cond.methodLink RL 30 yX5_shapeless ∈ lw_tbl := tb_3 (List.mem_of_getElem? (i := 123) rfl)
set_option maxRecDepth 20000 in
theorem tw_6_21 : Cond.instanceMethod yX5_shapeless ∈ lw_tbl := tb_3 (List.mem_of_getElem? (i := 124) rfl)
set_option maxRecDepth 20000 in
theorem tw_6_22 : Cond.selects RX5 yX5_shapeless yX5_shapeless ∈ lw_tbl := tb_3 (List.mem_of_getElem? (i := 125) rfl)
set_option maxRecDepth 20000 in
theorem tw_6_23 : Cond.code yX5_shapeless cX5_shapeless 2 (some .int) ∈ lw_tbl := tb_3 (List.mem_of_getElem? (i := 126) rfl)
set_option maxRecDepth 20000 in
theorem tw_7_0 : Cond.methodLink RL 31 yX4_make ∈ lw_tbl := tb_1 (List.mem_of_getElem? (i := 178) rfl)
set_option maxRecDepth 20000 in
theorem tw_7_1 : Cond.instanceMethod yX4_make ∈ lw_tbl := tb_1 (List.mem_of_getElem? (i := 179) rfl)
set_option maxRecDepth 20000 in
theorem tw_7_2 : Cond.selects RX4 yX4_make yX4_make ∈ lw_tbl := tb_1 (List.mem_of_getElem? (i := 180) rfl)
set_option maxRecDepth 20000 in
theorem tw_7_3 : Cond.code yX4_make cX4_make 4 (some .int) ∈ lw_tbl := tb_1 (List.mem_of_getElem? (i := 181) rfl)
set_option maxRecDepth 20000 in
theorem tw_7_4 : Cond.constant RX4 65 (-2000000001) ∈ lw_tbl := tb_1 (List.mem_of_getElem? (i := 182) rfl)
set_option maxRecDepth 20000 in
theorem tw_7_5 : Cond.methodLink RX4 66 yX4_whyNotMade ∈ lw_tbl := tb_1 (List.mem_of_getElem? (i := 183) rfl)
set_option maxRecDepth 20000 in
theorem tw_7_6 : Cond.instanceMethod yX4_whyNotMade ∈ lw_tbl := tb_1 (List.mem_of_getElem? (i := 185) rfl)
set_option maxRecDepth 20000 in
theorem tw_7_7 : Cond.selects RX4 yX4_whyNotMade yX4_whyNotMade ∈ lw_tbl := tb_p (pv_1 (List.mem_of_getElem? (i := 3) rfl))
set_option maxRecDepth 20000 in
theorem tw_7_8 : Cond.code yX4_whyNotMade cX4_whyNotMade 4 (some .int) ∈ lw_tbl := tb_1 (List.mem_of_getElem? (i := 186) rfl)
set_option maxRecDepth 20000 in
theorem tw_7_9 : Cond.constantLong RX4 238 (500) ∈ lw_tbl := tb_1 (List.mem_of_getElem? (i := 203) rfl)
set_option maxRecDepth 20000 in
theorem tw_7_10 : Cond.methodLink RX4 96 yX2_items ∈ lw_tbl := tb_1 (List.mem_of_getElem? (i := 187) rfl)
set_option maxRecDepth 20000 in
theorem tw_7_11 : Cond.instanceMethod yX2_items ∈ lw_tbl := tb_1 (List.mem_of_getElem? (i := 188) rfl)
set_option maxRecDepth 20000 in
theorem tw_7_12 : Cond.selects RX2 yX2_items yX2_items ∈ lw_tbl := tb_1 (List.mem_of_getElem? (i := 189) rfl)
set_option maxRecDepth 20000 in
theorem tw_7_13 : Cond.code yX2_items cX2_items 4 (some .int) ∈ lw_tbl := tb_1 (List.mem_of_getElem? (i := 190) rfl)
set_option maxRecDepth 20000 in
theorem tw_7_14 : Cond.constantLong RX2 32 (501) ∈ lw_tbl := tb_1 (List.mem_of_getElem? (i := 191) rfl)
set_option maxRecDepth 20000 in
theorem tw_7_15 : Cond.methodLink RX2 34 Lib.MathLoose.min_long.x ∈ lw_tbl := tb_1 (List.mem_of_getElem? (i := 192) rfl)
set_option maxRecDepth 20000 in
theorem tw_7_16 : Cond.static Lib.MathLoose.min_long.x ∈ lw_tbl := tb_1 (List.mem_of_getElem? (i := 193) rfl)
set_option maxRecDepth 20000 in
theorem tw_7_17 : Cond.initialized "java/lang/Math" ∈ lw_tbl := tb_1 (List.mem_of_getElem? (i := 7) rfl)
set_option maxRecDepth 20000 in
theorem tw_7_18 : Cond.code Lib.MathLoose.min_long.x Lib.MathLoose.min_long.code 4 (some .long) ∈ lw_tbl := tb_1 (List.mem_of_getElem? (i := 194) rfl)
set_option maxRecDepth 20000 in
theorem tw_7_19 : Cond.methodLink RX2 37 yX2_length ∈ lw_tbl := tb_1 (List.mem_of_getElem? (i := 195) rfl)
set_option maxRecDepth 20000 in
theorem tw_7_20 : Cond.instanceMethod yX2_length ∈ lw_tbl := tb_1 (List.mem_of_getElem? (i := 196) rfl)
set_option maxRecDepth 20000 in
theorem tw_7_21 : Cond.selects RX2 yX2_length yX2_length ∈ lw_tbl := tb_1 (List.mem_of_getElem? (i := 197) rfl)
set_option maxRecDepth 20000 in
theorem tw_7_22 : Cond.code yX2_length cX2_length 2 (some .long) ∈ lw_tbl := tb_1 (List.mem_of_getElem? (i := 198) rfl)
set_option maxRecDepth 20000 in
theorem tw_7_23 : Cond.methodLink RX2 26 Lib.MathLoose.max_long.x ∈ lw_tbl := tb_1 (List.mem_of_getElem? (i := 199) rfl)
set_option maxRecDepth 20000 in
theorem tw_8_0 : Cond.static Lib.MathLoose.max_long.x ∈ lw_tbl := tb_1 (List.mem_of_getElem? (i := 200) rfl)
set_option maxRecDepth 20000 in
theorem tw_8_1 : Cond.code Lib.MathLoose.max_long.x Lib.MathLoose.max_long.code 4 (some .long) ∈ lw_tbl := tb_1 (List.mem_of_getElem? (i := 201) rfl)
set_option maxRecDepth 20000 in
theorem tw_8_2 : Cond.methodLink RX4 235 yX2_length ∈ lw_tbl := tb_1 (List.mem_of_getElem? (i := 202) rfl)
set_option maxRecDepth 20000 in
theorem tw_8_3 : Cond.methodLink RX4 80 yX4_hasRoom ∈ lw_tbl := tb_1 (List.mem_of_getElem? (i := 204) rfl)
set_option maxRecDepth 20000 in
theorem tw_8_4 : Cond.instanceMethod yX4_hasRoom ∈ lw_tbl := tb_1 (List.mem_of_getElem? (i := 206) rfl)
set_option maxRecDepth 20000 in
theorem tw_8_5 : Cond.selects RX4 yX4_hasRoom yX4_hasRoom ∈ lw_tbl := tb_p (pv_1 (List.mem_of_getElem? (i := 4) rfl))
set_option maxRecDepth 20000 in
theorem tw_8_6 : Cond.code yX4_hasRoom cX4_hasRoom 3 (some .boolean) ∈ lw_tbl := tb_1 (List.mem_of_getElem? (i := 207) rfl)
set_option maxRecDepth 20000 in
theorem tw_8_7 : Cond.methodLink RX4 147 yX3_reserve ∈ lw_tbl := tb_1 (List.mem_of_getElem? (i := 208) rfl)
set_option maxRecDepth 20000 in
theorem tw_8_8 : Cond.instanceMethod yX3_reserve ∈ lw_tbl := tb_1 (List.mem_of_getElem? (i := 209) rfl)
set_option maxRecDepth 20000 in
theorem tw_8_9 : Cond.selects RX3 yX3_reserve yX3_reserve ∈ lw_tbl := tb_1 (List.mem_of_getElem? (i := 210) rfl)
set_option maxRecDepth 20000 in
theorem tw_8_10 : Cond.code yX3_reserve cX3_reserve 3 (some .boolean) ∈ lw_tbl := tb_1 (List.mem_of_getElem? (i := 211) rfl)
set_option maxRecDepth 20000 in
theorem tw_8_11 : Cond.fieldLink RX3 26 "ArrayMaker$Store" "rowCount" "I" ∈ lw_tbl := tb_1 (List.mem_of_getElem? (i := 81) rfl)
set_option maxRecDepth 20000 in
theorem tw_8_12 : Cond.constant RX3 30 (63200) ∈ lw_tbl := tb_1 (List.mem_of_getElem? (i := 212) rfl)
set_option maxRecDepth 20000 in
theorem tw_8_13 : Cond.fieldLink RX3 31 "ArrayMaker$Store" "cellCount" "I" ∈ lw_tbl := tb_1 (List.mem_of_getElem? (i := 80) rfl)
set_option maxRecDepth 20000 in
theorem tw_8_14 : Cond.methodLink RX3 34 yX3_growRows ∈ lw_tbl := tb_1 (List.mem_of_getElem? (i := 213) rfl)
set_option maxRecDepth 20000 in
theorem tw_8_15 : Cond.instanceMethod yX3_growRows ∈ lw_tbl := tb_1 (List.mem_of_getElem? (i := 215) rfl)
set_option maxRecDepth 20000 in
theorem tw_8_16 : Cond.selects RX3 yX3_growRows yX3_growRows ∈ lw_tbl := tb_p (pv_1 (List.mem_of_getElem? (i := 5) rfl))
set_option maxRecDepth 20000 in
theorem tw_8_17 : Cond.code yX3_growRows cX3_growRows 3 none ∈ lw_tbl := tb_1 (List.mem_of_getElem? (i := 216) rfl)
set_option maxRecDepth 20000 in
theorem tw_8_18 : Cond.methodLink RX3 41 Lib.Math.max.name ∈ lw_tbl := tb_1 (List.mem_of_getElem? (i := 217) rfl)
set_option maxRecDepth 20000 in
theorem tw_8_19 : Cond.static Lib.Math.max.name ∈ lw_tbl := tb_1 (List.mem_of_getElem? (i := 218) rfl)
set_option maxRecDepth 20000 in
theorem tw_8_20 : Cond.code Lib.Math.max.name Lib.Math.max.code 2 (some .int) ∈ lw_tbl := tb_1 (List.mem_of_getElem? (i := 219) rfl)
set_option maxRecDepth 20000 in
theorem tw_8_21 : Cond.methodLink RX3 47 yJ7_copyOf_59c91 ∈ lw_tbl := tb_1 (List.mem_of_getElem? (i := 220) rfl)
set_option maxRecDepth 20000 in
theorem tw_8_22 : Cond.static yJ7_copyOf_59c91 ∈ lw_tbl := tb_1 (List.mem_of_getElem? (i := 221) rfl)
set_option maxRecDepth 20000 in
theorem tw_8_23 : Cond.initialized RJ7 ∈ lw_tbl := tb_1 (List.mem_of_getElem? (i := 8) rfl)
set_option maxRecDepth 20000 in
theorem tw_9_0 : Cond.code yJ7_copyOf_59c91 cJ7_copyOf_59c91 3 (some (.array .int)) ∈ lw_tbl := tb_1 (List.mem_of_getElem? (i := 222) rfl)
set_option maxRecDepth 20000 in
theorem tw_9_1 : Cond.methodLink RJ7 316 ⟨"[I", "clone", "()Ljava/lang/Object;"⟩ ∈ lw_tbl := tb_1 (List.mem_of_getElem? (i := 223) rfl)
set_option maxRecDepth 20000 in
theorem tw_9_2 : Cond.sameMethod "[I" "java/lang/Object" "clone" "()Ljava/lang/Object;" ∈ lw_tbl := tb_1 (List.mem_of_getElem? (i := 224) rfl)
set_option maxRecDepth 20000 in
theorem tw_9_3 : Cond.native ⟨"java/lang/Object", "clone", "()Ljava/lang/Object;"⟩ ∈ lw_tbl := tb_1 (List.mem_of_getElem? (i := 225) rfl)
set_option maxRecDepth 20000 in
theorem tw_9_4 : Cond.instanceMethod ⟨"java/lang/Object", "clone", "()Ljava/lang/Object;"⟩ ∈ lw_tbl := tb_1 (List.mem_of_getElem? (i := 226) rfl)
set_option maxRecDepth 20000 in
theorem tw_9_5 : Cond.selects "[I" ⟨"[I", "clone", "()Ljava/lang/Object;"⟩ ⟨"java/lang/Object", "clone", "()Ljava/lang/Object;"⟩ ∈ lw_tbl := tb_1 (List.mem_of_getElem? (i := 227) rfl)
set_option maxRecDepth 20000 in
theorem tw_9_6 : Cond.classLink RJ7 317 "[I" ∈ lw_tbl := tb_1 (List.mem_of_getElem? (i := 229) rfl)
set_option maxRecDepth 20000 in
theorem tw_9_7 : Cond.methodLink RJ7 304 Lib.Math.min.name ∈ lw_tbl := tb_1 (List.mem_of_getElem? (i := 230) rfl)
set_option maxRecDepth 20000 in
theorem tw_9_8 : Cond.static Lib.Math.min.name ∈ lw_tbl := tb_1 (List.mem_of_getElem? (i := 231) rfl)
set_option maxRecDepth 20000 in
theorem tw_9_9 : Cond.code Lib.Math.min.name Lib.Math.min.code 2 (some .int) ∈ lw_tbl := tb_1 (List.mem_of_getElem? (i := 232) rfl)
set_option maxRecDepth 20000 in
theorem tw_9_10 : Cond.methodLink RJ7 150 arraycopyName ∈ lw_tbl := tb_1 (List.mem_of_getElem? (i := 233) rfl)
set_option maxRecDepth 20000 in
theorem tw_9_11 : Cond.native arraycopyName ∈ lw_tbl := tb_1 (List.mem_of_getElem? (i := 235) rfl)
set_option maxRecDepth 20000 in
theorem tw_9_12 : Cond.static arraycopyName ∈ lw_tbl := tb_1 (List.mem_of_getElem? (i := 234) rfl)
set_option maxRecDepth 20000 in
theorem tw_9_13 : Cond.initialized "java/lang/System" ∈ lw_tbl := tb_1 (List.mem_of_getElem? (i := 9) rfl)
set_option maxRecDepth 20000 in
theorem tw_9_14 : Cond.methodLink RX3 38 yX3_growCells ∈ lw_tbl := tb_1 (List.mem_of_getElem? (i := 236) rfl)
set_option maxRecDepth 20000 in
theorem tw_9_15 : Cond.instanceMethod yX3_growCells ∈ lw_tbl := tb_1 (List.mem_of_getElem? (i := 238) rfl)
set_option maxRecDepth 20000 in
theorem tw_9_16 : Cond.selects RX3 yX3_growCells yX3_growCells ∈ lw_tbl := tb_p (pv_1 (List.mem_of_getElem? (i := 6) rfl))
set_option maxRecDepth 20000 in
theorem tw_9_17 : Cond.code yX3_growCells cX3_growCells 4 none ∈ lw_tbl := tb_1 (List.mem_of_getElem? (i := 239) rfl)
set_option maxRecDepth 20000 in
theorem tw_9_18 : Cond.methodLink RX3 56 arraycopyName ∈ lw_tbl := tb_2 (List.mem_of_getElem? (i := 8) rfl)
set_option maxRecDepth 20000 in
theorem tw_9_19 : Cond.methodLink RX3 53 yJ7_copyOf_c38d5 ∈ lw_tbl := tb_2 (List.mem_of_getElem? (i := 0) rfl)
set_option maxRecDepth 20000 in
theorem tw_9_20 : Cond.static yJ7_copyOf_c38d5 ∈ lw_tbl := tb_2 (List.mem_of_getElem? (i := 1) rfl)
set_option maxRecDepth 20000 in
theorem tw_9_21 : Cond.code yJ7_copyOf_c38d5 cJ7_copyOf_c38d5 3 (some (.array .long)) ∈ lw_tbl := tb_2 (List.mem_of_getElem? (i := 2) rfl)
set_option maxRecDepth 20000 in
theorem tw_9_22 : Cond.methodLink RJ7 319 ⟨"[J", "clone", "()Ljava/lang/Object;"⟩ ∈ lw_tbl := tb_2 (List.mem_of_getElem? (i := 3) rfl)
set_option maxRecDepth 20000 in
theorem tw_9_23 : Cond.sameMethod "[J" "java/lang/Object" "clone" "()Ljava/lang/Object;" ∈ lw_tbl := tb_2 (List.mem_of_getElem? (i := 4) rfl)
set_option maxRecDepth 20000 in
theorem tw_10_0 : Cond.selects "[J" ⟨"[J", "clone", "()Ljava/lang/Object;"⟩ ⟨"java/lang/Object", "clone", "()Ljava/lang/Object;"⟩ ∈ lw_tbl := tb_2 (List.mem_of_getElem? (i := 5) rfl)
set_option maxRecDepth 20000 in
theorem tw_10_1 : Cond.classLink RJ7 320 "[J" ∈ lw_tbl := tb_2 (List.mem_of_getElem? (i := 7) rfl)
set_option maxRecDepth 20000 in
theorem tw_10_2 : Cond.methodLink RX4 69 yX4_nextArrayIn ∈ lw_tbl := tb_2 (List.mem_of_getElem? (i := 9) rfl)
set_option maxRecDepth 20000 in
theorem tw_10_3 : Cond.instanceMethod yX4_nextArrayIn ∈ lw_tbl := tb_2 (List.mem_of_getElem? (i := 11) rfl)
set_option maxRecDepth 20000 in
theorem tw_10_4 : Cond.selects RX4 yX4_nextArrayIn yX4_nextArrayIn ∈ lw_tbl := tb_p (pv_1 (List.mem_of_getElem? (i := 7) rfl))
set_option maxRecDepth 20000 in
theorem tw_10_5 : Cond.code yX4_nextArrayIn cX4_nextArrayIn 4 (some (.object "ArrayMaker$MadeArray")) ∈ lw_tbl := tb_2 (List.mem_of_getElem? (i := 12) rfl)
set_option maxRecDepth 20000 in
theorem tw_10_6 : Cond.fieldLink RX4 88 "ArrayMaker$MadeArray" "shape" "LArrayMaker$Shape;" ∈ lw_tbl := tb_1 (List.mem_of_getElem? (i := 106) rfl)
set_option maxRecDepth 20000 in
theorem tw_10_7 : Cond.methodLink RX4 84 yX4_nextArray ∈ lw_tbl := tb_2 (List.mem_of_getElem? (i := 13) rfl)
set_option maxRecDepth 20000 in
theorem tw_10_8 : Cond.instanceMethod yX4_nextArray ∈ lw_tbl := tb_2 (List.mem_of_getElem? (i := 15) rfl)
set_option maxRecDepth 20000 in
theorem tw_10_9 : Cond.selects RX4 yX4_nextArray yX4_nextArray ∈ lw_tbl := tb_p (pv_1 (List.mem_of_getElem? (i := 8) rfl))
set_option maxRecDepth 20000 in
theorem tw_10_10 : Cond.code yX4_nextArray cX4_nextArray 3 (some (.object "ArrayMaker$MadeArray")) ∈ lw_tbl := tb_2 (List.mem_of_getElem? (i := 16) rfl)
set_option maxRecDepth 20000 in
theorem tw_10_11 : Cond.fieldLink RX4 106 "ArrayMaker$MadeArray" "kind" "I" ∈ lw_tbl := tb_1 (List.mem_of_getElem? (i := 107) rfl)
set_option maxRecDepth 20000 in
theorem tw_10_12 : Cond.fieldLink RX4 100 "ArrayMaker$MadeArray" "row" "I" ∈ lw_tbl := tb_1 (List.mem_of_getElem? (i := 109) rfl)
set_option maxRecDepth 20000 in
theorem tw_10_13 : Cond.methodLink RX4 240 yX2_addAll ∈ lw_tbl := tb_2 (List.mem_of_getElem? (i := 17) rfl)
set_option maxRecDepth 20000 in
theorem tw_10_14 : Cond.instanceMethod yX2_addAll ∈ lw_tbl := tb_2 (List.mem_of_getElem? (i := 18) rfl)
set_option maxRecDepth 20000 in
theorem tw_10_15 : Cond.selects RX2 yX2_addAll yX2_addAll ∈ lw_tbl := tb_2 (List.mem_of_getElem? (i := 19) rfl)
set_option maxRecDepth 20000 in
theorem tw_10_16 : Cond.code yX2_addAll cX2_addAll 3 none ∈ lw_tbl := tb_2 (List.mem_of_getElem? (i := 20) rfl)
set_option maxRecDepth 20000 in
theorem tw_10_17 : Cond.methodLink RX2 22 yX2_add ∈ lw_tbl := tb_2 (List.mem_of_getElem? (i := 21) rfl)
set_option maxRecDepth 20000 in
theorem tw_10_18 : Cond.methodLink RX4 73 yX4_addTableRows ∈ lw_tbl := tb_2 (List.mem_of_getElem? (i := 22) rfl)
set_option maxRecDepth 20000 in
theorem tw_10_19 : Cond.instanceMethod yX4_addTableRows ∈ lw_tbl := tb_2 (List.mem_of_getElem? (i := 24) rfl)
set_option maxRecDepth 20000 in
theorem tw_10_20 : Cond.selects RX4 yX4_addTableRows yX4_addTableRows ∈ lw_tbl := tb_p (pv_1 (List.mem_of_getElem? (i := 9) rfl))
set_option maxRecDepth 20000 in
theorem tw_10_21 : Cond.code yX4_addTableRows cX4_addTableRows 5 none ∈ lw_tbl := tb_2 (List.mem_of_getElem? (i := 25) rfl)
set_option maxRecDepth 20000 in
theorem tw_10_22 : Cond.fieldLink RX4 133 "ArrayMaker$MadeArray" "rows" "[I" ∈ lw_tbl := tb_1 (List.mem_of_getElem? (i := 111) rfl)
set_option maxRecDepth 20000 in
theorem tw_10_23 : Cond.methodLink RX4 130 yX1_rowCount ∈ lw_tbl := tb_2 (List.mem_of_getElem? (i := 26) rfl)
set_option maxRecDepth 20000 in
theorem tw_11_0 : Cond.instanceMethod yX1_rowCount ∈ lw_tbl := tb_2 (List.mem_of_getElem? (i := 27) rfl)
set_option maxRecDepth 20000 in
theorem tw_11_1 : Cond.selects RX1 yX1_rowCount yX1_rowCount ∈ lw_tbl := tb_2 (List.mem_of_getElem? (i := 28) rfl)
set_option maxRecDepth 20000 in
theorem tw_11_2 : Cond.code yX1_rowCount cX1_rowCount 1 (some .int) ∈ lw_tbl := tb_2 (List.mem_of_getElem? (i := 29) rfl)
set_option maxRecDepth 20000 in
theorem tw_11_3 : Cond.methodLink RX1 26 yX2_length ∈ lw_tbl := tb_2 (List.mem_of_getElem? (i := 30) rfl)
set_option maxRecDepth 20000 in
theorem tw_11_4 : Cond.methodLink RX4 154 yX3_addRow ∈ lw_tbl := tb_2 (List.mem_of_getElem? (i := 31) rfl)
set_option maxRecDepth 20000 in
theorem tw_11_5 : Cond.instanceMethod yX3_addRow ∈ lw_tbl := tb_2 (List.mem_of_getElem? (i := 32) rfl)
set_option maxRecDepth 20000 in
theorem tw_11_6 : Cond.selects RX3 yX3_addRow yX3_addRow ∈ lw_tbl := tb_2 (List.mem_of_getElem? (i := 33) rfl)
set_option maxRecDepth 20000 in
theorem tw_11_7 : Cond.code yX3_addRow cX3_addRow 5 (some .int) ∈ lw_tbl := tb_2 (List.mem_of_getElem? (i := 34) rfl)
set_option maxRecDepth 20000 in
theorem tw_11_8 : Cond.methodLink RX4 77 yX4_addOwnRow ∈ lw_tbl := tb_2 (List.mem_of_getElem? (i := 35) rfl)
set_option maxRecDepth 20000 in
theorem tw_11_9 : Cond.instanceMethod yX4_addOwnRow ∈ lw_tbl := tb_2 (List.mem_of_getElem? (i := 37) rfl)
set_option maxRecDepth 20000 in
theorem tw_11_10 : Cond.selects RX4 yX4_addOwnRow yX4_addOwnRow ∈ lw_tbl := tb_p (pv_1 (List.mem_of_getElem? (i := 10) rfl))
set_option maxRecDepth 20000 in
theorem tw_11_11 : Cond.code yX4_addOwnRow cX4_addOwnRow 2 none ∈ lw_tbl := tb_2 (List.mem_of_getElem? (i := 38) rfl)
set_option maxRecDepth 20000 in
theorem tw_11_12 : Cond.methodLink RL 35 yX5_make ∈ lw_tbl := tb_3 (List.mem_of_getElem? (i := 127) rfl)
set_option maxRecDepth 20000 in
theorem tw_11_13 : Cond.instanceMethod yX5_make ∈ lw_tbl := tb_3 (List.mem_of_getElem? (i := 128) rfl)
set_option maxRecDepth 20000 in
theorem tw_11_14 : Cond.selects RX5 yX5_make yX5_make ∈ lw_tbl := tb_3 (List.mem_of_getElem? (i := 129) rfl)
set_option maxRecDepth 20000 in
theorem tw_11_15 : Cond.code yX5_make cX5_make 4 (some .int) ∈ lw_tbl := tb_3 (List.mem_of_getElem? (i := 130) rfl)
set_option maxRecDepth 20000 in
theorem tw_11_16 : Cond.constantLong RX5 114 (4) ∈ lw_tbl := tb_3 (List.mem_of_getElem? (i := 131) rfl)
set_option maxRecDepth 20000 in
theorem tw_11_17 : Cond.constant RX5 116 (-2000000001) ∈ lw_tbl := tb_3 (List.mem_of_getElem? (i := 135) rfl)
set_option maxRecDepth 20000 in
theorem tw_11_18 : Cond.constantLong RX5 82 (500) ∈ lw_tbl := tb_3 (List.mem_of_getElem? (i := 143) rfl)
set_option maxRecDepth 20000 in
theorem tw_11_19 : Cond.fieldLink RX5 98 "ArrayMakerModel" "arrays" "I" ∈ lw_tbl := tb_3 (List.mem_of_getElem? (i := 32) rfl)
set_option maxRecDepth 20000 in
theorem tw_11_20 : Cond.methodLink RX5 101 yX5_within ∈ lw_tbl := tb_3 (List.mem_of_getElem? (i := 132) rfl)
set_option maxRecDepth 20000 in
theorem tw_11_21 : Cond.static yX5_within ∈ lw_tbl := tb_3 (List.mem_of_getElem? (i := 133) rfl)
set_option maxRecDepth 20000 in
theorem tw_11_22 : Cond.code yX5_within cX5_within 6 (some .boolean) ∈ lw_tbl := tb_3 (List.mem_of_getElem? (i := 134) rfl)
set_option maxRecDepth 20000 in
theorem tw_11_23 : Cond.methodLink RX5 117 yX5_shapeItems ∈ lw_tbl := tb_3 (List.mem_of_getElem? (i := 136) rfl)
set_option maxRecDepth 20000 in
theorem tw_12_0 : Cond.instanceMethod yX5_shapeItems ∈ lw_tbl := tb_3 (List.mem_of_getElem? (i := 138) rfl)
set_option maxRecDepth 20000 in
theorem tw_12_1 : Cond.selects RX5 yX5_shapeItems yX5_shapeItems ∈ lw_tbl := tb_p (pv_2 (List.mem_of_getElem? (i := 11) rfl))
set_option maxRecDepth 20000 in
theorem tw_12_2 : Cond.code yX5_shapeItems cX5_shapeItems 7 (some .int) ∈ lw_tbl := tb_3 (List.mem_of_getElem? (i := 139) rfl)
set_option maxRecDepth 20000 in
theorem tw_12_3 : Cond.constantLong RX5 84 (501) ∈ lw_tbl := tb_3 (List.mem_of_getElem? (i := 144) rfl)
set_option maxRecDepth 20000 in
theorem tw_12_4 : Cond.methodLink RX5 78 yX5_length ∈ lw_tbl := tb_3 (List.mem_of_getElem? (i := 140) rfl)
set_option maxRecDepth 20000 in
theorem tw_12_5 : Cond.static yX5_length ∈ lw_tbl := tb_3 (List.mem_of_getElem? (i := 141) rfl)
set_option maxRecDepth 20000 in
theorem tw_12_6 : Cond.code yX5_length cX5_length 4 (some .long) ∈ lw_tbl := tb_3 (List.mem_of_getElem? (i := 142) rfl)
set_option maxRecDepth 20000 in
theorem tw_12_7 : Cond.methodLink RX5 121 yX5_newArray ∈ lw_tbl := tb_3 (List.mem_of_getElem? (i := 145) rfl)
set_option maxRecDepth 20000 in
theorem tw_12_8 : Cond.instanceMethod yX5_newArray ∈ lw_tbl := tb_3 (List.mem_of_getElem? (i := 147) rfl)
set_option maxRecDepth 20000 in
theorem tw_12_9 : Cond.selects RX5 yX5_newArray yX5_newArray ∈ lw_tbl := tb_p (pv_2 (List.mem_of_getElem? (i := 12) rfl))
set_option maxRecDepth 20000 in
theorem tw_12_10 : Cond.code yX5_newArray cX5_newArray 4 (some .int) ∈ lw_tbl := tb_3 (List.mem_of_getElem? (i := 148) rfl)
set_option maxRecDepth 20000 in
theorem tw_12_11 : Cond.methodLink RX5 125 yX5_newTable ∈ lw_tbl := tb_3 (List.mem_of_getElem? (i := 149) rfl)
set_option maxRecDepth 20000 in
theorem tw_12_12 : Cond.instanceMethod yX5_newTable ∈ lw_tbl := tb_3 (List.mem_of_getElem? (i := 151) rfl)
set_option maxRecDepth 20000 in
theorem tw_12_13 : Cond.selects RX5 yX5_newTable yX5_newTable ∈ lw_tbl := tb_p (pv_2 (List.mem_of_getElem? (i := 13) rfl))
set_option maxRecDepth 20000 in
theorem tw_12_14 : Cond.code yX5_newTable cX5_newTable 5 none ∈ lw_tbl := tb_3 (List.mem_of_getElem? (i := 152) rfl)
set_option maxRecDepth 20000 in
theorem tw_12_15 : Cond.fieldLink RX5 105 "ArrayMakerModel" "slots" "I" ∈ lw_tbl := tb_3 (List.mem_of_getElem? (i := 44) rfl)
set_option maxRecDepth 20000 in
theorem tw_12_16 : Cond.methodLink RX5 108 yX5_lengthOf ∈ lw_tbl := tb_3 (List.mem_of_getElem? (i := 153) rfl)
set_option maxRecDepth 20000 in
theorem tw_12_17 : Cond.instanceMethod yX5_lengthOf ∈ lw_tbl := tb_3 (List.mem_of_getElem? (i := 155) rfl)
set_option maxRecDepth 20000 in
theorem tw_12_18 : Cond.selects RX5 yX5_lengthOf yX5_lengthOf ∈ lw_tbl := tb_p (pv_2 (List.mem_of_getElem? (i := 14) rfl))
set_option maxRecDepth 20000 in
theorem tw_12_19 : Cond.code yX5_lengthOf cX5_lengthOf 3 (some .long) ∈ lw_tbl := tb_3 (List.mem_of_getElem? (i := 156) rfl)
set_option maxRecDepth 20000 in
theorem tw_12_20 : Cond.methodLink RX5 111 yX5_newRow ∈ lw_tbl := tb_3 (List.mem_of_getElem? (i := 157) rfl)
set_option maxRecDepth 20000 in
theorem tw_12_21 : Cond.instanceMethod yX5_newRow ∈ lw_tbl := tb_3 (List.mem_of_getElem? (i := 159) rfl)
set_option maxRecDepth 20000 in
theorem tw_12_22 : Cond.selects RX5 yX5_newRow yX5_newRow ∈ lw_tbl := tb_p (pv_2 (List.mem_of_getElem? (i := 15) rfl))
set_option maxRecDepth 20000 in
theorem tw_12_23 : Cond.code yX5_newRow cX5_newRow 3 (some .int) ∈ lw_tbl := tb_3 (List.mem_of_getElem? (i := 160) rfl)
set_option maxRecDepth 20000 in
theorem tw_13_0 : Cond.fieldLink RX5 86 "ArrayMakerModel" "rows" "I" ∈ lw_tbl := tb_3 (List.mem_of_getElem? (i := 38) rfl)
set_option maxRecDepth 20000 in
theorem tw_13_1 : Cond.fieldLink RX5 89 "ArrayMakerModel" "pooled" "I" ∈ lw_tbl := tb_3 (List.mem_of_getElem? (i := 41) rfl)
set_option maxRecDepth 20000 in
theorem tw_13_2 : Cond.methodLink RL 36 yX4_raw ∈ lw_tbl := tb_2 (List.mem_of_getElem? (i := 39) rfl)
set_option maxRecDepth 20000 in
theorem tw_13_3 : Cond.instanceMethod yX4_raw ∈ lw_tbl := tb_2 (List.mem_of_getElem? (i := 40) rfl)
set_option maxRecDepth 20000 in
theorem tw_13_4 : Cond.selects RX4 yX4_raw yX4_raw ∈ lw_tbl := tb_2 (List.mem_of_getElem? (i := 41) rfl)
set_option maxRecDepth 20000 in
theorem tw_13_5 : Cond.code yX4_raw cX4_raw 4 (some .int) ∈ lw_tbl := tb_2 (List.mem_of_getElem? (i := 42) rfl)
set_option maxRecDepth 20000 in
theorem tw_13_6 : Cond.methodLink RL 39 yX5_raw ∈ lw_tbl := tb_3 (List.mem_of_getElem? (i := 161) rfl)
set_option maxRecDepth 20000 in
theorem tw_13_7 : Cond.instanceMethod yX5_raw ∈ lw_tbl := tb_3 (List.mem_of_getElem? (i := 162) rfl)
set_option maxRecDepth 20000 in
theorem tw_13_8 : Cond.selects RX5 yX5_raw yX5_raw ∈ lw_tbl := tb_3 (List.mem_of_getElem? (i := 163) rfl)
set_option maxRecDepth 20000 in
theorem tw_13_9 : Cond.code yX5_raw cX5_raw 3 (some .int) ∈ lw_tbl := tb_3 (List.mem_of_getElem? (i := 164) rfl)
set_option maxRecDepth 20000 in
theorem tw_13_10 : Cond.constantLong RX5 129 (3) ∈ lw_tbl := tb_3 (List.mem_of_getElem? (i := 165) rfl)
set_option maxRecDepth 20000 in
theorem tw_13_11 : Cond.methodLink RL 40 yX4_see ∈ lw_tbl := tb_2 (List.mem_of_getElem? (i := 43) rfl)
set_option maxRecDepth 20000 in
theorem tw_13_12 : Cond.instanceMethod yX4_see ∈ lw_tbl := tb_2 (List.mem_of_getElem? (i := 44) rfl)
set_option maxRecDepth 20000 in
theorem tw_13_13 : Cond.selects RX4 yX4_see yX4_see ∈ lw_tbl := tb_2 (List.mem_of_getElem? (i := 45) rfl)
set_option maxRecDepth 20000 in
theorem tw_13_14 : Cond.code yX4_see cX4_see 4 (some .int) ∈ lw_tbl := tb_2 (List.mem_of_getElem? (i := 46) rfl)
set_option maxRecDepth 20000 in
theorem tw_13_15 : Cond.methodLink RX4 89 yX4_arrayOf ∈ lw_tbl := tb_2 (List.mem_of_getElem? (i := 47) rfl)
set_option maxRecDepth 20000 in
theorem tw_13_16 : Cond.instanceMethod yX4_arrayOf ∈ lw_tbl := tb_2 (List.mem_of_getElem? (i := 49) rfl)
set_option maxRecDepth 20000 in
theorem tw_13_17 : Cond.selects RX4 yX4_arrayOf yX4_arrayOf ∈ lw_tbl := tb_p (pv_1 (List.mem_of_getElem? (i := 11) rfl))
set_option maxRecDepth 20000 in
theorem tw_13_18 : Cond.code yX4_arrayOf cX4_arrayOf 2 (some (.object "ArrayMaker$MadeArray")) ∈ lw_tbl := tb_2 (List.mem_of_getElem? (i := 50) rfl)
set_option maxRecDepth 20000 in
theorem tw_13_19 : Cond.methodLink RX4 92 yX4_whyNoRow ∈ lw_tbl := tb_2 (List.mem_of_getElem? (i := 51) rfl)
set_option maxRecDepth 20000 in
theorem tw_13_20 : Cond.instanceMethod yX4_whyNoRow ∈ lw_tbl := tb_2 (List.mem_of_getElem? (i := 53) rfl)
set_option maxRecDepth 20000 in
theorem tw_13_21 : Cond.selects RX4 yX4_whyNoRow yX4_whyNoRow ∈ lw_tbl := tb_p (pv_1 (List.mem_of_getElem? (i := 12) rfl))
set_option maxRecDepth 20000 in
theorem tw_13_22 : Cond.code yX4_whyNoRow cX4_whyNoRow 2 (some .int) ∈ lw_tbl := tb_2 (List.mem_of_getElem? (i := 54) rfl)
set_option maxRecDepth 20000 in
theorem tw_13_23 : Cond.methodLink RX4 103 yX3_lengthOf ∈ lw_tbl := tb_2 (List.mem_of_getElem? (i := 55) rfl)
set_option maxRecDepth 20000 in
theorem tw_14_0 : Cond.instanceMethod yX3_lengthOf ∈ lw_tbl := tb_2 (List.mem_of_getElem? (i := 56) rfl)
set_option maxRecDepth 20000 in
theorem tw_14_1 : Cond.selects RX3 yX3_lengthOf yX3_lengthOf ∈ lw_tbl := tb_2 (List.mem_of_getElem? (i := 57) rfl)
set_option maxRecDepth 20000 in
theorem tw_14_2 : Cond.code yX3_lengthOf cX3_lengthOf 2 (some .int) ∈ lw_tbl := tb_2 (List.mem_of_getElem? (i := 58) rfl)
set_option maxRecDepth 20000 in
theorem tw_14_3 : Cond.methodLink RL 43 yX5_see ∈ lw_tbl := tb_3 (List.mem_of_getElem? (i := 166) rfl)
set_option maxRecDepth 20000 in
theorem tw_14_4 : Cond.instanceMethod yX5_see ∈ lw_tbl := tb_3 (List.mem_of_getElem? (i := 167) rfl)
set_option maxRecDepth 20000 in
theorem tw_14_5 : Cond.selects RX5 yX5_see yX5_see ∈ lw_tbl := tb_3 (List.mem_of_getElem? (i := 168) rfl)
set_option maxRecDepth 20000 in
theorem tw_14_6 : Cond.code yX5_see cX5_see 4 (some .int) ∈ lw_tbl := tb_3 (List.mem_of_getElem? (i := 169) rfl)
set_option maxRecDepth 20000 in
theorem tw_14_7 : Cond.methodLink RX5 135 yX5_wants ∈ lw_tbl := tb_3 (List.mem_of_getElem? (i := 170) rfl)
set_option maxRecDepth 20000 in
theorem tw_14_8 : Cond.instanceMethod yX5_wants ∈ lw_tbl := tb_3 (List.mem_of_getElem? (i := 172) rfl)
set_option maxRecDepth 20000 in
theorem tw_14_9 : Cond.selects RX5 yX5_wants yX5_wants ∈ lw_tbl := tb_p (pv_3 (List.mem_of_getElem? (i := 0) rfl))
set_option maxRecDepth 20000 in
theorem tw_14_10 : Cond.code yX5_wants cX5_wants 2 (some .int) ∈ lw_tbl := tb_3 (List.mem_of_getElem? (i := 173) rfl)
set_option maxRecDepth 20000 in
theorem tw_14_11 : Cond.methodLink RX5 131 yX5_isArray ∈ lw_tbl := tb_3 (List.mem_of_getElem? (i := 174) rfl)
set_option maxRecDepth 20000 in
theorem tw_14_12 : Cond.instanceMethod yX5_isArray ∈ lw_tbl := tb_3 (List.mem_of_getElem? (i := 176) rfl)
set_option maxRecDepth 20000 in
theorem tw_14_13 : Cond.selects RX5 yX5_isArray yX5_isArray ∈ lw_tbl := tb_p (pv_3 (List.mem_of_getElem? (i := 1) rfl))
set_option maxRecDepth 20000 in
theorem tw_14_14 : Cond.code yX5_isArray cX5_isArray 2 (some .boolean) ∈ lw_tbl := tb_3 (List.mem_of_getElem? (i := 177) rfl)
set_option maxRecDepth 20000 in
theorem tw_14_15 : Cond.methodLink RL 44 yX4_turn ∈ lw_tbl := tb_2 (List.mem_of_getElem? (i := 59) rfl)
set_option maxRecDepth 20000 in
theorem tw_14_16 : Cond.instanceMethod yX4_turn ∈ lw_tbl := tb_2 (List.mem_of_getElem? (i := 60) rfl)
set_option maxRecDepth 20000 in
theorem tw_14_17 : Cond.selects RX4 yX4_turn yX4_turn ∈ lw_tbl := tb_2 (List.mem_of_getElem? (i := 61) rfl)
set_option maxRecDepth 20000 in
theorem tw_14_18 : Cond.code yX4_turn cX4_turn 5 (some .int) ∈ lw_tbl := tb_2 (List.mem_of_getElem? (i := 62) rfl)
set_option maxRecDepth 20000 in
theorem tw_14_19 : Cond.methodLink RX4 109 yX4_findTurned ∈ lw_tbl := tb_2 (List.mem_of_getElem? (i := 63) rfl)
set_option maxRecDepth 20000 in
theorem tw_14_20 : Cond.instanceMethod yX4_findTurned ∈ lw_tbl := tb_2 (List.mem_of_getElem? (i := 65) rfl)
set_option maxRecDepth 20000 in
theorem tw_14_21 : Cond.selects RX4 yX4_findTurned yX4_findTurned ∈ lw_tbl := tb_p (pv_1 (List.mem_of_getElem? (i := 13) rfl))
set_option maxRecDepth 20000 in
theorem tw_14_22 : Cond.code yX4_findTurned cX4_findTurned 10 none ∈ lw_tbl := tb_2 (List.mem_of_getElem? (i := 66) rfl)
set_option maxRecDepth 20000 in
theorem tw_14_23 : Cond.methodLink RX4 127 yX3_startOf ∈ lw_tbl := tb_2 (List.mem_of_getElem? (i := 67) rfl)
set_option maxRecDepth 20000 in
theorem tw_15_0 : Cond.instanceMethod yX3_startOf ∈ lw_tbl := tb_2 (List.mem_of_getElem? (i := 68) rfl)
set_option maxRecDepth 20000 in
theorem tw_15_1 : Cond.selects RX3 yX3_startOf yX3_startOf ∈ lw_tbl := tb_2 (List.mem_of_getElem? (i := 69) rfl)
set_option maxRecDepth 20000 in
theorem tw_15_2 : Cond.code yX3_startOf cX3_startOf 2 (some .int) ∈ lw_tbl := tb_2 (List.mem_of_getElem? (i := 70) rfl)
set_option maxRecDepth 20000 in
theorem tw_15_3 : Cond.methodLink RX4 112 yX2_swapFirstTwo ∈ lw_tbl := tb_2 (List.mem_of_getElem? (i := 71) rfl)
set_option maxRecDepth 20000 in
theorem tw_15_4 : Cond.instanceMethod yX2_swapFirstTwo ∈ lw_tbl := tb_2 (List.mem_of_getElem? (i := 72) rfl)
set_option maxRecDepth 20000 in
theorem tw_15_5 : Cond.selects RX2 yX2_swapFirstTwo yX2_swapFirstTwo ∈ lw_tbl := tb_2 (List.mem_of_getElem? (i := 73) rfl)
set_option maxRecDepth 20000 in
theorem tw_15_6 : Cond.code yX2_swapFirstTwo cX2_swapFirstTwo 3 none ∈ lw_tbl := tb_2 (List.mem_of_getElem? (i := 74) rfl)
set_option maxRecDepth 20000 in
theorem tw_15_7 : Cond.methodLink RX4 115 yX4_copySources ∈ lw_tbl := tb_2 (List.mem_of_getElem? (i := 75) rfl)
set_option maxRecDepth 20000 in
theorem tw_15_8 : Cond.instanceMethod yX4_copySources ∈ lw_tbl := tb_2 (List.mem_of_getElem? (i := 77) rfl)
set_option maxRecDepth 20000 in
theorem tw_15_9 : Cond.selects RX4 yX4_copySources yX4_copySources ∈ lw_tbl := tb_p (pv_1 (List.mem_of_getElem? (i := 14) rfl))
set_option maxRecDepth 20000 in
theorem tw_15_10 : Cond.code yX4_copySources cX4_copySources 4 none ∈ lw_tbl := tb_2 (List.mem_of_getElem? (i := 78) rfl)
set_option maxRecDepth 20000 in
theorem tw_15_11 : Cond.methodLink RX4 136 yX3_copyCells ∈ lw_tbl := tb_2 (List.mem_of_getElem? (i := 79) rfl)
set_option maxRecDepth 20000 in
theorem tw_15_12 : Cond.instanceMethod yX3_copyCells ∈ lw_tbl := tb_2 (List.mem_of_getElem? (i := 80) rfl)
set_option maxRecDepth 20000 in
theorem tw_15_13 : Cond.selects RX3 yX3_copyCells yX3_copyCells ∈ lw_tbl := tb_2 (List.mem_of_getElem? (i := 81) rfl)
set_option maxRecDepth 20000 in
theorem tw_15_14 : Cond.code yX3_copyCells cX3_copyCells 5 none ∈ lw_tbl := tb_2 (List.mem_of_getElem? (i := 82) rfl)
set_option maxRecDepth 20000 in
theorem tw_15_15 : Cond.methodLink RL 47 yX5_turn ∈ lw_tbl := tb_3 (List.mem_of_getElem? (i := 178) rfl)
set_option maxRecDepth 20000 in
theorem tw_15_16 : Cond.instanceMethod yX5_turn ∈ lw_tbl := tb_3 (List.mem_of_getElem? (i := 179) rfl)
set_option maxRecDepth 20000 in
theorem tw_15_17 : Cond.selects RX5 yX5_turn yX5_turn ∈ lw_tbl := tb_3 (List.mem_of_getElem? (i := 180) rfl)
set_option maxRecDepth 20000 in
theorem tw_15_18 : Cond.code yX5_turn cX5_turn 12 (some .int) ∈ lw_tbl := tb_3 (List.mem_of_getElem? (i := 181) rfl)
set_option maxRecDepth 20000 in
theorem tw_15_19 : Cond.methodLink RX5 138 yX5_copy ∈ lw_tbl := tb_3 (List.mem_of_getElem? (i := 182) rfl)
set_option maxRecDepth 20000 in
theorem tw_15_20 : Cond.instanceMethod yX5_copy ∈ lw_tbl := tb_3 (List.mem_of_getElem? (i := 184) rfl)
set_option maxRecDepth 20000 in
theorem tw_15_21 : Cond.selects RX5 yX5_copy yX5_copy ∈ lw_tbl := tb_p (pv_3 (List.mem_of_getElem? (i := 2) rfl))
set_option maxRecDepth 20000 in
theorem tw_15_22 : Cond.code yX5_copy cX5_copy 3 none ∈ lw_tbl := tb_3 (List.mem_of_getElem? (i := 185) rfl)
set_option maxRecDepth 20000 in
theorem tw_15_23 : Cond.methodLink RL 48 yX4_cut ∈ lw_tbl := tb_2 (List.mem_of_getElem? (i := 83) rfl)
set_option maxRecDepth 20000 in
theorem tw_16_0 : Cond.instanceMethod yX4_cut ∈ lw_tbl := tb_2 (List.mem_of_getElem? (i := 84) rfl)
set_option maxRecDepth 20000 in
theorem tw_16_1 : Cond.selects RX4 yX4_cut yX4_cut ∈ lw_tbl := tb_2 (List.mem_of_getElem? (i := 85) rfl)
set_option maxRecDepth 20000 in
theorem tw_16_2 : Cond.code yX4_cut cX4_cut 7 (some .int) ∈ lw_tbl := tb_2 (List.mem_of_getElem? (i := 86) rfl)
set_option maxRecDepth 20000 in
theorem tw_16_3 : Cond.methodLink RX4 118 yX4_findCut ∈ lw_tbl := tb_2 (List.mem_of_getElem? (i := 87) rfl)
set_option maxRecDepth 20000 in
theorem tw_16_4 : Cond.instanceMethod yX4_findCut ∈ lw_tbl := tb_2 (List.mem_of_getElem? (i := 89) rfl)
set_option maxRecDepth 20000 in
theorem tw_16_5 : Cond.selects RX4 yX4_findCut yX4_findCut ∈ lw_tbl := tb_p (pv_1 (List.mem_of_getElem? (i := 15) rfl))
set_option maxRecDepth 20000 in
theorem tw_16_6 : Cond.code yX4_findCut cX4_findCut 11 (some .int) ∈ lw_tbl := tb_2 (List.mem_of_getElem? (i := 90) rfl)
set_option maxRecDepth 20000 in
theorem tw_16_7 : Cond.fieldLink RX4 219 "ArrayMaker$Shape" "low" "[I" ∈ lw_tbl := tb_1 (List.mem_of_getElem? (i := 27) rfl)
set_option maxRecDepth 20000 in
theorem tw_16_8 : Cond.methodLink RX4 244 yX2_firstBeyond ∈ lw_tbl := tb_2 (List.mem_of_getElem? (i := 91) rfl)
set_option maxRecDepth 20000 in
theorem tw_16_9 : Cond.instanceMethod yX2_firstBeyond ∈ lw_tbl := tb_2 (List.mem_of_getElem? (i := 92) rfl)
set_option maxRecDepth 20000 in
theorem tw_16_10 : Cond.selects RX2 yX2_firstBeyond yX2_firstBeyond ∈ lw_tbl := tb_2 (List.mem_of_getElem? (i := 93) rfl)
set_option maxRecDepth 20000 in
theorem tw_16_11 : Cond.code yX2_firstBeyond cX2_firstBeyond 5 (some .int) ∈ lw_tbl := tb_2 (List.mem_of_getElem? (i := 94) rfl)
set_option maxRecDepth 20000 in
theorem tw_16_12 : Cond.methodLink RX2 41 yX2_indexOf ∈ lw_tbl := tb_2 (List.mem_of_getElem? (i := 95) rfl)
set_option maxRecDepth 20000 in
theorem tw_16_13 : Cond.static yX2_indexOf ∈ lw_tbl := tb_2 (List.mem_of_getElem? (i := 96) rfl)
set_option maxRecDepth 20000 in
theorem tw_16_14 : Cond.code yX2_indexOf cX2_indexOf 4 (some .int) ∈ lw_tbl := tb_2 (List.mem_of_getElem? (i := 97) rfl)
set_option maxRecDepth 20000 in
theorem tw_16_15 : Cond.methodLink RX2 45 yX2_holds ∈ lw_tbl := tb_2 (List.mem_of_getElem? (i := 98) rfl)
set_option maxRecDepth 20000 in
theorem tw_16_16 : Cond.instanceMethod yX2_holds ∈ lw_tbl := tb_2 (List.mem_of_getElem? (i := 99) rfl)
set_option maxRecDepth 20000 in
theorem tw_16_17 : Cond.selects RX2 yX2_holds yX2_holds ∈ lw_tbl := tb_2 (List.mem_of_getElem? (i := 100) rfl)
set_option maxRecDepth 20000 in
theorem tw_16_18 : Cond.code yX2_holds cX2_holds 3 (some .boolean) ∈ lw_tbl := tb_2 (List.mem_of_getElem? (i := 101) rfl)
set_option maxRecDepth 20000 in
theorem tw_16_19 : Cond.methodLink RX4 248 yX2_place ∈ lw_tbl := tb_2 (List.mem_of_getElem? (i := 102) rfl)
set_option maxRecDepth 20000 in
theorem tw_16_20 : Cond.instanceMethod yX2_place ∈ lw_tbl := tb_2 (List.mem_of_getElem? (i := 103) rfl)
set_option maxRecDepth 20000 in
theorem tw_16_21 : Cond.selects RX2 yX2_place yX2_place ∈ lw_tbl := tb_2 (List.mem_of_getElem? (i := 104) rfl)
set_option maxRecDepth 20000 in
theorem tw_16_22 : Cond.code yX2_place cX2_place 6 (some .int) ∈ lw_tbl := tb_2 (List.mem_of_getElem? (i := 105) rfl)
set_option maxRecDepth 20000 in
theorem tw_16_23 : Cond.methodLink RX2 49 yX2_offset ∈ lw_tbl := tb_2 (List.mem_of_getElem? (i := 106) rfl)
set_option maxRecDepth 20000 in
theorem tw_17_0 : Cond.instanceMethod yX2_offset ∈ lw_tbl := tb_2 (List.mem_of_getElem? (i := 107) rfl)
set_option maxRecDepth 20000 in
theorem tw_17_1 : Cond.selects RX2 yX2_offset yX2_offset ∈ lw_tbl := tb_2 (List.mem_of_getElem? (i := 108) rfl)
set_option maxRecDepth 20000 in
theorem tw_17_2 : Cond.code yX2_offset cX2_offset 3 (some .int) ∈ lw_tbl := tb_2 (List.mem_of_getElem? (i := 109) rfl)
set_option maxRecDepth 20000 in
theorem tw_17_3 : Cond.methodLink RX4 121 yX4_stopBeyond ∈ lw_tbl := tb_2 (List.mem_of_getElem? (i := 110) rfl)
set_option maxRecDepth 20000 in
theorem tw_17_4 : Cond.instanceMethod yX4_stopBeyond ∈ lw_tbl := tb_2 (List.mem_of_getElem? (i := 112) rfl)
set_option maxRecDepth 20000 in
theorem tw_17_5 : Cond.selects RX4 yX4_stopBeyond yX4_stopBeyond ∈ lw_tbl := tb_p (pv_2 (List.mem_of_getElem? (i := 0) rfl))
set_option maxRecDepth 20000 in
theorem tw_17_6 : Cond.code yX4_stopBeyond cX4_stopBeyond 2 (some .int) ∈ lw_tbl := tb_2 (List.mem_of_getElem? (i := 113) rfl)
set_option maxRecDepth 20000 in
theorem tw_17_7 : Cond.methodLink RL 51 yX5_cut ∈ lw_tbl := tb_3 (List.mem_of_getElem? (i := 186) rfl)
set_option maxRecDepth 20000 in
theorem tw_17_8 : Cond.instanceMethod yX5_cut ∈ lw_tbl := tb_3 (List.mem_of_getElem? (i := 187) rfl)
set_option maxRecDepth 20000 in
theorem tw_17_9 : Cond.selects RX5 yX5_cut yX5_cut ∈ lw_tbl := tb_3 (List.mem_of_getElem? (i := 188) rfl)
set_option maxRecDepth 20000 in
theorem tw_17_10 : Cond.code yX5_cut cX5_cut 9 (some .int) ∈ lw_tbl := tb_3 (List.mem_of_getElem? (i := 189) rfl)
set_option maxRecDepth 20000 in
theorem tw_17_11 : Cond.fieldLink RX5 142 "ArrayMakerModel" "beyond" "I" ∈ lw_tbl := tb_3 (List.mem_of_getElem? (i := 51) rfl)
set_option maxRecDepth 20000 in
theorem tw_17_12 : Cond.methodLink RX5 145 yX5_index ∈ lw_tbl := tb_3 (List.mem_of_getElem? (i := 190) rfl)
set_option maxRecDepth 20000 in
theorem tw_17_13 : Cond.static yX5_index ∈ lw_tbl := tb_3 (List.mem_of_getElem? (i := 191) rfl)
set_option maxRecDepth 20000 in
theorem tw_17_14 : Cond.code yX5_index cX5_index 2 (some .int) ∈ lw_tbl := tb_3 (List.mem_of_getElem? (i := 192) rfl)
set_option maxRecDepth 20000 in
theorem tw_17_15 : Cond.methodLink RX5 148 yX5_placeOf ∈ lw_tbl := tb_3 (List.mem_of_getElem? (i := 193) rfl)
set_option maxRecDepth 20000 in
theorem tw_17_16 : Cond.instanceMethod yX5_placeOf ∈ lw_tbl := tb_3 (List.mem_of_getElem? (i := 195) rfl)
set_option maxRecDepth 20000 in
theorem tw_17_17 : Cond.selects RX5 yX5_placeOf yX5_placeOf ∈ lw_tbl := tb_p (pv_3 (List.mem_of_getElem? (i := 3) rfl))
set_option maxRecDepth 20000 in
theorem tw_17_18 : Cond.code yX5_placeOf cX5_placeOf 9 (some .int) ∈ lw_tbl := tb_3 (List.mem_of_getElem? (i := 196) rfl)
set_option maxRecDepth 20000 in
theorem tw_17_19 : Cond.methodLink RX5 152 yX5_noItem ∈ lw_tbl := tb_3 (List.mem_of_getElem? (i := 197) rfl)
set_option maxRecDepth 20000 in
theorem tw_17_20 : Cond.instanceMethod yX5_noItem ∈ lw_tbl := tb_3 (List.mem_of_getElem? (i := 199) rfl)
set_option maxRecDepth 20000 in
theorem tw_17_21 : Cond.selects RX5 yX5_noItem yX5_noItem ∈ lw_tbl := tb_p (pv_3 (List.mem_of_getElem? (i := 4) rfl))
set_option maxRecDepth 20000 in
theorem tw_17_22 : Cond.code yX5_noItem cX5_noItem 2 (some .int) ∈ lw_tbl := tb_3 (List.mem_of_getElem? (i := 200) rfl)
set_option maxRecDepth 20000 in
theorem tw_17_23 : Cond.methodLink RL 52 yX4_deep ∈ lw_tbl := tb_2 (List.mem_of_getElem? (i := 114) rfl)
set_option maxRecDepth 20000 in
theorem tw_18_0 : Cond.instanceMethod yX4_deep ∈ lw_tbl := tb_2 (List.mem_of_getElem? (i := 115) rfl)
set_option maxRecDepth 20000 in
theorem tw_18_1 : Cond.selects RX4 yX4_deep yX4_deep ∈ lw_tbl := tb_2 (List.mem_of_getElem? (i := 116) rfl)
set_option maxRecDepth 20000 in
theorem tw_18_2 : Cond.code yX4_deep cX4_deep 8 (some .int) ∈ lw_tbl := tb_2 (List.mem_of_getElem? (i := 117) rfl)
set_option maxRecDepth 20000 in
theorem tw_18_3 : Cond.methodLink RX4 124 yX4_whyNotDeep ∈ lw_tbl := tb_2 (List.mem_of_getElem? (i := 118) rfl)
set_option maxRecDepth 20000 in
theorem tw_18_4 : Cond.instanceMethod yX4_whyNotDeep ∈ lw_tbl := tb_2 (List.mem_of_getElem? (i := 120) rfl)
set_option maxRecDepth 20000 in
theorem tw_18_5 : Cond.selects RX4 yX4_whyNotDeep yX4_whyNotDeep ∈ lw_tbl := tb_p (pv_2 (List.mem_of_getElem? (i := 1) rfl))
set_option maxRecDepth 20000 in
theorem tw_18_6 : Cond.code yX4_whyNotDeep cX4_whyNotDeep 3 (some .int) ∈ lw_tbl := tb_2 (List.mem_of_getElem? (i := 121) rfl)
set_option maxRecDepth 20000 in
theorem tw_18_7 : Cond.methodLink RL 55 yX5_deep ∈ lw_tbl := tb_3 (List.mem_of_getElem? (i := 201) rfl)
set_option maxRecDepth 20000 in
theorem tw_18_8 : Cond.instanceMethod yX5_deep ∈ lw_tbl := tb_3 (List.mem_of_getElem? (i := 202) rfl)
set_option maxRecDepth 20000 in
theorem tw_18_9 : Cond.selects RX5 yX5_deep yX5_deep ∈ lw_tbl := tb_3 (List.mem_of_getElem? (i := 203) rfl)
set_option maxRecDepth 20000 in
theorem tw_18_10 : Cond.code yX5_deep cX5_deep 6 (some .int) ∈ lw_tbl := tb_3 (List.mem_of_getElem? (i := 204) rfl)
set_option maxRecDepth 20000 in
theorem tw_18_11 : Cond.methodLink RL 56 yX4_flat ∈ lw_tbl := tb_2 (List.mem_of_getElem? (i := 122) rfl)
set_option maxRecDepth 20000 in
theorem tw_18_12 : Cond.instanceMethod yX4_flat ∈ lw_tbl := tb_2 (List.mem_of_getElem? (i := 123) rfl)
set_option maxRecDepth 20000 in
theorem tw_18_13 : Cond.selects RX4 yX4_flat yX4_flat ∈ lw_tbl := tb_2 (List.mem_of_getElem? (i := 124) rfl)
set_option maxRecDepth 20000 in
theorem tw_18_14 : Cond.code yX4_flat cX4_flat 8 (some .int) ∈ lw_tbl := tb_2 (List.mem_of_getElem? (i := 125) rfl)
set_option maxRecDepth 20000 in
theorem tw_18_15 : Cond.methodLink RX4 140 yX4_whyNotFlat ∈ lw_tbl := tb_2 (List.mem_of_getElem? (i := 126) rfl)
set_option maxRecDepth 20000 in
theorem tw_18_16 : Cond.instanceMethod yX4_whyNotFlat ∈ lw_tbl := tb_2 (List.mem_of_getElem? (i := 128) rfl)
set_option maxRecDepth 20000 in
theorem tw_18_17 : Cond.selects RX4 yX4_whyNotFlat yX4_whyNotFlat ∈ lw_tbl := tb_p (pv_2 (List.mem_of_getElem? (i := 2) rfl))
set_option maxRecDepth 20000 in
theorem tw_18_18 : Cond.code yX4_whyNotFlat cX4_whyNotFlat 6 (some .int) ∈ lw_tbl := tb_2 (List.mem_of_getElem? (i := 129) rfl)
set_option maxRecDepth 20000 in
theorem tw_18_19 : Cond.methodLink RL 59 yX5_flat ∈ lw_tbl := tb_3 (List.mem_of_getElem? (i := 205) rfl)
set_option maxRecDepth 20000 in
theorem tw_18_20 : Cond.instanceMethod yX5_flat ∈ lw_tbl := tb_3 (List.mem_of_getElem? (i := 206) rfl)
set_option maxRecDepth 20000 in
theorem tw_18_21 : Cond.selects RX5 yX5_flat yX5_flat ∈ lw_tbl := tb_3 (List.mem_of_getElem? (i := 207) rfl)
set_option maxRecDepth 20000 in
theorem tw_18_22 : Cond.code yX5_flat cX5_flat 9 (some .int) ∈ lw_tbl := tb_3 (List.mem_of_getElem? (i := 208) rfl)
set_option maxRecDepth 20000 in
theorem tw_18_23 : Cond.methodLink RX5 155 yX5_tableRows ∈ lw_tbl := tb_3 (List.mem_of_getElem? (i := 209) rfl)
set_option maxRecDepth 20000 in
theorem tw_19_0 : Cond.instanceMethod yX5_tableRows ∈ lw_tbl := tb_3 (List.mem_of_getElem? (i := 211) rfl)
set_option maxRecDepth 20000 in
theorem tw_19_1 : Cond.selects RX5 yX5_tableRows yX5_tableRows ∈ lw_tbl := tb_p (pv_3 (List.mem_of_getElem? (i := 5) rfl))
set_option maxRecDepth 20000 in
theorem tw_19_2 : Cond.code yX5_tableRows cX5_tableRows 2 (some .int) ∈ lw_tbl := tb_3 (List.mem_of_getElem? (i := 212) rfl)
set_option maxRecDepth 20000 in
theorem tw_19_3 : Cond.methodLink RL 60 yX4_ragged ∈ lw_tbl := tb_2 (List.mem_of_getElem? (i := 130) rfl)
set_option maxRecDepth 20000 in
theorem tw_19_4 : Cond.instanceMethod yX4_ragged ∈ lw_tbl := tb_2 (List.mem_of_getElem? (i := 131) rfl)
set_option maxRecDepth 20000 in
theorem tw_19_5 : Cond.selects RX4 yX4_ragged yX4_ragged ∈ lw_tbl := tb_2 (List.mem_of_getElem? (i := 132) rfl)
set_option maxRecDepth 20000 in
theorem tw_19_6 : Cond.code yX4_ragged cX4_ragged 6 (some .int) ∈ lw_tbl := tb_2 (List.mem_of_getElem? (i := 133) rfl)
set_option maxRecDepth 20000 in
theorem tw_19_7 : Cond.methodLink RX4 143 yX4_whyNoTableRow ∈ lw_tbl := tb_2 (List.mem_of_getElem? (i := 134) rfl)
set_option maxRecDepth 20000 in
theorem tw_19_8 : Cond.instanceMethod yX4_whyNoTableRow ∈ lw_tbl := tb_2 (List.mem_of_getElem? (i := 136) rfl)
set_option maxRecDepth 20000 in
theorem tw_19_9 : Cond.selects RX4 yX4_whyNoTableRow yX4_whyNoTableRow ∈ lw_tbl := tb_p (pv_2 (List.mem_of_getElem? (i := 3) rfl))
set_option maxRecDepth 20000 in
theorem tw_19_10 : Cond.code yX4_whyNoTableRow cX4_whyNoTableRow 3 (some .int) ∈ lw_tbl := tb_2 (List.mem_of_getElem? (i := 137) rfl)
set_option maxRecDepth 20000 in
theorem tw_19_11 : Cond.methodLink RX4 158 yX2_holds ∈ lw_tbl := tb_2 (List.mem_of_getElem? (i := 138) rfl)
set_option maxRecDepth 20000 in
theorem tw_19_12 : Cond.methodLink RX4 150 yX2_offset ∈ lw_tbl := tb_2 (List.mem_of_getElem? (i := 139) rfl)
set_option maxRecDepth 20000 in
theorem tw_19_13 : Cond.methodLink RL 64 yX5_ragged ∈ lw_tbl := tb_3 (List.mem_of_getElem? (i := 213) rfl)
set_option maxRecDepth 20000 in
theorem tw_19_14 : Cond.instanceMethod yX5_ragged ∈ lw_tbl := tb_3 (List.mem_of_getElem? (i := 214) rfl)
set_option maxRecDepth 20000 in
theorem tw_19_15 : Cond.selects RX5 yX5_ragged yX5_ragged ∈ lw_tbl := tb_3 (List.mem_of_getElem? (i := 215) rfl)
set_option maxRecDepth 20000 in
theorem tw_19_16 : Cond.code yX5_ragged cX5_ragged 5 (some .int) ∈ lw_tbl := tb_3 (List.mem_of_getElem? (i := 216) rfl)
set_option maxRecDepth 20000 in
theorem tw_19_17 : Cond.methodLink RX5 158 yX5_wantsRow ∈ lw_tbl := tb_3 (List.mem_of_getElem? (i := 217) rfl)
set_option maxRecDepth 20000 in
theorem tw_19_18 : Cond.instanceMethod yX5_wantsRow ∈ lw_tbl := tb_3 (List.mem_of_getElem? (i := 219) rfl)
set_option maxRecDepth 20000 in
theorem tw_19_19 : Cond.selects RX5 yX5_wantsRow yX5_wantsRow ∈ lw_tbl := tb_p (pv_3 (List.mem_of_getElem? (i := 6) rfl))
set_option maxRecDepth 20000 in
theorem tw_19_20 : Cond.code yX5_wantsRow cX5_wantsRow 3 (some .int) ∈ lw_tbl := tb_3 (List.mem_of_getElem? (i := 220) rfl)
set_option maxRecDepth 20000 in
theorem tw_19_21 : Cond.methodLink RX5 161 yX5_slotOf ∈ lw_tbl := tb_3 (List.mem_of_getElem? (i := 221) rfl)
set_option maxRecDepth 20000 in
theorem tw_19_22 : Cond.instanceMethod yX5_slotOf ∈ lw_tbl := tb_3 (List.mem_of_getElem? (i := 223) rfl)
set_option maxRecDepth 20000 in
theorem tw_19_23 : Cond.selects RX5 yX5_slotOf yX5_slotOf ∈ lw_tbl := tb_p (pv_3 (List.mem_of_getElem? (i := 7) rfl))
set_option maxRecDepth 20000 in
theorem tw_20_0 : Cond.code yX5_slotOf cX5_slotOf 3 (some .int) ∈ lw_tbl := tb_3 (List.mem_of_getElem? (i := 224) rfl)
set_option maxRecDepth 20000 in
theorem tw_20_1 : Cond.methodLink RL 65 yX4_without ∈ lw_tbl := tb_2 (List.mem_of_getElem? (i := 140) rfl)
set_option maxRecDepth 20000 in
theorem tw_20_2 : Cond.instanceMethod yX4_without ∈ lw_tbl := tb_2 (List.mem_of_getElem? (i := 141) rfl)
set_option maxRecDepth 20000 in
theorem tw_20_3 : Cond.selects RX4 yX4_without yX4_without ∈ lw_tbl := tb_2 (List.mem_of_getElem? (i := 142) rfl)
set_option maxRecDepth 20000 in
theorem tw_20_4 : Cond.code yX4_without cX4_without 5 (some .int) ∈ lw_tbl := tb_2 (List.mem_of_getElem? (i := 143) rfl)
set_option maxRecDepth 20000 in
theorem tw_20_5 : Cond.methodLink RL 68 yX5_without ∈ lw_tbl := tb_3 (List.mem_of_getElem? (i := 225) rfl)
set_option maxRecDepth 20000 in
theorem tw_20_6 : Cond.instanceMethod yX5_without ∈ lw_tbl := tb_3 (List.mem_of_getElem? (i := 226) rfl)
set_option maxRecDepth 20000 in
theorem tw_20_7 : Cond.selects RX5 yX5_without yX5_without ∈ lw_tbl := tb_3 (List.mem_of_getElem? (i := 227) rfl)
set_option maxRecDepth 20000 in
theorem tw_20_8 : Cond.code yX5_without cX5_without 4 (some .int) ∈ lw_tbl := tb_3 (List.mem_of_getElem? (i := 228) rfl)
set_option maxRecDepth 20000 in
theorem tw_20_9 : Cond.methodLink RL 69 yX4_tie ∈ lw_tbl := tb_2 (List.mem_of_getElem? (i := 144) rfl)
set_option maxRecDepth 20000 in
theorem tw_20_10 : Cond.instanceMethod yX4_tie ∈ lw_tbl := tb_2 (List.mem_of_getElem? (i := 145) rfl)
set_option maxRecDepth 20000 in
theorem tw_20_11 : Cond.selects RX4 yX4_tie yX4_tie ∈ lw_tbl := tb_2 (List.mem_of_getElem? (i := 146) rfl)
set_option maxRecDepth 20000 in
theorem tw_20_12 : Cond.code yX4_tie cX4_tie 7 (some .int) ∈ lw_tbl := tb_2 (List.mem_of_getElem? (i := 147) rfl)
set_option maxRecDepth 20000 in
theorem tw_20_13 : Cond.methodLink RL 73 yX5_tie ∈ lw_tbl := tb_3 (List.mem_of_getElem? (i := 229) rfl)
set_option maxRecDepth 20000 in
theorem tw_20_14 : Cond.instanceMethod yX5_tie ∈ lw_tbl := tb_3 (List.mem_of_getElem? (i := 230) rfl)
set_option maxRecDepth 20000 in
theorem tw_20_15 : Cond.selects RX5 yX5_tie yX5_tie ∈ lw_tbl := tb_3 (List.mem_of_getElem? (i := 231) rfl)
set_option maxRecDepth 20000 in
theorem tw_20_16 : Cond.code yX5_tie cX5_tie 5 (some .int) ∈ lw_tbl := tb_3 (List.mem_of_getElem? (i := 232) rfl)
set_option maxRecDepth 20000 in
theorem tw_20_17 : Cond.methodLink RL 74 yX4_get ∈ lw_tbl := tb_2 (List.mem_of_getElem? (i := 148) rfl)
set_option maxRecDepth 20000 in
theorem tw_20_18 : Cond.instanceMethod yX4_get ∈ lw_tbl := tb_2 (List.mem_of_getElem? (i := 149) rfl)
set_option maxRecDepth 20000 in
theorem tw_20_19 : Cond.selects RX4 yX4_get yX4_get ∈ lw_tbl := tb_2 (List.mem_of_getElem? (i := 150) rfl)
set_option maxRecDepth 20000 in
theorem tw_20_20 : Cond.code yX4_get cX4_get 6 (some .long) ∈ lw_tbl := tb_2 (List.mem_of_getElem? (i := 151) rfl)
set_option maxRecDepth 20000 in
theorem tw_20_21 : Cond.fieldLink RX4 165 "ArrayMaker$Store" "filled" "[Z" ∈ lw_tbl := tb_1 (List.mem_of_getElem? (i := 77) rfl)
set_option maxRecDepth 20000 in
theorem tw_20_22 : Cond.fieldLink RX4 169 "ArrayMaker$Store" "numbers" "[J" ∈ lw_tbl := tb_1 (List.mem_of_getElem? (i := 75) rfl)
set_option maxRecDepth 20000 in
theorem tw_20_23 : Cond.methodLink RX4 161 yX4_cellOf ∈ lw_tbl := tb_2 (List.mem_of_getElem? (i := 152) rfl)
set_option maxRecDepth 20000 in
theorem tw_21_0 : Cond.instanceMethod yX4_cellOf ∈ lw_tbl := tb_2 (List.mem_of_getElem? (i := 154) rfl)
set_option maxRecDepth 20000 in
theorem tw_21_1 : Cond.selects RX4 yX4_cellOf yX4_cellOf ∈ lw_tbl := tb_p (pv_2 (List.mem_of_getElem? (i := 4) rfl))
set_option maxRecDepth 20000 in
theorem tw_21_2 : Cond.code yX4_cellOf cX4_cellOf 6 (some .int) ∈ lw_tbl := tb_2 (List.mem_of_getElem? (i := 155) rfl)
set_option maxRecDepth 20000 in
theorem tw_21_3 : Cond.methodLink RX4 251 yX4_tableCellOf ∈ lw_tbl := tb_2 (List.mem_of_getElem? (i := 156) rfl)
set_option maxRecDepth 20000 in
theorem tw_21_4 : Cond.instanceMethod yX4_tableCellOf ∈ lw_tbl := tb_2 (List.mem_of_getElem? (i := 158) rfl)
set_option maxRecDepth 20000 in
theorem tw_21_5 : Cond.selects RX4 yX4_tableCellOf yX4_tableCellOf ∈ lw_tbl := tb_p (pv_2 (List.mem_of_getElem? (i := 5) rfl))
set_option maxRecDepth 20000 in
theorem tw_21_6 : Cond.code yX4_tableCellOf cX4_tableCellOf 7 (some .int) ∈ lw_tbl := tb_2 (List.mem_of_getElem? (i := 159) rfl)
set_option maxRecDepth 20000 in
theorem tw_21_7 : Cond.methodLink RL 78 yX5_get ∈ lw_tbl := tb_3 (List.mem_of_getElem? (i := 233) rfl)
set_option maxRecDepth 20000 in
theorem tw_21_8 : Cond.instanceMethod yX5_get ∈ lw_tbl := tb_3 (List.mem_of_getElem? (i := 234) rfl)
set_option maxRecDepth 20000 in
theorem tw_21_9 : Cond.selects RX5 yX5_get yX5_get ∈ lw_tbl := tb_3 (List.mem_of_getElem? (i := 235) rfl)
set_option maxRecDepth 20000 in
theorem tw_21_10 : Cond.code yX5_get cX5_get 6 (some .long) ∈ lw_tbl := tb_3 (List.mem_of_getElem? (i := 236) rfl)
set_option maxRecDepth 20000 in
theorem tw_21_11 : Cond.methodLink RX5 164 yX5_find ∈ lw_tbl := tb_3 (List.mem_of_getElem? (i := 237) rfl)
set_option maxRecDepth 20000 in
theorem tw_21_12 : Cond.instanceMethod yX5_find ∈ lw_tbl := tb_3 (List.mem_of_getElem? (i := 239) rfl)
set_option maxRecDepth 20000 in
theorem tw_21_13 : Cond.selects RX5 yX5_find yX5_find ∈ lw_tbl := tb_p (pv_3 (List.mem_of_getElem? (i := 8) rfl))
set_option maxRecDepth 20000 in
theorem tw_21_14 : Cond.code yX5_find cX5_find 9 (some .int) ∈ lw_tbl := tb_4 (List.mem_of_getElem? (i := 0) rfl)
set_option maxRecDepth 20000 in
theorem tw_21_15 : Cond.methodLink RL 81 yX4_put ∈ lw_tbl := tb_2 (List.mem_of_getElem? (i := 160) rfl)
set_option maxRecDepth 20000 in
theorem tw_21_16 : Cond.instanceMethod yX4_put ∈ lw_tbl := tb_2 (List.mem_of_getElem? (i := 161) rfl)
set_option maxRecDepth 20000 in
theorem tw_21_17 : Cond.selects RX4 yX4_put yX4_put ∈ lw_tbl := tb_2 (List.mem_of_getElem? (i := 162) rfl)
set_option maxRecDepth 20000 in
theorem tw_21_18 : Cond.code yX4_put cX4_put 9 (some .int) ∈ lw_tbl := tb_2 (List.mem_of_getElem? (i := 163) rfl)
set_option maxRecDepth 20000 in
theorem tw_21_19 : Cond.methodLink RX4 173 yX4_fitted ∈ lw_tbl := tb_2 (List.mem_of_getElem? (i := 164) rfl)
set_option maxRecDepth 20000 in
theorem tw_21_20 : Cond.static yX4_fitted ∈ lw_tbl := tb_2 (List.mem_of_getElem? (i := 165) rfl)
set_option maxRecDepth 20000 in
theorem tw_21_21 : Cond.code yX4_fitted cX4_fitted 3 (some .long) ∈ lw_tbl := tb_2 (List.mem_of_getElem? (i := 166) rfl)
set_option maxRecDepth 20000 in
theorem tw_21_22 : Cond.methodLink RX4 177 yX3_fill ∈ lw_tbl := tb_2 (List.mem_of_getElem? (i := 167) rfl)
set_option maxRecDepth 20000 in
theorem tw_21_23 : Cond.instanceMethod yX3_fill ∈ lw_tbl := tb_2 (List.mem_of_getElem? (i := 168) rfl)
set_option maxRecDepth 20000 in
theorem tw_22_0 : Cond.selects RX3 yX3_fill yX3_fill ∈ lw_tbl := tb_2 (List.mem_of_getElem? (i := 169) rfl)
set_option maxRecDepth 20000 in
theorem tw_22_1 : Cond.code yX3_fill cX3_fill 4 none ∈ lw_tbl := tb_2 (List.mem_of_getElem? (i := 170) rfl)
set_option maxRecDepth 20000 in
theorem tw_22_2 : Cond.methodLink RL 85 yX5_put ∈ lw_tbl := tb_4 (List.mem_of_getElem? (i := 1) rfl)
set_option maxRecDepth 20000 in
theorem tw_22_3 : Cond.instanceMethod yX5_put ∈ lw_tbl := tb_4 (List.mem_of_getElem? (i := 2) rfl)
set_option maxRecDepth 20000 in
theorem tw_22_4 : Cond.selects RX5 yX5_put yX5_put ∈ lw_tbl := tb_4 (List.mem_of_getElem? (i := 3) rfl)
set_option maxRecDepth 20000 in
theorem tw_22_5 : Cond.code yX5_put cX5_put 8 (some .int) ∈ lw_tbl := tb_4 (List.mem_of_getElem? (i := 4) rfl)
set_option maxRecDepth 20000 in
theorem tw_22_6 : Cond.methodLink RX5 171 yX5_lay ∈ lw_tbl := tb_4 (List.mem_of_getElem? (i := 5) rfl)
set_option maxRecDepth 20000 in
theorem tw_22_7 : Cond.instanceMethod yX5_lay ∈ lw_tbl := tb_4 (List.mem_of_getElem? (i := 7) rfl)
set_option maxRecDepth 20000 in
theorem tw_22_8 : Cond.selects RX5 yX5_lay yX5_lay ∈ lw_tbl := tb_p (pv_3 (List.mem_of_getElem? (i := 9) rfl))
set_option maxRecDepth 20000 in
theorem tw_22_9 : Cond.code yX5_lay cX5_lay 5 none ∈ lw_tbl := tb_4 (List.mem_of_getElem? (i := 8) rfl)
set_option maxRecDepth 20000 in
theorem tw_22_10 : Cond.methodLink RX5 167 yX5_as ∈ lw_tbl := tb_4 (List.mem_of_getElem? (i := 9) rfl)
set_option maxRecDepth 20000 in
theorem tw_22_11 : Cond.static yX5_as ∈ lw_tbl := tb_4 (List.mem_of_getElem? (i := 10) rfl)
set_option maxRecDepth 20000 in
theorem tw_22_12 : Cond.code yX5_as cX5_as 5 (some .long) ∈ lw_tbl := tb_4 (List.mem_of_getElem? (i := 11) rfl)
set_option maxRecDepth 20000 in
theorem tw_22_13 : Cond.constantLong RX5 92 (255) ∈ lw_tbl := tb_4 (List.mem_of_getElem? (i := 12) rfl)
set_option maxRecDepth 20000 in
theorem tw_22_14 : Cond.constantLong RX5 94 (127) ∈ lw_tbl := tb_4 (List.mem_of_getElem? (i := 13) rfl)
set_option maxRecDepth 20000 in
theorem tw_22_15 : Cond.constantLong RX5 96 (256) ∈ lw_tbl := tb_4 (List.mem_of_getElem? (i := 14) rfl)
set_option maxRecDepth 20000 in
theorem tw_22_16 : Cond.methodLink RL 86 yX4_empty ∈ lw_tbl := tb_2 (List.mem_of_getElem? (i := 171) rfl)
set_option maxRecDepth 20000 in
theorem tw_22_17 : Cond.instanceMethod yX4_empty ∈ lw_tbl := tb_2 (List.mem_of_getElem? (i := 172) rfl)
set_option maxRecDepth 20000 in
theorem tw_22_18 : Cond.selects RX4 yX4_empty yX4_empty ∈ lw_tbl := tb_2 (List.mem_of_getElem? (i := 173) rfl)
set_option maxRecDepth 20000 in
theorem tw_22_19 : Cond.code yX4_empty cX4_empty 7 (some .int) ∈ lw_tbl := tb_2 (List.mem_of_getElem? (i := 174) rfl)
set_option maxRecDepth 20000 in
theorem tw_22_20 : Cond.methodLink RX4 181 yX3_drain ∈ lw_tbl := tb_2 (List.mem_of_getElem? (i := 175) rfl)
set_option maxRecDepth 20000 in
theorem tw_22_21 : Cond.instanceMethod yX3_drain ∈ lw_tbl := tb_2 (List.mem_of_getElem? (i := 176) rfl)
set_option maxRecDepth 20000 in
theorem tw_22_22 : Cond.selects RX3 yX3_drain yX3_drain ∈ lw_tbl := tb_2 (List.mem_of_getElem? (i := 177) rfl)
set_option maxRecDepth 20000 in
theorem tw_22_23 : Cond.code yX3_drain cX3_drain 2 none ∈ lw_tbl := tb_2 (List.mem_of_getElem? (i := 178) rfl)
set_option maxRecDepth 20000 in
theorem tw_23_0 : Cond.methodLink RL 89 yX5_empty ∈ lw_tbl := tb_4 (List.mem_of_getElem? (i := 15) rfl)
set_option maxRecDepth 20000 in
theorem tw_23_1 : Cond.instanceMethod yX5_empty ∈ lw_tbl := tb_4 (List.mem_of_getElem? (i := 16) rfl)
set_option maxRecDepth 20000 in
theorem tw_23_2 : Cond.selects RX5 yX5_empty yX5_empty ∈ lw_tbl := tb_4 (List.mem_of_getElem? (i := 17) rfl)
set_option maxRecDepth 20000 in
theorem tw_23_3 : Cond.code yX5_empty cX5_empty 6 (some .int) ∈ lw_tbl := tb_4 (List.mem_of_getElem? (i := 18) rfl)
set_option maxRecDepth 20000 in
theorem tw_23_4 : Cond.methodLink RL 90 yX4_pair ∈ lw_tbl := tb_2 (List.mem_of_getElem? (i := 179) rfl)
set_option maxRecDepth 20000 in
theorem tw_23_5 : Cond.instanceMethod yX4_pair ∈ lw_tbl := tb_2 (List.mem_of_getElem? (i := 180) rfl)
set_option maxRecDepth 20000 in
theorem tw_23_6 : Cond.selects RX4 yX4_pair yX4_pair ∈ lw_tbl := tb_2 (List.mem_of_getElem? (i := 181) rfl)
set_option maxRecDepth 20000 in
theorem tw_23_7 : Cond.code yX4_pair cX4_pair 6 (some .int) ∈ lw_tbl := tb_2 (List.mem_of_getElem? (i := 182) rfl)
set_option maxRecDepth 20000 in
theorem tw_23_8 : Cond.fieldLink RX4 185 "ArrayMaker$Lines" "count" "I" ∈ lw_tbl := tb_1 (List.mem_of_getElem? (i := 55) rfl)
set_option maxRecDepth 20000 in
theorem tw_23_9 : Cond.methodLink RX4 186 yX0_add ∈ lw_tbl := tb_2 (List.mem_of_getElem? (i := 183) rfl)
set_option maxRecDepth 20000 in
theorem tw_23_10 : Cond.instanceMethod yX0_add ∈ lw_tbl := tb_2 (List.mem_of_getElem? (i := 184) rfl)
set_option maxRecDepth 20000 in
theorem tw_23_11 : Cond.selects RX0 yX0_add yX0_add ∈ lw_tbl := tb_2 (List.mem_of_getElem? (i := 185) rfl)
set_option maxRecDepth 20000 in
theorem tw_23_12 : Cond.code yX0_add cX0_add 6 none ∈ lw_tbl := tb_2 (List.mem_of_getElem? (i := 186) rfl)
set_option maxRecDepth 20000 in
theorem tw_23_13 : Cond.fieldLink RX0 25 "ArrayMaker$Lines" "count" "I" ∈ lw_tbl := tb_1 (List.mem_of_getElem? (i := 54) rfl)
set_option maxRecDepth 20000 in
theorem tw_23_14 : Cond.methodLink RL 94 yX5_pair ∈ lw_tbl := tb_4 (List.mem_of_getElem? (i := 19) rfl)
set_option maxRecDepth 20000 in
theorem tw_23_15 : Cond.instanceMethod yX5_pair ∈ lw_tbl := tb_4 (List.mem_of_getElem? (i := 20) rfl)
set_option maxRecDepth 20000 in
theorem tw_23_16 : Cond.selects RX5 yX5_pair yX5_pair ∈ lw_tbl := tb_4 (List.mem_of_getElem? (i := 21) rfl)
set_option maxRecDepth 20000 in
theorem tw_23_17 : Cond.code yX5_pair cX5_pair 6 (some .int) ∈ lw_tbl := tb_4 (List.mem_of_getElem? (i := 22) rfl)
set_option maxRecDepth 20000 in
theorem tw_23_18 : Cond.fieldLink RX5 175 "ArrayMakerModel" "lines" "I" ∈ lw_tbl := tb_3 (List.mem_of_getElem? (i := 46) rfl)
set_option maxRecDepth 20000 in
theorem tw_23_19 : Cond.methodLink RL 95 yX4_gather ∈ lw_tbl := tb_2 (List.mem_of_getElem? (i := 187) rfl)
set_option maxRecDepth 20000 in
theorem tw_23_20 : Cond.instanceMethod yX4_gather ∈ lw_tbl := tb_2 (List.mem_of_getElem? (i := 188) rfl)
set_option maxRecDepth 20000 in
theorem tw_23_21 : Cond.selects RX4 yX4_gather yX4_gather ∈ lw_tbl := tb_2 (List.mem_of_getElem? (i := 189) rfl)
set_option maxRecDepth 20000 in
theorem tw_23_22 : Cond.code yX4_gather cX4_gather 7 (some .int) ∈ lw_tbl := tb_2 (List.mem_of_getElem? (i := 190) rfl)
set_option maxRecDepth 20000 in
theorem tw_23_23 : Cond.fieldLink RX4 189 "ArrayMaker$Lines" "i" "[I" ∈ lw_tbl := tb_1 (List.mem_of_getElem? (i := 47) rfl)
set_option maxRecDepth 20000 in
theorem tw_24_0 : Cond.fieldLink RX4 192 "ArrayMaker$Lines" "j" "[I" ∈ lw_tbl := tb_1 (List.mem_of_getElem? (i := 49) rfl)
set_option maxRecDepth 20000 in
theorem tw_24_1 : Cond.fieldLink RX4 195 "ArrayMaker$Lines" "k" "[I" ∈ lw_tbl := tb_1 (List.mem_of_getElem? (i := 51) rfl)
set_option maxRecDepth 20000 in
theorem tw_24_2 : Cond.fieldLink RX4 198 "ArrayMaker$Lines" "v" "[J" ∈ lw_tbl := tb_1 (List.mem_of_getElem? (i := 53) rfl)
set_option maxRecDepth 20000 in
theorem tw_24_3 : Cond.methodLink RX4 201 yX4_joinCell ∈ lw_tbl := tb_2 (List.mem_of_getElem? (i := 191) rfl)
set_option maxRecDepth 20000 in
theorem tw_24_4 : Cond.instanceMethod yX4_joinCell ∈ lw_tbl := tb_2 (List.mem_of_getElem? (i := 193) rfl)
set_option maxRecDepth 20000 in
theorem tw_24_5 : Cond.selects RX4 yX4_joinCell yX4_joinCell ∈ lw_tbl := tb_p (pv_2 (List.mem_of_getElem? (i := 6) rfl))
set_option maxRecDepth 20000 in
theorem tw_24_6 : Cond.code yX4_joinCell cX4_joinCell 6 (some .boolean) ∈ lw_tbl := tb_2 (List.mem_of_getElem? (i := 194) rfl)
set_option maxRecDepth 20000 in
theorem tw_24_7 : Cond.methodLink RX4 255 yX4_joined ∈ lw_tbl := tb_2 (List.mem_of_getElem? (i := 195) rfl)
set_option maxRecDepth 20000 in
theorem tw_24_8 : Cond.static yX4_joined ∈ lw_tbl := tb_2 (List.mem_of_getElem? (i := 196) rfl)
set_option maxRecDepth 20000 in
theorem tw_24_9 : Cond.code yX4_joined cX4_joined 5 (some .long) ∈ lw_tbl := tb_2 (List.mem_of_getElem? (i := 197) rfl)
set_option maxRecDepth 20000 in
theorem tw_24_10 : Cond.methodLink RX4 259 Lib.MathLoose.max_long.x ∈ lw_tbl := tb_2 (List.mem_of_getElem? (i := 198) rfl)
set_option maxRecDepth 20000 in
theorem tw_24_11 : Cond.methodLink RX4 265 Lib.MathLoose.min_long.x ∈ lw_tbl := tb_2 (List.mem_of_getElem? (i := 199) rfl)
set_option maxRecDepth 20000 in
theorem tw_24_12 : Cond.methodLink RL 98 yX5_gather ∈ lw_tbl := tb_4 (List.mem_of_getElem? (i := 23) rfl)
set_option maxRecDepth 20000 in
theorem tw_24_13 : Cond.instanceMethod yX5_gather ∈ lw_tbl := tb_4 (List.mem_of_getElem? (i := 24) rfl)
set_option maxRecDepth 20000 in
theorem tw_24_14 : Cond.selects RX5 yX5_gather yX5_gather ∈ lw_tbl := tb_4 (List.mem_of_getElem? (i := 25) rfl)
set_option maxRecDepth 20000 in
theorem tw_24_15 : Cond.code yX5_gather cX5_gather 6 (some .int) ∈ lw_tbl := tb_4 (List.mem_of_getElem? (i := 26) rfl)
set_option maxRecDepth 20000 in
theorem tw_24_16 : Cond.constantLong RX5 180 (5) ∈ lw_tbl := tb_4 (List.mem_of_getElem? (i := 27) rfl)
set_option maxRecDepth 20000 in
theorem tw_24_17 : Cond.methodLink RX5 182 yX5_joins ∈ lw_tbl := tb_4 (List.mem_of_getElem? (i := 28) rfl)
set_option maxRecDepth 20000 in
theorem tw_24_18 : Cond.instanceMethod yX5_joins ∈ lw_tbl := tb_4 (List.mem_of_getElem? (i := 30) rfl)
set_option maxRecDepth 20000 in
theorem tw_24_19 : Cond.selects RX5 yX5_joins yX5_joins ∈ lw_tbl := tb_p (pv_3 (List.mem_of_getElem? (i := 10) rfl))
set_option maxRecDepth 20000 in
theorem tw_24_20 : Cond.code yX5_joins cX5_joins 10 (some .boolean) ∈ lw_tbl := tb_4 (List.mem_of_getElem? (i := 31) rfl)
set_option maxRecDepth 20000 in
theorem tw_24_21 : Cond.constantLong RX5 178 (-1) ∈ lw_tbl := tb_4 (List.mem_of_getElem? (i := 32) rfl)
set_option maxRecDepth 20000 in
theorem tw_24_22 : Cond.methodLink RL 99 yX4_join ∈ lw_tbl := tb_2 (List.mem_of_getElem? (i := 200) rfl)
set_option maxRecDepth 20000 in
theorem tw_24_23 : Cond.instanceMethod yX4_join ∈ lw_tbl := tb_2 (List.mem_of_getElem? (i := 201) rfl)
set_option maxRecDepth 20000 in
theorem tw_25_0 : Cond.selects RX4 yX4_join yX4_join ∈ lw_tbl := tb_2 (List.mem_of_getElem? (i := 202) rfl)
set_option maxRecDepth 20000 in
theorem tw_25_1 : Cond.code yX4_join cX4_join 11 (some .int) ∈ lw_tbl := tb_2 (List.mem_of_getElem? (i := 203) rfl)
set_option maxRecDepth 20000 in
theorem tw_25_2 : Cond.methodLink RX4 208 yX4_whyNotJoined ∈ lw_tbl := tb_2 (List.mem_of_getElem? (i := 204) rfl)
set_option maxRecDepth 20000 in
theorem tw_25_3 : Cond.instanceMethod yX4_whyNotJoined ∈ lw_tbl := tb_2 (List.mem_of_getElem? (i := 206) rfl)
set_option maxRecDepth 20000 in
theorem tw_25_4 : Cond.selects RX4 yX4_whyNotJoined yX4_whyNotJoined ∈ lw_tbl := tb_p (pv_2 (List.mem_of_getElem? (i := 7) rfl))
set_option maxRecDepth 20000 in
theorem tw_25_5 : Cond.code yX4_whyNotJoined cX4_whyNotJoined 3 (some .int) ∈ lw_tbl := tb_2 (List.mem_of_getElem? (i := 207) rfl)
set_option maxRecDepth 20000 in
theorem tw_25_6 : Cond.methodLink RL 102 yX5_join ∈ lw_tbl := tb_4 (List.mem_of_getElem? (i := 33) rfl)
set_option maxRecDepth 20000 in
theorem tw_25_7 : Cond.instanceMethod yX5_join ∈ lw_tbl := tb_4 (List.mem_of_getElem? (i := 34) rfl)
set_option maxRecDepth 20000 in
theorem tw_25_8 : Cond.selects RX5 yX5_join yX5_join ∈ lw_tbl := tb_4 (List.mem_of_getElem? (i := 35) rfl)
set_option maxRecDepth 20000 in
theorem tw_25_9 : Cond.code yX5_join cX5_join 8 (some .int) ∈ lw_tbl := tb_4 (List.mem_of_getElem? (i := 36) rfl)
set_option maxRecDepth 20000 in
theorem tw_25_10 : Cond.methodLink RL 103 yX4_sum ∈ lw_tbl := tb_2 (List.mem_of_getElem? (i := 208) rfl)
set_option maxRecDepth 20000 in
theorem tw_25_11 : Cond.instanceMethod yX4_sum ∈ lw_tbl := tb_2 (List.mem_of_getElem? (i := 209) rfl)
set_option maxRecDepth 20000 in
theorem tw_25_12 : Cond.selects RX4 yX4_sum yX4_sum ∈ lw_tbl := tb_2 (List.mem_of_getElem? (i := 210) rfl)
set_option maxRecDepth 20000 in
theorem tw_25_13 : Cond.code yX4_sum cX4_sum 6 (some .long) ∈ lw_tbl := tb_2 (List.mem_of_getElem? (i := 211) rfl)
set_option maxRecDepth 20000 in
theorem tw_25_14 : Cond.methodLink RX4 212 yX3_totalOf ∈ lw_tbl := tb_2 (List.mem_of_getElem? (i := 212) rfl)
set_option maxRecDepth 20000 in
theorem tw_25_15 : Cond.instanceMethod yX3_totalOf ∈ lw_tbl := tb_2 (List.mem_of_getElem? (i := 213) rfl)
set_option maxRecDepth 20000 in
theorem tw_25_16 : Cond.selects RX3 yX3_totalOf yX3_totalOf ∈ lw_tbl := tb_2 (List.mem_of_getElem? (i := 214) rfl)
set_option maxRecDepth 20000 in
theorem tw_25_17 : Cond.code yX3_totalOf cX3_totalOf 5 (some .long) ∈ lw_tbl := tb_2 (List.mem_of_getElem? (i := 215) rfl)
set_option maxRecDepth 20000 in
theorem tw_25_18 : Cond.methodLink RX3 62 yX3_lengthOf ∈ lw_tbl := tb_2 (List.mem_of_getElem? (i := 216) rfl)
set_option maxRecDepth 20000 in
theorem tw_25_19 : Cond.methodLink RX3 66 yX3_startOf ∈ lw_tbl := tb_2 (List.mem_of_getElem? (i := 217) rfl)
set_option maxRecDepth 20000 in
theorem tw_25_20 : Cond.methodLink RL 107 yX5_sum ∈ lw_tbl := tb_4 (List.mem_of_getElem? (i := 37) rfl)
set_option maxRecDepth 20000 in
theorem tw_25_21 : Cond.instanceMethod yX5_sum ∈ lw_tbl := tb_4 (List.mem_of_getElem? (i := 38) rfl)
set_option maxRecDepth 20000 in
theorem tw_25_22 : Cond.selects RX5 yX5_sum yX5_sum ∈ lw_tbl := tb_4 (List.mem_of_getElem? (i := 39) rfl)
set_option maxRecDepth 20000 in
theorem tw_25_23 : Cond.code yX5_sum cX5_sum 6 (some .long) ∈ lw_tbl := tb_4 (List.mem_of_getElem? (i := 40) rfl)
set_option maxRecDepth 20000 in
theorem tw_26_0 : Cond.methodLink RX5 186 yX5_sumOf ∈ lw_tbl := tb_4 (List.mem_of_getElem? (i := 41) rfl)
set_option maxRecDepth 20000 in
theorem tw_26_1 : Cond.instanceMethod yX5_sumOf ∈ lw_tbl := tb_4 (List.mem_of_getElem? (i := 43) rfl)
set_option maxRecDepth 20000 in
theorem tw_26_2 : Cond.selects RX5 yX5_sumOf yX5_sumOf ∈ lw_tbl := tb_p (pv_3 (List.mem_of_getElem? (i := 11) rfl))
set_option maxRecDepth 20000 in
theorem tw_26_3 : Cond.code yX5_sumOf cX5_sumOf 5 (some .long) ∈ lw_tbl := tb_4 (List.mem_of_getElem? (i := 44) rfl)
set_option maxRecDepth 20000 in
theorem tw_26_4 : Cond.methodLink RL 108 yX4_mean ∈ lw_tbl := tb_2 (List.mem_of_getElem? (i := 218) rfl)
set_option maxRecDepth 20000 in
theorem tw_26_5 : Cond.instanceMethod yX4_mean ∈ lw_tbl := tb_2 (List.mem_of_getElem? (i := 219) rfl)
set_option maxRecDepth 20000 in
theorem tw_26_6 : Cond.selects RX4 yX4_mean yX4_mean ∈ lw_tbl := tb_2 (List.mem_of_getElem? (i := 220) rfl)
set_option maxRecDepth 20000 in
theorem tw_26_7 : Cond.code yX4_mean cX4_mean 4 (some .long) ∈ lw_tbl := tb_2 (List.mem_of_getElem? (i := 221) rfl)
set_option maxRecDepth 20000 in
theorem tw_26_8 : Cond.methodLink RL 111 yX5_mean ∈ lw_tbl := tb_4 (List.mem_of_getElem? (i := 45) rfl)
set_option maxRecDepth 20000 in
theorem tw_26_9 : Cond.instanceMethod yX5_mean ∈ lw_tbl := tb_4 (List.mem_of_getElem? (i := 46) rfl)
set_option maxRecDepth 20000 in
theorem tw_26_10 : Cond.selects RX5 yX5_mean yX5_mean ∈ lw_tbl := tb_4 (List.mem_of_getElem? (i := 47) rfl)
set_option maxRecDepth 20000 in
theorem tw_26_11 : Cond.code yX5_mean cX5_mean 3 (some .long) ∈ lw_tbl := tb_4 (List.mem_of_getElem? (i := 48) rfl)
set_option maxRecDepth 20000 in
theorem tw_26_12 : Cond.methodLink RL 112 yX4_about ∈ lw_tbl := tb_2 (List.mem_of_getElem? (i := 222) rfl)
set_option maxRecDepth 20000 in
theorem tw_26_13 : Cond.instanceMethod yX4_about ∈ lw_tbl := tb_2 (List.mem_of_getElem? (i := 223) rfl)
set_option maxRecDepth 20000 in
theorem tw_26_14 : Cond.selects RX4 yX4_about yX4_about ∈ lw_tbl := tb_2 (List.mem_of_getElem? (i := 224) rfl)
set_option maxRecDepth 20000 in
theorem tw_26_15 : Cond.code yX4_about cX4_about 6 (some .int) ∈ lw_tbl := tb_2 (List.mem_of_getElem? (i := 225) rfl)
set_option maxRecDepth 20000 in
theorem tw_26_16 : Cond.fieldLink RX4 222 "ArrayMaker$Shape" "high" "[I" ∈ lw_tbl := tb_1 (List.mem_of_getElem? (i := 29) rfl)
set_option maxRecDepth 20000 in
theorem tw_26_17 : Cond.methodLink RX4 216 yX4_itemsOf ∈ lw_tbl := tb_2 (List.mem_of_getElem? (i := 226) rfl)
set_option maxRecDepth 20000 in
theorem tw_26_18 : Cond.instanceMethod yX4_itemsOf ∈ lw_tbl := tb_2 (List.mem_of_getElem? (i := 228) rfl)
set_option maxRecDepth 20000 in
theorem tw_26_19 : Cond.selects RX4 yX4_itemsOf yX4_itemsOf ∈ lw_tbl := tb_p (pv_2 (List.mem_of_getElem? (i := 8) rfl))
set_option maxRecDepth 20000 in
theorem tw_26_20 : Cond.code yX4_itemsOf cX4_itemsOf 4 (some .int) ∈ lw_tbl := tb_2 (List.mem_of_getElem? (i := 229) rfl)
set_option maxRecDepth 20000 in
theorem tw_26_21 : Cond.methodLink RL 115 yX5_about ∈ lw_tbl := tb_4 (List.mem_of_getElem? (i := 49) rfl)
set_option maxRecDepth 20000 in
theorem tw_26_22 : Cond.instanceMethod yX5_about ∈ lw_tbl := tb_4 (List.mem_of_getElem? (i := 50) rfl)
set_option maxRecDepth 20000 in
theorem tw_26_23 : Cond.selects RX5 yX5_about yX5_about ∈ lw_tbl := tb_4 (List.mem_of_getElem? (i := 51) rfl)
set_option maxRecDepth 20000 in
theorem tw_27_0 : Cond.code yX5_about cX5_about 6 (some .int) ∈ lw_tbl := tb_4 (List.mem_of_getElem? (i := 52) rfl)
set_option maxRecDepth 20000 in
theorem tw_27_1 : Cond.constantLong RX5 190 (8) ∈ lw_tbl := tb_4 (List.mem_of_getElem? (i := 53) rfl)
set_option maxRecDepth 20000 in
theorem tw_27_2 : Cond.methodLink RL 116 yX4_same ∈ lw_tbl := tb_2 (List.mem_of_getElem? (i := 230) rfl)
set_option maxRecDepth 20000 in
theorem tw_27_3 : Cond.instanceMethod yX4_same ∈ lw_tbl := tb_2 (List.mem_of_getElem? (i := 231) rfl)
set_option maxRecDepth 20000 in
theorem tw_27_4 : Cond.selects RX4 yX4_same yX4_same ∈ lw_tbl := tb_2 (List.mem_of_getElem? (i := 232) rfl)
set_option maxRecDepth 20000 in
theorem tw_27_5 : Cond.code yX4_same cX4_same 5 (some .int) ∈ lw_tbl := tb_2 (List.mem_of_getElem? (i := 233) rfl)
set_option maxRecDepth 20000 in
theorem tw_27_6 : Cond.methodLink RX4 225 yX4_haveSameRows ∈ lw_tbl := tb_2 (List.mem_of_getElem? (i := 234) rfl)
set_option maxRecDepth 20000 in
theorem tw_27_7 : Cond.static yX4_haveSameRows ∈ lw_tbl := tb_2 (List.mem_of_getElem? (i := 235) rfl)
set_option maxRecDepth 20000 in
theorem tw_27_8 : Cond.code yX4_haveSameRows cX4_haveSameRows 3 (some .boolean) ∈ lw_tbl := tb_2 (List.mem_of_getElem? (i := 236) rfl)
set_option maxRecDepth 20000 in
theorem tw_27_9 : Cond.methodLink RL 119 yX5_same ∈ lw_tbl := tb_4 (List.mem_of_getElem? (i := 54) rfl)
set_option maxRecDepth 20000 in
theorem tw_27_10 : Cond.instanceMethod yX5_same ∈ lw_tbl := tb_4 (List.mem_of_getElem? (i := 55) rfl)
set_option maxRecDepth 20000 in
theorem tw_27_11 : Cond.selects RX5 yX5_same yX5_same ∈ lw_tbl := tb_4 (List.mem_of_getElem? (i := 56) rfl)
set_option maxRecDepth 20000 in
theorem tw_27_12 : Cond.code yX5_same cX5_same 5 (some .int) ∈ lw_tbl := tb_4 (List.mem_of_getElem? (i := 57) rfl)
set_option maxRecDepth 20000 in
theorem tw_27_13 : Cond.methodLink RL 120 yX4_compare ∈ lw_tbl := tb_2 (List.mem_of_getElem? (i := 237) rfl)
set_option maxRecDepth 20000 in
theorem tw_27_14 : Cond.instanceMethod yX4_compare ∈ lw_tbl := tb_2 (List.mem_of_getElem? (i := 238) rfl)
set_option maxRecDepth 20000 in
theorem tw_27_15 : Cond.selects RX4 yX4_compare yX4_compare ∈ lw_tbl := tb_2 (List.mem_of_getElem? (i := 239) rfl)
set_option maxRecDepth 20000 in
theorem tw_27_16 : Cond.code yX4_compare cX4_compare 5 (some .int) ∈ lw_tbl := tb_3 (List.mem_of_getElem? (i := 0) rfl)
set_option maxRecDepth 20000 in
theorem tw_27_17 : Cond.methodLink RX4 229 yX3_orderOf ∈ lw_tbl := tb_3 (List.mem_of_getElem? (i := 1) rfl)
set_option maxRecDepth 20000 in
theorem tw_27_18 : Cond.instanceMethod yX3_orderOf ∈ lw_tbl := tb_3 (List.mem_of_getElem? (i := 2) rfl)
set_option maxRecDepth 20000 in
theorem tw_27_19 : Cond.selects RX3 yX3_orderOf yX3_orderOf ∈ lw_tbl := tb_3 (List.mem_of_getElem? (i := 3) rfl)
set_option maxRecDepth 20000 in
theorem tw_27_20 : Cond.code yX3_orderOf cX3_orderOf 6 (some .int) ∈ lw_tbl := tb_3 (List.mem_of_getElem? (i := 4) rfl)
set_option maxRecDepth 20000 in
theorem tw_27_21 : Cond.methodLink RX3 69 Lib.Math.min.name ∈ lw_tbl := tb_3 (List.mem_of_getElem? (i := 5) rfl)
set_option maxRecDepth 20000 in
theorem tw_27_22 : Cond.methodLink RX3 72 yJ13_compare_74951 ∈ lw_tbl := tb_3 (List.mem_of_getElem? (i := 6) rfl)
set_option maxRecDepth 20000 in
theorem tw_27_23 : Cond.static yJ13_compare_74951 ∈ lw_tbl := tb_3 (List.mem_of_getElem? (i := 7) rfl)
set_option maxRecDepth 20000 in
theorem tw_28_0 : Cond.initialized RJ13 ∈ lw_tbl := tb_1 (List.mem_of_getElem? (i := 10) rfl)
set_option maxRecDepth 20000 in
theorem tw_28_1 : Cond.code yJ13_compare_74951 cJ13_compare_74951 4 (some .int) ∈ lw_tbl := tb_3 (List.mem_of_getElem? (i := 8) rfl)
set_option maxRecDepth 20000 in
theorem tw_28_2 : Cond.methodLink RX3 78 yJ6_compare_7cf53 ∈ lw_tbl := tb_3 (List.mem_of_getElem? (i := 9) rfl)
set_option maxRecDepth 20000 in
theorem tw_28_3 : Cond.static yJ6_compare_7cf53 ∈ lw_tbl := tb_3 (List.mem_of_getElem? (i := 10) rfl)
set_option maxRecDepth 20000 in
theorem tw_28_4 : Cond.initialized RJ6 ∈ lw_tbl := tb_1 (List.mem_of_getElem? (i := 11) rfl)
set_option maxRecDepth 20000 in
theorem tw_28_5 : Cond.code yJ6_compare_7cf53 cJ6_compare_7cf53 2 (some .int) ∈ lw_tbl := tb_3 (List.mem_of_getElem? (i := 11) rfl)
set_option maxRecDepth 20000 in
theorem tw_28_6 : Cond.methodLink RL 123 yX5_compare ∈ lw_tbl := tb_4 (List.mem_of_getElem? (i := 58) rfl)
set_option maxRecDepth 20000 in
theorem tw_28_7 : Cond.instanceMethod yX5_compare ∈ lw_tbl := tb_4 (List.mem_of_getElem? (i := 59) rfl)
set_option maxRecDepth 20000 in
theorem tw_28_8 : Cond.selects RX5 yX5_compare yX5_compare ∈ lw_tbl := tb_4 (List.mem_of_getElem? (i := 60) rfl)
set_option maxRecDepth 20000 in
theorem tw_28_9 : Cond.code yX5_compare cX5_compare 10 (some .int) ∈ lw_tbl := tb_4 (List.mem_of_getElem? (i := 61) rfl)
set_option maxRecDepth 20000 in
theorem tw_28_10 : Cond.methodLink RL 124 yX4_clear ∈ lw_tbl := tb_3 (List.mem_of_getElem? (i := 12) rfl)
set_option maxRecDepth 20000 in
theorem tw_28_11 : Cond.instanceMethod yX4_clear ∈ lw_tbl := tb_3 (List.mem_of_getElem? (i := 13) rfl)
set_option maxRecDepth 20000 in
theorem tw_28_12 : Cond.selects RX4 yX4_clear yX4_clear ∈ lw_tbl := tb_3 (List.mem_of_getElem? (i := 14) rfl)
set_option maxRecDepth 20000 in
theorem tw_28_13 : Cond.code yX4_clear cX4_clear 2 (some .int) ∈ lw_tbl := tb_3 (List.mem_of_getElem? (i := 15) rfl)
set_option maxRecDepth 20000 in
theorem tw_28_14 : Cond.methodLink RX4 232 yX3_forget ∈ lw_tbl := tb_3 (List.mem_of_getElem? (i := 16) rfl)
set_option maxRecDepth 20000 in
theorem tw_28_15 : Cond.instanceMethod yX3_forget ∈ lw_tbl := tb_3 (List.mem_of_getElem? (i := 17) rfl)
set_option maxRecDepth 20000 in
theorem tw_28_16 : Cond.selects RX3 yX3_forget yX3_forget ∈ lw_tbl := tb_3 (List.mem_of_getElem? (i := 18) rfl)
set_option maxRecDepth 20000 in
theorem tw_28_17 : Cond.code yX3_forget cX3_forget 1 none ∈ lw_tbl := tb_3 (List.mem_of_getElem? (i := 19) rfl)
set_option maxRecDepth 20000 in
theorem tw_28_18 : Cond.methodLink RL 127 yX5_clear ∈ lw_tbl := tb_4 (List.mem_of_getElem? (i := 62) rfl)
set_option maxRecDepth 20000 in
theorem tw_28_19 : Cond.instanceMethod yX5_clear ∈ lw_tbl := tb_4 (List.mem_of_getElem? (i := 63) rfl)
set_option maxRecDepth 20000 in
theorem tw_28_20 : Cond.selects RX5 yX5_clear yX5_clear ∈ lw_tbl := tb_4 (List.mem_of_getElem? (i := 64) rfl)
set_option maxRecDepth 20000 in
theorem tw_28_21 : Cond.code yX5_clear cX5_clear 2 (some .int) ∈ lw_tbl := tb_4 (List.mem_of_getElem? (i := 65) rfl)
theorem tr_1 : ∀ w ∈ wsL_law_r1, w ∈ lw_tbl := List.forall_mem_cons.mpr ⟨tw_1_0, List.forall_mem_cons.mpr ⟨tw_1_1, List.forall_mem_cons.mpr ⟨tw_1_2, List.forall_mem_cons.mpr ⟨tw_1_3, List.forall_mem_cons.mpr ⟨tw_1_4, List.forall_mem_cons.mpr ⟨tw_1_5, List.forall_mem_cons.mpr ⟨tw_1_6, List.forall_mem_cons.mpr ⟨tw_1_7, List.forall_mem_cons.mpr ⟨tw_1_8, List.forall_mem_cons.mpr ⟨tw_1_9, List.forall_mem_cons.mpr ⟨tw_1_10, List.forall_mem_cons.mpr ⟨tw_1_11, List.forall_mem_cons.mpr ⟨tw_1_12, List.forall_mem_cons.mpr ⟨tw_1_13, List.forall_mem_cons.mpr ⟨tw_1_14, List.forall_mem_cons.mpr ⟨tw_1_15, List.forall_mem_cons.mpr ⟨tw_1_16, List.forall_mem_cons.mpr ⟨tw_1_17, List.forall_mem_cons.mpr ⟨tw_1_18, List.forall_mem_cons.mpr ⟨tw_1_19, List.forall_mem_cons.mpr ⟨tw_1_20, List.forall_mem_cons.mpr ⟨tw_1_21, List.forall_mem_cons.mpr ⟨tw_1_22, List.forall_mem_cons.mpr ⟨tw_1_23, fun _ h => absurd h List.not_mem_nil⟩⟩⟩⟩⟩⟩⟩⟩⟩⟩⟩⟩⟩⟩⟩⟩⟩⟩⟩⟩⟩⟩⟩⟩
theorem tr_2 : ∀ w ∈ wsL_law_r2, w ∈ lw_tbl := List.forall_mem_cons.mpr ⟨tw_2_0, List.forall_mem_cons.mpr ⟨tw_2_1, List.forall_mem_cons.mpr ⟨tw_2_2, List.forall_mem_cons.mpr ⟨tw_2_3, List.forall_mem_cons.mpr ⟨tw_2_4, List.forall_mem_cons.mpr ⟨tw_2_5, List.forall_mem_cons.mpr ⟨tw_2_6, List.forall_mem_cons.mpr ⟨tw_2_7, List.forall_mem_cons.mpr ⟨tw_2_8, List.forall_mem_cons.mpr ⟨tw_2_9, List.forall_mem_cons.mpr ⟨tw_2_10, List.forall_mem_cons.mpr ⟨tw_2_11, List.forall_mem_cons.mpr ⟨tw_2_12, List.forall_mem_cons.mpr ⟨tw_2_13, List.forall_mem_cons.mpr ⟨tw_2_14, List.forall_mem_cons.mpr ⟨tw_2_15, List.forall_mem_cons.mpr ⟨tw_2_16, List.forall_mem_cons.mpr ⟨tw_2_17, List.forall_mem_cons.mpr ⟨tw_2_18, List.forall_mem_cons.mpr ⟨tw_2_19, List.forall_mem_cons.mpr ⟨tw_2_20, List.forall_mem_cons.mpr ⟨tw_2_21, List.forall_mem_cons.mpr ⟨tw_2_22, List.forall_mem_cons.mpr ⟨tw_2_23, fun _ h => absurd h List.not_mem_nil⟩⟩⟩⟩⟩⟩⟩⟩⟩⟩⟩⟩⟩⟩⟩⟩⟩⟩⟩⟩⟩⟩⟩⟩
theorem tr_3 : ∀ w ∈ wsL_law_r3, w ∈ lw_tbl := List.forall_mem_cons.mpr ⟨tw_3_0, List.forall_mem_cons.mpr ⟨tw_3_1, List.forall_mem_cons.mpr ⟨tw_3_2, List.forall_mem_cons.mpr ⟨tw_3_3, List.forall_mem_cons.mpr ⟨tw_3_4, List.forall_mem_cons.mpr ⟨tw_3_5, List.forall_mem_cons.mpr ⟨tw_3_6, List.forall_mem_cons.mpr ⟨tw_3_7, List.forall_mem_cons.mpr ⟨tw_3_8, List.forall_mem_cons.mpr ⟨tw_3_9, List.forall_mem_cons.mpr ⟨tw_3_10, List.forall_mem_cons.mpr ⟨tw_3_11, List.forall_mem_cons.mpr ⟨tw_3_12, List.forall_mem_cons.mpr ⟨tw_3_13, List.forall_mem_cons.mpr ⟨tw_3_14, List.forall_mem_cons.mpr ⟨tw_3_15, List.forall_mem_cons.mpr ⟨tw_3_16, List.forall_mem_cons.mpr ⟨tw_3_17, List.forall_mem_cons.mpr ⟨tw_3_18, List.forall_mem_cons.mpr ⟨tw_3_19, List.forall_mem_cons.mpr ⟨tw_3_20, List.forall_mem_cons.mpr ⟨tw_3_21, List.forall_mem_cons.mpr ⟨tw_3_22, List.forall_mem_cons.mpr ⟨tw_3_23, fun _ h => absurd h List.not_mem_nil⟩⟩⟩⟩⟩⟩⟩⟩⟩⟩⟩⟩⟩⟩⟩⟩⟩⟩⟩⟩⟩⟩⟩⟩
theorem tr_4 : ∀ w ∈ wsL_law_r4, w ∈ lw_tbl := List.forall_mem_cons.mpr ⟨tw_4_0, List.forall_mem_cons.mpr ⟨tw_4_1, List.forall_mem_cons.mpr ⟨tw_4_2, List.forall_mem_cons.mpr ⟨tw_4_3, List.forall_mem_cons.mpr ⟨tw_4_4, List.forall_mem_cons.mpr ⟨tw_4_5, List.forall_mem_cons.mpr ⟨tw_4_6, List.forall_mem_cons.mpr ⟨tw_4_7, List.forall_mem_cons.mpr ⟨tw_4_8, List.forall_mem_cons.mpr ⟨tw_4_9, List.forall_mem_cons.mpr ⟨tw_4_10, List.forall_mem_cons.mpr ⟨tw_4_11, List.forall_mem_cons.mpr ⟨tw_4_12, List.forall_mem_cons.mpr ⟨tw_4_13, List.forall_mem_cons.mpr ⟨tw_4_14, List.forall_mem_cons.mpr ⟨tw_4_15, List.forall_mem_cons.mpr ⟨tw_4_16, List.forall_mem_cons.mpr ⟨tw_4_17, List.forall_mem_cons.mpr ⟨tw_4_18, List.forall_mem_cons.mpr ⟨tw_4_19, List.forall_mem_cons.mpr ⟨tw_4_20, List.forall_mem_cons.mpr ⟨tw_4_21, List.forall_mem_cons.mpr ⟨tw_4_22, List.forall_mem_cons.mpr ⟨tw_4_23, fun _ h => absurd h List.not_mem_nil⟩⟩⟩⟩⟩⟩⟩⟩⟩⟩⟩⟩⟩⟩⟩⟩⟩⟩⟩⟩⟩⟩⟩⟩
theorem tr_5 : ∀ w ∈ wsL_law_r5, w ∈ lw_tbl := List.forall_mem_cons.mpr ⟨tw_5_0, List.forall_mem_cons.mpr ⟨tw_5_1, List.forall_mem_cons.mpr ⟨tw_5_2, List.forall_mem_cons.mpr ⟨tw_5_3, List.forall_mem_cons.mpr ⟨tw_5_4, List.forall_mem_cons.mpr ⟨tw_5_5, List.forall_mem_cons.mpr ⟨tw_5_6, List.forall_mem_cons.mpr ⟨tw_5_7, List.forall_mem_cons.mpr ⟨tw_5_8, List.forall_mem_cons.mpr ⟨tw_5_9, List.forall_mem_cons.mpr ⟨tw_5_10, List.forall_mem_cons.mpr ⟨tw_5_11, List.forall_mem_cons.mpr ⟨tw_5_12, List.forall_mem_cons.mpr ⟨tw_5_13, List.forall_mem_cons.mpr ⟨tw_5_14, List.forall_mem_cons.mpr ⟨tw_5_15, List.forall_mem_cons.mpr ⟨tw_5_16, List.forall_mem_cons.mpr ⟨tw_5_17, List.forall_mem_cons.mpr ⟨tw_5_18, List.forall_mem_cons.mpr ⟨tw_5_19, List.forall_mem_cons.mpr ⟨tw_5_20, List.forall_mem_cons.mpr ⟨tw_5_21, List.forall_mem_cons.mpr ⟨tw_5_22, List.forall_mem_cons.mpr ⟨tw_5_23, fun _ h => absurd h List.not_mem_nil⟩⟩⟩⟩⟩⟩⟩⟩⟩⟩⟩⟩⟩⟩⟩⟩⟩⟩⟩⟩⟩⟩⟩⟩
theorem tr_6 : ∀ w ∈ wsL_law_r6, w ∈ lw_tbl := List.forall_mem_cons.mpr ⟨tw_6_0, List.forall_mem_cons.mpr ⟨tw_6_1, List.forall_mem_cons.mpr ⟨tw_6_2, List.forall_mem_cons.mpr ⟨tw_6_3, List.forall_mem_cons.mpr ⟨tw_6_4, List.forall_mem_cons.mpr ⟨tw_6_5, List.forall_mem_cons.mpr ⟨tw_6_6, List.forall_mem_cons.mpr ⟨tw_6_7, List.forall_mem_cons.mpr ⟨tw_6_8, List.forall_mem_cons.mpr ⟨tw_6_9, List.forall_mem_cons.mpr ⟨tw_6_10, List.forall_mem_cons.mpr ⟨tw_6_11, List.forall_mem_cons.mpr ⟨tw_6_12, List.forall_mem_cons.mpr ⟨tw_6_13, List.forall_mem_cons.mpr ⟨tw_6_14, List.forall_mem_cons.mpr ⟨tw_6_15, List.forall_mem_cons.mpr ⟨tw_6_16, List.forall_mem_cons.mpr ⟨tw_6_17, List.forall_mem_cons.mpr ⟨tw_6_18, List.forall_mem_cons.mpr ⟨tw_6_19, List.forall_mem_cons.mpr ⟨tw_6_20, List.forall_mem_cons.mpr ⟨tw_6_21, List.forall_mem_cons.mpr ⟨tw_6_22, List.forall_mem_cons.mpr ⟨tw_6_23, fun _ h => absurd h List.not_mem_nil⟩⟩⟩⟩⟩⟩⟩⟩⟩⟩⟩⟩⟩⟩⟩⟩⟩⟩⟩⟩⟩⟩⟩⟩
theorem tr_7 : ∀ w ∈ wsL_law_r7, w ∈ lw_tbl := List.forall_mem_cons.mpr ⟨tw_7_0, List.forall_mem_cons.mpr ⟨tw_7_1, List.forall_mem_cons.mpr ⟨tw_7_2, List.forall_mem_cons.mpr ⟨tw_7_3, List.forall_mem_cons.mpr ⟨tw_7_4, List.forall_mem_cons.mpr ⟨tw_7_5, List.forall_mem_cons.mpr ⟨tw_7_6, List.forall_mem_cons.mpr ⟨tw_7_7, List.forall_mem_cons.mpr ⟨tw_7_8, List.forall_mem_cons.mpr ⟨tw_7_9, List.forall_mem_cons.mpr ⟨tw_7_10, List.forall_mem_cons.mpr ⟨tw_7_11, List.forall_mem_cons.mpr ⟨tw_7_12, List.forall_mem_cons.mpr ⟨tw_7_13, List.forall_mem_cons.mpr ⟨tw_7_14, List.forall_mem_cons.mpr ⟨tw_7_15, List.forall_mem_cons.mpr ⟨tw_7_16, List.forall_mem_cons.mpr ⟨tw_7_17, List.forall_mem_cons.mpr ⟨tw_7_18, List.forall_mem_cons.mpr ⟨tw_7_19, List.forall_mem_cons.mpr ⟨tw_7_20, List.forall_mem_cons.mpr ⟨tw_7_21, List.forall_mem_cons.mpr ⟨tw_7_22, List.forall_mem_cons.mpr ⟨tw_7_23, fun _ h => absurd h List.not_mem_nil⟩⟩⟩⟩⟩⟩⟩⟩⟩⟩⟩⟩⟩⟩⟩⟩⟩⟩⟩⟩⟩⟩⟩⟩
theorem tr_8 : ∀ w ∈ wsL_law_r8, w ∈ lw_tbl := List.forall_mem_cons.mpr ⟨tw_8_0, List.forall_mem_cons.mpr ⟨tw_8_1, List.forall_mem_cons.mpr ⟨tw_8_2, List.forall_mem_cons.mpr ⟨tw_8_3, List.forall_mem_cons.mpr ⟨tw_8_4, List.forall_mem_cons.mpr ⟨tw_8_5, List.forall_mem_cons.mpr ⟨tw_8_6, List.forall_mem_cons.mpr ⟨tw_8_7, List.forall_mem_cons.mpr ⟨tw_8_8, List.forall_mem_cons.mpr ⟨tw_8_9, List.forall_mem_cons.mpr ⟨tw_8_10, List.forall_mem_cons.mpr ⟨tw_8_11, List.forall_mem_cons.mpr ⟨tw_8_12, List.forall_mem_cons.mpr ⟨tw_8_13, List.forall_mem_cons.mpr ⟨tw_8_14, List.forall_mem_cons.mpr ⟨tw_8_15, List.forall_mem_cons.mpr ⟨tw_8_16, List.forall_mem_cons.mpr ⟨tw_8_17, List.forall_mem_cons.mpr ⟨tw_8_18, List.forall_mem_cons.mpr ⟨tw_8_19, List.forall_mem_cons.mpr ⟨tw_8_20, List.forall_mem_cons.mpr ⟨tw_8_21, List.forall_mem_cons.mpr ⟨tw_8_22, List.forall_mem_cons.mpr ⟨tw_8_23, fun _ h => absurd h List.not_mem_nil⟩⟩⟩⟩⟩⟩⟩⟩⟩⟩⟩⟩⟩⟩⟩⟩⟩⟩⟩⟩⟩⟩⟩⟩
theorem tr_9 : ∀ w ∈ wsL_law_r9, w ∈ lw_tbl := List.forall_mem_cons.mpr ⟨tw_9_0, List.forall_mem_cons.mpr ⟨tw_9_1, List.forall_mem_cons.mpr ⟨tw_9_2, List.forall_mem_cons.mpr ⟨tw_9_3, List.forall_mem_cons.mpr ⟨tw_9_4, List.forall_mem_cons.mpr ⟨tw_9_5, List.forall_mem_cons.mpr ⟨tw_9_6, List.forall_mem_cons.mpr ⟨tw_9_7, List.forall_mem_cons.mpr ⟨tw_9_8, List.forall_mem_cons.mpr ⟨tw_9_9, List.forall_mem_cons.mpr ⟨tw_9_10, List.forall_mem_cons.mpr ⟨tw_9_11, List.forall_mem_cons.mpr ⟨tw_9_12, List.forall_mem_cons.mpr ⟨tw_9_13, List.forall_mem_cons.mpr ⟨tw_9_14, List.forall_mem_cons.mpr ⟨tw_9_15, List.forall_mem_cons.mpr ⟨tw_9_16, List.forall_mem_cons.mpr ⟨tw_9_17, List.forall_mem_cons.mpr ⟨tw_9_18, List.forall_mem_cons.mpr ⟨tw_9_19, List.forall_mem_cons.mpr ⟨tw_9_20, List.forall_mem_cons.mpr ⟨tw_9_21, List.forall_mem_cons.mpr ⟨tw_9_22, List.forall_mem_cons.mpr ⟨tw_9_23, fun _ h => absurd h List.not_mem_nil⟩⟩⟩⟩⟩⟩⟩⟩⟩⟩⟩⟩⟩⟩⟩⟩⟩⟩⟩⟩⟩⟩⟩⟩
theorem tr_10 : ∀ w ∈ wsL_law_r10, w ∈ lw_tbl := List.forall_mem_cons.mpr ⟨tw_10_0, List.forall_mem_cons.mpr ⟨tw_10_1, List.forall_mem_cons.mpr ⟨tw_10_2, List.forall_mem_cons.mpr ⟨tw_10_3, List.forall_mem_cons.mpr ⟨tw_10_4, List.forall_mem_cons.mpr ⟨tw_10_5, List.forall_mem_cons.mpr ⟨tw_10_6, List.forall_mem_cons.mpr ⟨tw_10_7, List.forall_mem_cons.mpr ⟨tw_10_8, List.forall_mem_cons.mpr ⟨tw_10_9, List.forall_mem_cons.mpr ⟨tw_10_10, List.forall_mem_cons.mpr ⟨tw_10_11, List.forall_mem_cons.mpr ⟨tw_10_12, List.forall_mem_cons.mpr ⟨tw_10_13, List.forall_mem_cons.mpr ⟨tw_10_14, List.forall_mem_cons.mpr ⟨tw_10_15, List.forall_mem_cons.mpr ⟨tw_10_16, List.forall_mem_cons.mpr ⟨tw_10_17, List.forall_mem_cons.mpr ⟨tw_10_18, List.forall_mem_cons.mpr ⟨tw_10_19, List.forall_mem_cons.mpr ⟨tw_10_20, List.forall_mem_cons.mpr ⟨tw_10_21, List.forall_mem_cons.mpr ⟨tw_10_22, List.forall_mem_cons.mpr ⟨tw_10_23, fun _ h => absurd h List.not_mem_nil⟩⟩⟩⟩⟩⟩⟩⟩⟩⟩⟩⟩⟩⟩⟩⟩⟩⟩⟩⟩⟩⟩⟩⟩
theorem tr_11 : ∀ w ∈ wsL_law_r11, w ∈ lw_tbl := List.forall_mem_cons.mpr ⟨tw_11_0, List.forall_mem_cons.mpr ⟨tw_11_1, List.forall_mem_cons.mpr ⟨tw_11_2, List.forall_mem_cons.mpr ⟨tw_11_3, List.forall_mem_cons.mpr ⟨tw_11_4, List.forall_mem_cons.mpr ⟨tw_11_5, List.forall_mem_cons.mpr ⟨tw_11_6, List.forall_mem_cons.mpr ⟨tw_11_7, List.forall_mem_cons.mpr ⟨tw_11_8, List.forall_mem_cons.mpr ⟨tw_11_9, List.forall_mem_cons.mpr ⟨tw_11_10, List.forall_mem_cons.mpr ⟨tw_11_11, List.forall_mem_cons.mpr ⟨tw_11_12, List.forall_mem_cons.mpr ⟨tw_11_13, List.forall_mem_cons.mpr ⟨tw_11_14, List.forall_mem_cons.mpr ⟨tw_11_15, List.forall_mem_cons.mpr ⟨tw_11_16, List.forall_mem_cons.mpr ⟨tw_11_17, List.forall_mem_cons.mpr ⟨tw_11_18, List.forall_mem_cons.mpr ⟨tw_11_19, List.forall_mem_cons.mpr ⟨tw_11_20, List.forall_mem_cons.mpr ⟨tw_11_21, List.forall_mem_cons.mpr ⟨tw_11_22, List.forall_mem_cons.mpr ⟨tw_11_23, fun _ h => absurd h List.not_mem_nil⟩⟩⟩⟩⟩⟩⟩⟩⟩⟩⟩⟩⟩⟩⟩⟩⟩⟩⟩⟩⟩⟩⟩⟩
theorem tr_12 : ∀ w ∈ wsL_law_r12, w ∈ lw_tbl := List.forall_mem_cons.mpr ⟨tw_12_0, List.forall_mem_cons.mpr ⟨tw_12_1, List.forall_mem_cons.mpr ⟨tw_12_2, List.forall_mem_cons.mpr ⟨tw_12_3, List.forall_mem_cons.mpr ⟨tw_12_4, List.forall_mem_cons.mpr ⟨tw_12_5, List.forall_mem_cons.mpr ⟨tw_12_6, List.forall_mem_cons.mpr ⟨tw_12_7, List.forall_mem_cons.mpr ⟨tw_12_8, List.forall_mem_cons.mpr ⟨tw_12_9, List.forall_mem_cons.mpr ⟨tw_12_10, List.forall_mem_cons.mpr ⟨tw_12_11, List.forall_mem_cons.mpr ⟨tw_12_12, List.forall_mem_cons.mpr ⟨tw_12_13, List.forall_mem_cons.mpr ⟨tw_12_14, List.forall_mem_cons.mpr ⟨tw_12_15, List.forall_mem_cons.mpr ⟨tw_12_16, List.forall_mem_cons.mpr ⟨tw_12_17, List.forall_mem_cons.mpr ⟨tw_12_18, List.forall_mem_cons.mpr ⟨tw_12_19, List.forall_mem_cons.mpr ⟨tw_12_20, List.forall_mem_cons.mpr ⟨tw_12_21, List.forall_mem_cons.mpr ⟨tw_12_22, List.forall_mem_cons.mpr ⟨tw_12_23, fun _ h => absurd h List.not_mem_nil⟩⟩⟩⟩⟩⟩⟩⟩⟩⟩⟩⟩⟩⟩⟩⟩⟩⟩⟩⟩⟩⟩⟩⟩
theorem tr_13 : ∀ w ∈ wsL_law_r13, w ∈ lw_tbl := List.forall_mem_cons.mpr ⟨tw_13_0, List.forall_mem_cons.mpr ⟨tw_13_1, List.forall_mem_cons.mpr ⟨tw_13_2, List.forall_mem_cons.mpr ⟨tw_13_3, List.forall_mem_cons.mpr ⟨tw_13_4, List.forall_mem_cons.mpr ⟨tw_13_5, List.forall_mem_cons.mpr ⟨tw_13_6, List.forall_mem_cons.mpr ⟨tw_13_7, List.forall_mem_cons.mpr ⟨tw_13_8, List.forall_mem_cons.mpr ⟨tw_13_9, List.forall_mem_cons.mpr ⟨tw_13_10, List.forall_mem_cons.mpr ⟨tw_13_11, List.forall_mem_cons.mpr ⟨tw_13_12, List.forall_mem_cons.mpr ⟨tw_13_13, List.forall_mem_cons.mpr ⟨tw_13_14, List.forall_mem_cons.mpr ⟨tw_13_15, List.forall_mem_cons.mpr ⟨tw_13_16, List.forall_mem_cons.mpr ⟨tw_13_17, List.forall_mem_cons.mpr ⟨tw_13_18, List.forall_mem_cons.mpr ⟨tw_13_19, List.forall_mem_cons.mpr ⟨tw_13_20, List.forall_mem_cons.mpr ⟨tw_13_21, List.forall_mem_cons.mpr ⟨tw_13_22, List.forall_mem_cons.mpr ⟨tw_13_23, fun _ h => absurd h List.not_mem_nil⟩⟩⟩⟩⟩⟩⟩⟩⟩⟩⟩⟩⟩⟩⟩⟩⟩⟩⟩⟩⟩⟩⟩⟩
theorem tr_14 : ∀ w ∈ wsL_law_r14, w ∈ lw_tbl := List.forall_mem_cons.mpr ⟨tw_14_0, List.forall_mem_cons.mpr ⟨tw_14_1, List.forall_mem_cons.mpr ⟨tw_14_2, List.forall_mem_cons.mpr ⟨tw_14_3, List.forall_mem_cons.mpr ⟨tw_14_4, List.forall_mem_cons.mpr ⟨tw_14_5, List.forall_mem_cons.mpr ⟨tw_14_6, List.forall_mem_cons.mpr ⟨tw_14_7, List.forall_mem_cons.mpr ⟨tw_14_8, List.forall_mem_cons.mpr ⟨tw_14_9, List.forall_mem_cons.mpr ⟨tw_14_10, List.forall_mem_cons.mpr ⟨tw_14_11, List.forall_mem_cons.mpr ⟨tw_14_12, List.forall_mem_cons.mpr ⟨tw_14_13, List.forall_mem_cons.mpr ⟨tw_14_14, List.forall_mem_cons.mpr ⟨tw_14_15, List.forall_mem_cons.mpr ⟨tw_14_16, List.forall_mem_cons.mpr ⟨tw_14_17, List.forall_mem_cons.mpr ⟨tw_14_18, List.forall_mem_cons.mpr ⟨tw_14_19, List.forall_mem_cons.mpr ⟨tw_14_20, List.forall_mem_cons.mpr ⟨tw_14_21, List.forall_mem_cons.mpr ⟨tw_14_22, List.forall_mem_cons.mpr ⟨tw_14_23, fun _ h => absurd h List.not_mem_nil⟩⟩⟩⟩⟩⟩⟩⟩⟩⟩⟩⟩⟩⟩⟩⟩⟩⟩⟩⟩⟩⟩⟩⟩
theorem tr_15 : ∀ w ∈ wsL_law_r15, w ∈ lw_tbl := List.forall_mem_cons.mpr ⟨tw_15_0, List.forall_mem_cons.mpr ⟨tw_15_1, List.forall_mem_cons.mpr ⟨tw_15_2, List.forall_mem_cons.mpr ⟨tw_15_3, List.forall_mem_cons.mpr ⟨tw_15_4, List.forall_mem_cons.mpr ⟨tw_15_5, List.forall_mem_cons.mpr ⟨tw_15_6, List.forall_mem_cons.mpr ⟨tw_15_7, List.forall_mem_cons.mpr ⟨tw_15_8, List.forall_mem_cons.mpr ⟨tw_15_9, List.forall_mem_cons.mpr ⟨tw_15_10, List.forall_mem_cons.mpr ⟨tw_15_11, List.forall_mem_cons.mpr ⟨tw_15_12, List.forall_mem_cons.mpr ⟨tw_15_13, List.forall_mem_cons.mpr ⟨tw_15_14, List.forall_mem_cons.mpr ⟨tw_15_15, List.forall_mem_cons.mpr ⟨tw_15_16, List.forall_mem_cons.mpr ⟨tw_15_17, List.forall_mem_cons.mpr ⟨tw_15_18, List.forall_mem_cons.mpr ⟨tw_15_19, List.forall_mem_cons.mpr ⟨tw_15_20, List.forall_mem_cons.mpr ⟨tw_15_21, List.forall_mem_cons.mpr ⟨tw_15_22, List.forall_mem_cons.mpr ⟨tw_15_23, fun _ h => absurd h List.not_mem_nil⟩⟩⟩⟩⟩⟩⟩⟩⟩⟩⟩⟩⟩⟩⟩⟩⟩⟩⟩⟩⟩⟩⟩⟩
theorem tr_16 : ∀ w ∈ wsL_law_r16, w ∈ lw_tbl := List.forall_mem_cons.mpr ⟨tw_16_0, List.forall_mem_cons.mpr ⟨tw_16_1, List.forall_mem_cons.mpr ⟨tw_16_2, List.forall_mem_cons.mpr ⟨tw_16_3, List.forall_mem_cons.mpr ⟨tw_16_4, List.forall_mem_cons.mpr ⟨tw_16_5, List.forall_mem_cons.mpr ⟨tw_16_6, List.forall_mem_cons.mpr ⟨tw_16_7, List.forall_mem_cons.mpr ⟨tw_16_8, List.forall_mem_cons.mpr ⟨tw_16_9, List.forall_mem_cons.mpr ⟨tw_16_10, List.forall_mem_cons.mpr ⟨tw_16_11, List.forall_mem_cons.mpr ⟨tw_16_12, List.forall_mem_cons.mpr ⟨tw_16_13, List.forall_mem_cons.mpr ⟨tw_16_14, List.forall_mem_cons.mpr ⟨tw_16_15, List.forall_mem_cons.mpr ⟨tw_16_16, List.forall_mem_cons.mpr ⟨tw_16_17, List.forall_mem_cons.mpr ⟨tw_16_18, List.forall_mem_cons.mpr ⟨tw_16_19, List.forall_mem_cons.mpr ⟨tw_16_20, List.forall_mem_cons.mpr ⟨tw_16_21, List.forall_mem_cons.mpr ⟨tw_16_22, List.forall_mem_cons.mpr ⟨tw_16_23, fun _ h => absurd h List.not_mem_nil⟩⟩⟩⟩⟩⟩⟩⟩⟩⟩⟩⟩⟩⟩⟩⟩⟩⟩⟩⟩⟩⟩⟩⟩
theorem tr_17 : ∀ w ∈ wsL_law_r17, w ∈ lw_tbl := List.forall_mem_cons.mpr ⟨tw_17_0, List.forall_mem_cons.mpr ⟨tw_17_1, List.forall_mem_cons.mpr ⟨tw_17_2, List.forall_mem_cons.mpr ⟨tw_17_3, List.forall_mem_cons.mpr ⟨tw_17_4, List.forall_mem_cons.mpr ⟨tw_17_5, List.forall_mem_cons.mpr ⟨tw_17_6, List.forall_mem_cons.mpr ⟨tw_17_7, List.forall_mem_cons.mpr ⟨tw_17_8, List.forall_mem_cons.mpr ⟨tw_17_9, List.forall_mem_cons.mpr ⟨tw_17_10, List.forall_mem_cons.mpr ⟨tw_17_11, List.forall_mem_cons.mpr ⟨tw_17_12, List.forall_mem_cons.mpr ⟨tw_17_13, List.forall_mem_cons.mpr ⟨tw_17_14, List.forall_mem_cons.mpr ⟨tw_17_15, List.forall_mem_cons.mpr ⟨tw_17_16, List.forall_mem_cons.mpr ⟨tw_17_17, List.forall_mem_cons.mpr ⟨tw_17_18, List.forall_mem_cons.mpr ⟨tw_17_19, List.forall_mem_cons.mpr ⟨tw_17_20, List.forall_mem_cons.mpr ⟨tw_17_21, List.forall_mem_cons.mpr ⟨tw_17_22, List.forall_mem_cons.mpr ⟨tw_17_23, fun _ h => absurd h List.not_mem_nil⟩⟩⟩⟩⟩⟩⟩⟩⟩⟩⟩⟩⟩⟩⟩⟩⟩⟩⟩⟩⟩⟩⟩⟩
theorem tr_18 : ∀ w ∈ wsL_law_r18, w ∈ lw_tbl := List.forall_mem_cons.mpr ⟨tw_18_0, List.forall_mem_cons.mpr ⟨tw_18_1, List.forall_mem_cons.mpr ⟨tw_18_2, List.forall_mem_cons.mpr ⟨tw_18_3, List.forall_mem_cons.mpr ⟨tw_18_4, List.forall_mem_cons.mpr ⟨tw_18_5, List.forall_mem_cons.mpr ⟨tw_18_6, List.forall_mem_cons.mpr ⟨tw_18_7, List.forall_mem_cons.mpr ⟨tw_18_8, List.forall_mem_cons.mpr ⟨tw_18_9, List.forall_mem_cons.mpr ⟨tw_18_10, List.forall_mem_cons.mpr ⟨tw_18_11, List.forall_mem_cons.mpr ⟨tw_18_12, List.forall_mem_cons.mpr ⟨tw_18_13, List.forall_mem_cons.mpr ⟨tw_18_14, List.forall_mem_cons.mpr ⟨tw_18_15, List.forall_mem_cons.mpr ⟨tw_18_16, List.forall_mem_cons.mpr ⟨tw_18_17, List.forall_mem_cons.mpr ⟨tw_18_18, List.forall_mem_cons.mpr ⟨tw_18_19, List.forall_mem_cons.mpr ⟨tw_18_20, List.forall_mem_cons.mpr ⟨tw_18_21, List.forall_mem_cons.mpr ⟨tw_18_22, List.forall_mem_cons.mpr ⟨tw_18_23, fun _ h => absurd h List.not_mem_nil⟩⟩⟩⟩⟩⟩⟩⟩⟩⟩⟩⟩⟩⟩⟩⟩⟩⟩⟩⟩⟩⟩⟩⟩
theorem tr_19 : ∀ w ∈ wsL_law_r19, w ∈ lw_tbl := List.forall_mem_cons.mpr ⟨tw_19_0, List.forall_mem_cons.mpr ⟨tw_19_1, List.forall_mem_cons.mpr ⟨tw_19_2, List.forall_mem_cons.mpr ⟨tw_19_3, List.forall_mem_cons.mpr ⟨tw_19_4, List.forall_mem_cons.mpr ⟨tw_19_5, List.forall_mem_cons.mpr ⟨tw_19_6, List.forall_mem_cons.mpr ⟨tw_19_7, List.forall_mem_cons.mpr ⟨tw_19_8, List.forall_mem_cons.mpr ⟨tw_19_9, List.forall_mem_cons.mpr ⟨tw_19_10, List.forall_mem_cons.mpr ⟨tw_19_11, List.forall_mem_cons.mpr ⟨tw_19_12, List.forall_mem_cons.mpr ⟨tw_19_13, List.forall_mem_cons.mpr ⟨tw_19_14, List.forall_mem_cons.mpr ⟨tw_19_15, List.forall_mem_cons.mpr ⟨tw_19_16, List.forall_mem_cons.mpr ⟨tw_19_17, List.forall_mem_cons.mpr ⟨tw_19_18, List.forall_mem_cons.mpr ⟨tw_19_19, List.forall_mem_cons.mpr ⟨tw_19_20, List.forall_mem_cons.mpr ⟨tw_19_21, List.forall_mem_cons.mpr ⟨tw_19_22, List.forall_mem_cons.mpr ⟨tw_19_23, fun _ h => absurd h List.not_mem_nil⟩⟩⟩⟩⟩⟩⟩⟩⟩⟩⟩⟩⟩⟩⟩⟩⟩⟩⟩⟩⟩⟩⟩⟩
theorem tr_20 : ∀ w ∈ wsL_law_r20, w ∈ lw_tbl := List.forall_mem_cons.mpr ⟨tw_20_0, List.forall_mem_cons.mpr ⟨tw_20_1, List.forall_mem_cons.mpr ⟨tw_20_2, List.forall_mem_cons.mpr ⟨tw_20_3, List.forall_mem_cons.mpr ⟨tw_20_4, List.forall_mem_cons.mpr ⟨tw_20_5, List.forall_mem_cons.mpr ⟨tw_20_6, List.forall_mem_cons.mpr ⟨tw_20_7, List.forall_mem_cons.mpr ⟨tw_20_8, List.forall_mem_cons.mpr ⟨tw_20_9, List.forall_mem_cons.mpr ⟨tw_20_10, List.forall_mem_cons.mpr ⟨tw_20_11, List.forall_mem_cons.mpr ⟨tw_20_12, List.forall_mem_cons.mpr ⟨tw_20_13, List.forall_mem_cons.mpr ⟨tw_20_14, List.forall_mem_cons.mpr ⟨tw_20_15, List.forall_mem_cons.mpr ⟨tw_20_16, List.forall_mem_cons.mpr ⟨tw_20_17, List.forall_mem_cons.mpr ⟨tw_20_18, List.forall_mem_cons.mpr ⟨tw_20_19, List.forall_mem_cons.mpr ⟨tw_20_20, List.forall_mem_cons.mpr ⟨tw_20_21, List.forall_mem_cons.mpr ⟨tw_20_22, List.forall_mem_cons.mpr ⟨tw_20_23, fun _ h => absurd h List.not_mem_nil⟩⟩⟩⟩⟩⟩⟩⟩⟩⟩⟩⟩⟩⟩⟩⟩⟩⟩⟩⟩⟩⟩⟩⟩
theorem tr_21 : ∀ w ∈ wsL_law_r21, w ∈ lw_tbl := List.forall_mem_cons.mpr ⟨tw_21_0, List.forall_mem_cons.mpr ⟨tw_21_1, List.forall_mem_cons.mpr ⟨tw_21_2, List.forall_mem_cons.mpr ⟨tw_21_3, List.forall_mem_cons.mpr ⟨tw_21_4, List.forall_mem_cons.mpr ⟨tw_21_5, List.forall_mem_cons.mpr ⟨tw_21_6, List.forall_mem_cons.mpr ⟨tw_21_7, List.forall_mem_cons.mpr ⟨tw_21_8, List.forall_mem_cons.mpr ⟨tw_21_9, List.forall_mem_cons.mpr ⟨tw_21_10, List.forall_mem_cons.mpr ⟨tw_21_11, List.forall_mem_cons.mpr ⟨tw_21_12, List.forall_mem_cons.mpr ⟨tw_21_13, List.forall_mem_cons.mpr ⟨tw_21_14, List.forall_mem_cons.mpr ⟨tw_21_15, List.forall_mem_cons.mpr ⟨tw_21_16, List.forall_mem_cons.mpr ⟨tw_21_17, List.forall_mem_cons.mpr ⟨tw_21_18, List.forall_mem_cons.mpr ⟨tw_21_19, List.forall_mem_cons.mpr ⟨tw_21_20, List.forall_mem_cons.mpr ⟨tw_21_21, List.forall_mem_cons.mpr ⟨tw_21_22, List.forall_mem_cons.mpr ⟨tw_21_23, fun _ h => absurd h List.not_mem_nil⟩⟩⟩⟩⟩⟩⟩⟩⟩⟩⟩⟩⟩⟩⟩⟩⟩⟩⟩⟩⟩⟩⟩⟩
theorem tr_22 : ∀ w ∈ wsL_law_r22, w ∈ lw_tbl := List.forall_mem_cons.mpr ⟨tw_22_0, List.forall_mem_cons.mpr ⟨tw_22_1, List.forall_mem_cons.mpr ⟨tw_22_2, List.forall_mem_cons.mpr ⟨tw_22_3, List.forall_mem_cons.mpr ⟨tw_22_4, List.forall_mem_cons.mpr ⟨tw_22_5, List.forall_mem_cons.mpr ⟨tw_22_6, List.forall_mem_cons.mpr ⟨tw_22_7, List.forall_mem_cons.mpr ⟨tw_22_8, List.forall_mem_cons.mpr ⟨tw_22_9, List.forall_mem_cons.mpr ⟨tw_22_10, List.forall_mem_cons.mpr ⟨tw_22_11, List.forall_mem_cons.mpr ⟨tw_22_12, List.forall_mem_cons.mpr ⟨tw_22_13, List.forall_mem_cons.mpr ⟨tw_22_14, List.forall_mem_cons.mpr ⟨tw_22_15, List.forall_mem_cons.mpr ⟨tw_22_16, List.forall_mem_cons.mpr ⟨tw_22_17, List.forall_mem_cons.mpr ⟨tw_22_18, List.forall_mem_cons.mpr ⟨tw_22_19, List.forall_mem_cons.mpr ⟨tw_22_20, List.forall_mem_cons.mpr ⟨tw_22_21, List.forall_mem_cons.mpr ⟨tw_22_22, List.forall_mem_cons.mpr ⟨tw_22_23, fun _ h => absurd h List.not_mem_nil⟩⟩⟩⟩⟩⟩⟩⟩⟩⟩⟩⟩⟩⟩⟩⟩⟩⟩⟩⟩⟩⟩⟩⟩
theorem tr_23 : ∀ w ∈ wsL_law_r23, w ∈ lw_tbl := List.forall_mem_cons.mpr ⟨tw_23_0, List.forall_mem_cons.mpr ⟨tw_23_1, List.forall_mem_cons.mpr ⟨tw_23_2, List.forall_mem_cons.mpr ⟨tw_23_3, List.forall_mem_cons.mpr ⟨tw_23_4, List.forall_mem_cons.mpr ⟨tw_23_5, List.forall_mem_cons.mpr ⟨tw_23_6, List.forall_mem_cons.mpr ⟨tw_23_7, List.forall_mem_cons.mpr ⟨tw_23_8, List.forall_mem_cons.mpr ⟨tw_23_9, List.forall_mem_cons.mpr ⟨tw_23_10, List.forall_mem_cons.mpr ⟨tw_23_11, List.forall_mem_cons.mpr ⟨tw_23_12, List.forall_mem_cons.mpr ⟨tw_23_13, List.forall_mem_cons.mpr ⟨tw_23_14, List.forall_mem_cons.mpr ⟨tw_23_15, List.forall_mem_cons.mpr ⟨tw_23_16, List.forall_mem_cons.mpr ⟨tw_23_17, List.forall_mem_cons.mpr ⟨tw_23_18, List.forall_mem_cons.mpr ⟨tw_23_19, List.forall_mem_cons.mpr ⟨tw_23_20, List.forall_mem_cons.mpr ⟨tw_23_21, List.forall_mem_cons.mpr ⟨tw_23_22, List.forall_mem_cons.mpr ⟨tw_23_23, fun _ h => absurd h List.not_mem_nil⟩⟩⟩⟩⟩⟩⟩⟩⟩⟩⟩⟩⟩⟩⟩⟩⟩⟩⟩⟩⟩⟩⟩⟩
theorem tr_24 : ∀ w ∈ wsL_law_r24, w ∈ lw_tbl := List.forall_mem_cons.mpr ⟨tw_24_0, List.forall_mem_cons.mpr ⟨tw_24_1, List.forall_mem_cons.mpr ⟨tw_24_2, List.forall_mem_cons.mpr ⟨tw_24_3, List.forall_mem_cons.mpr ⟨tw_24_4, List.forall_mem_cons.mpr ⟨tw_24_5, List.forall_mem_cons.mpr ⟨tw_24_6, List.forall_mem_cons.mpr ⟨tw_24_7, List.forall_mem_cons.mpr ⟨tw_24_8, List.forall_mem_cons.mpr ⟨tw_24_9, List.forall_mem_cons.mpr ⟨tw_24_10, List.forall_mem_cons.mpr ⟨tw_24_11, List.forall_mem_cons.mpr ⟨tw_24_12, List.forall_mem_cons.mpr ⟨tw_24_13, List.forall_mem_cons.mpr ⟨tw_24_14, List.forall_mem_cons.mpr ⟨tw_24_15, List.forall_mem_cons.mpr ⟨tw_24_16, List.forall_mem_cons.mpr ⟨tw_24_17, List.forall_mem_cons.mpr ⟨tw_24_18, List.forall_mem_cons.mpr ⟨tw_24_19, List.forall_mem_cons.mpr ⟨tw_24_20, List.forall_mem_cons.mpr ⟨tw_24_21, List.forall_mem_cons.mpr ⟨tw_24_22, List.forall_mem_cons.mpr ⟨tw_24_23, fun _ h => absurd h List.not_mem_nil⟩⟩⟩⟩⟩⟩⟩⟩⟩⟩⟩⟩⟩⟩⟩⟩⟩⟩⟩⟩⟩⟩⟩⟩
theorem tr_25 : ∀ w ∈ wsL_law_r25, w ∈ lw_tbl := List.forall_mem_cons.mpr ⟨tw_25_0, List.forall_mem_cons.mpr ⟨tw_25_1, List.forall_mem_cons.mpr ⟨tw_25_2, List.forall_mem_cons.mpr ⟨tw_25_3, List.forall_mem_cons.mpr ⟨tw_25_4, List.forall_mem_cons.mpr ⟨tw_25_5, List.forall_mem_cons.mpr ⟨tw_25_6, List.forall_mem_cons.mpr ⟨tw_25_7, List.forall_mem_cons.mpr ⟨tw_25_8, List.forall_mem_cons.mpr ⟨tw_25_9, List.forall_mem_cons.mpr ⟨tw_25_10, List.forall_mem_cons.mpr ⟨tw_25_11, List.forall_mem_cons.mpr ⟨tw_25_12, List.forall_mem_cons.mpr ⟨tw_25_13, List.forall_mem_cons.mpr ⟨tw_25_14, List.forall_mem_cons.mpr ⟨tw_25_15, List.forall_mem_cons.mpr ⟨tw_25_16, List.forall_mem_cons.mpr ⟨tw_25_17, List.forall_mem_cons.mpr ⟨tw_25_18, List.forall_mem_cons.mpr ⟨tw_25_19, List.forall_mem_cons.mpr ⟨tw_25_20, List.forall_mem_cons.mpr ⟨tw_25_21, List.forall_mem_cons.mpr ⟨tw_25_22, List.forall_mem_cons.mpr ⟨tw_25_23, fun _ h => absurd h List.not_mem_nil⟩⟩⟩⟩⟩⟩⟩⟩⟩⟩⟩⟩⟩⟩⟩⟩⟩⟩⟩⟩⟩⟩⟩⟩
theorem tr_26 : ∀ w ∈ wsL_law_r26, w ∈ lw_tbl := List.forall_mem_cons.mpr ⟨tw_26_0, List.forall_mem_cons.mpr ⟨tw_26_1, List.forall_mem_cons.mpr ⟨tw_26_2, List.forall_mem_cons.mpr ⟨tw_26_3, List.forall_mem_cons.mpr ⟨tw_26_4, List.forall_mem_cons.mpr ⟨tw_26_5, List.forall_mem_cons.mpr ⟨tw_26_6, List.forall_mem_cons.mpr ⟨tw_26_7, List.forall_mem_cons.mpr ⟨tw_26_8, List.forall_mem_cons.mpr ⟨tw_26_9, List.forall_mem_cons.mpr ⟨tw_26_10, List.forall_mem_cons.mpr ⟨tw_26_11, List.forall_mem_cons.mpr ⟨tw_26_12, List.forall_mem_cons.mpr ⟨tw_26_13, List.forall_mem_cons.mpr ⟨tw_26_14, List.forall_mem_cons.mpr ⟨tw_26_15, List.forall_mem_cons.mpr ⟨tw_26_16, List.forall_mem_cons.mpr ⟨tw_26_17, List.forall_mem_cons.mpr ⟨tw_26_18, List.forall_mem_cons.mpr ⟨tw_26_19, List.forall_mem_cons.mpr ⟨tw_26_20, List.forall_mem_cons.mpr ⟨tw_26_21, List.forall_mem_cons.mpr ⟨tw_26_22, List.forall_mem_cons.mpr ⟨tw_26_23, fun _ h => absurd h List.not_mem_nil⟩⟩⟩⟩⟩⟩⟩⟩⟩⟩⟩⟩⟩⟩⟩⟩⟩⟩⟩⟩⟩⟩⟩⟩
theorem tr_27 : ∀ w ∈ wsL_law_r27, w ∈ lw_tbl := List.forall_mem_cons.mpr ⟨tw_27_0, List.forall_mem_cons.mpr ⟨tw_27_1, List.forall_mem_cons.mpr ⟨tw_27_2, List.forall_mem_cons.mpr ⟨tw_27_3, List.forall_mem_cons.mpr ⟨tw_27_4, List.forall_mem_cons.mpr ⟨tw_27_5, List.forall_mem_cons.mpr ⟨tw_27_6, List.forall_mem_cons.mpr ⟨tw_27_7, List.forall_mem_cons.mpr ⟨tw_27_8, List.forall_mem_cons.mpr ⟨tw_27_9, List.forall_mem_cons.mpr ⟨tw_27_10, List.forall_mem_cons.mpr ⟨tw_27_11, List.forall_mem_cons.mpr ⟨tw_27_12, List.forall_mem_cons.mpr ⟨tw_27_13, List.forall_mem_cons.mpr ⟨tw_27_14, List.forall_mem_cons.mpr ⟨tw_27_15, List.forall_mem_cons.mpr ⟨tw_27_16, List.forall_mem_cons.mpr ⟨tw_27_17, List.forall_mem_cons.mpr ⟨tw_27_18, List.forall_mem_cons.mpr ⟨tw_27_19, List.forall_mem_cons.mpr ⟨tw_27_20, List.forall_mem_cons.mpr ⟨tw_27_21, List.forall_mem_cons.mpr ⟨tw_27_22, List.forall_mem_cons.mpr ⟨tw_27_23, fun _ h => absurd h List.not_mem_nil⟩⟩⟩⟩⟩⟩⟩⟩⟩⟩⟩⟩⟩⟩⟩⟩⟩⟩⟩⟩⟩⟩⟩⟩
theorem tr_28 : ∀ w ∈ wsL_law_r28, w ∈ lw_tbl := List.forall_mem_cons.mpr ⟨tw_28_0, List.forall_mem_cons.mpr ⟨tw_28_1, List.forall_mem_cons.mpr ⟨tw_28_2, List.forall_mem_cons.mpr ⟨tw_28_3, List.forall_mem_cons.mpr ⟨tw_28_4, List.forall_mem_cons.mpr ⟨tw_28_5, List.forall_mem_cons.mpr ⟨tw_28_6, List.forall_mem_cons.mpr ⟨tw_28_7, List.forall_mem_cons.mpr ⟨tw_28_8, List.forall_mem_cons.mpr ⟨tw_28_9, List.forall_mem_cons.mpr ⟨tw_28_10, List.forall_mem_cons.mpr ⟨tw_28_11, List.forall_mem_cons.mpr ⟨tw_28_12, List.forall_mem_cons.mpr ⟨tw_28_13, List.forall_mem_cons.mpr ⟨tw_28_14, List.forall_mem_cons.mpr ⟨tw_28_15, List.forall_mem_cons.mpr ⟨tw_28_16, List.forall_mem_cons.mpr ⟨tw_28_17, List.forall_mem_cons.mpr ⟨tw_28_18, List.forall_mem_cons.mpr ⟨tw_28_19, List.forall_mem_cons.mpr ⟨tw_28_20, List.forall_mem_cons.mpr ⟨tw_28_21, fun _ h => absurd h List.not_mem_nil⟩⟩⟩⟩⟩⟩⟩⟩⟩⟩⟩⟩⟩⟩⟩⟩⟩⟩⟩⟩⟩⟩
set_option maxRecDepth 20000 in
theorem ty_0_0 : u_lay RX0 TX0 0 ∈ lw_tbl := tb_1 (List.mem_of_getElem? (i := 56) rfl)
set_option maxRecDepth 20000 in
theorem ty_0_1 : u_lay RX0 TX0 1 ∈ lw_tbl := tb_1 (List.mem_of_getElem? (i := 58) rfl)
set_option maxRecDepth 20000 in
theorem ty_0_2 : u_lay RX0 TX0 2 ∈ lw_tbl := tb_1 (List.mem_of_getElem? (i := 60) rfl)
set_option maxRecDepth 20000 in
theorem ty_0_3 : u_lay RX0 TX0 3 ∈ lw_tbl := tb_1 (List.mem_of_getElem? (i := 62) rfl)
set_option maxRecDepth 20000 in
theorem ty_0_4 : u_lay RX0 TX0 4 ∈ lw_tbl := tb_1 (List.mem_of_getElem? (i := 64) rfl)
theorem inX0 : ∀ w ∈ wsX00, w ∈ lw_tbl := by
  show ∀ w ∈ [u_lay RX0 TX0 0, u_lay RX0 TX0 1, u_lay RX0 TX0 2, u_lay RX0 TX0 3, u_lay RX0 TX0 4], w ∈ lw_tbl
  exact List.forall_mem_cons.mpr ⟨ty_0_0, List.forall_mem_cons.mpr ⟨ty_0_1, List.forall_mem_cons.mpr ⟨ty_0_2, List.forall_mem_cons.mpr ⟨ty_0_3, List.forall_mem_cons.mpr ⟨ty_0_4, fun _ h => absurd h List.not_mem_nil⟩⟩⟩⟩⟩
set_option maxRecDepth 20000 in
theorem ty_1_0 : u_lay RX1 TX1 0 ∈ lw_tbl := tb_1 (List.mem_of_getElem? (i := 112) rfl)
set_option maxRecDepth 20000 in
theorem ty_1_1 : u_lay RX1 TX1 1 ∈ lw_tbl := tb_1 (List.mem_of_getElem? (i := 114) rfl)
set_option maxRecDepth 20000 in
theorem ty_1_2 : u_lay RX1 TX1 2 ∈ lw_tbl := tb_1 (List.mem_of_getElem? (i := 116) rfl)
set_option maxRecDepth 20000 in
theorem ty_1_3 : u_lay RX1 TX1 3 ∈ lw_tbl := tb_1 (List.mem_of_getElem? (i := 118) rfl)
theorem inX1 : ∀ w ∈ wsX10, w ∈ lw_tbl := by
  show ∀ w ∈ [u_lay RX1 TX1 0, u_lay RX1 TX1 1, u_lay RX1 TX1 2, u_lay RX1 TX1 3], w ∈ lw_tbl
  exact List.forall_mem_cons.mpr ⟨ty_1_0, List.forall_mem_cons.mpr ⟨ty_1_1, List.forall_mem_cons.mpr ⟨ty_1_2, List.forall_mem_cons.mpr ⟨ty_1_3, fun _ h => absurd h List.not_mem_nil⟩⟩⟩⟩
set_option maxRecDepth 20000 in
theorem ty_2_0 : u_lay RX2 TX2 0 ∈ lw_tbl := tb_1 (List.mem_of_getElem? (i := 32) rfl)
set_option maxRecDepth 20000 in
theorem ty_2_1 : u_lay RX2 TX2 1 ∈ lw_tbl := tb_1 (List.mem_of_getElem? (i := 34) rfl)
set_option maxRecDepth 20000 in
theorem ty_2_2 : u_lay RX2 TX2 2 ∈ lw_tbl := tb_1 (List.mem_of_getElem? (i := 36) rfl)
theorem inX2 : ∀ w ∈ wsX20, w ∈ lw_tbl := by
  show ∀ w ∈ [u_lay RX2 TX2 0, u_lay RX2 TX2 1, u_lay RX2 TX2 2], w ∈ lw_tbl
  exact List.forall_mem_cons.mpr ⟨ty_2_0, List.forall_mem_cons.mpr ⟨ty_2_1, List.forall_mem_cons.mpr ⟨ty_2_2, fun _ h => absurd h List.not_mem_nil⟩⟩⟩
set_option maxRecDepth 20000 in
theorem ty_3_0 : u_lay RX3 TX3 0 ∈ lw_tbl := tb_1 (List.mem_of_getElem? (i := 82) rfl)
set_option maxRecDepth 20000 in
theorem ty_3_1 : u_lay RX3 TX3 1 ∈ lw_tbl := tb_1 (List.mem_of_getElem? (i := 84) rfl)
set_option maxRecDepth 20000 in
theorem ty_3_2 : u_lay RX3 TX3 2 ∈ lw_tbl := tb_1 (List.mem_of_getElem? (i := 86) rfl)
set_option maxRecDepth 20000 in
theorem ty_3_3 : u_lay RX3 TX3 3 ∈ lw_tbl := tb_1 (List.mem_of_getElem? (i := 88) rfl)
set_option maxRecDepth 20000 in
theorem ty_3_4 : u_lay RX3 TX3 4 ∈ lw_tbl := tb_1 (List.mem_of_getElem? (i := 90) rfl)
set_option maxRecDepth 20000 in
theorem ty_3_5 : u_lay RX3 TX3 5 ∈ lw_tbl := tb_1 (List.mem_of_getElem? (i := 92) rfl)
theorem inX3 : ∀ w ∈ wsX30, w ∈ lw_tbl := by
  show ∀ w ∈ [u_lay RX3 TX3 0, u_lay RX3 TX3 1, u_lay RX3 TX3 2, u_lay RX3 TX3 3, u_lay RX3 TX3 4, u_lay RX3 TX3 5], w ∈ lw_tbl
  exact List.forall_mem_cons.mpr ⟨ty_3_0, List.forall_mem_cons.mpr ⟨ty_3_1, List.forall_mem_cons.mpr ⟨ty_3_2, List.forall_mem_cons.mpr ⟨ty_3_3, List.forall_mem_cons.mpr ⟨ty_3_4, List.forall_mem_cons.mpr ⟨ty_3_5, fun _ h => absurd h List.not_mem_nil⟩⟩⟩⟩⟩⟩
set_option maxRecDepth 20000 in
theorem ty_4_0 : u_lay RX4 TX4 0 ∈ lw_tbl := tb_1 (List.mem_of_getElem? (i := 129) rfl)
set_option maxRecDepth 20000 in
theorem ty_4_1 : u_lay RX4 TX4 1 ∈ lw_tbl := tb_1 (List.mem_of_getElem? (i := 131) rfl)
set_option maxRecDepth 20000 in
theorem ty_4_2 : u_lay RX4 TX4 2 ∈ lw_tbl := tb_1 (List.mem_of_getElem? (i := 133) rfl)
set_option maxRecDepth 20000 in
theorem ty_4_3 : u_lay RX4 TX4 3 ∈ lw_tbl := tb_1 (List.mem_of_getElem? (i := 135) rfl)
set_option maxRecDepth 20000 in
theorem ty_4_4 : u_lay RX4 TX4 4 ∈ lw_tbl := tb_1 (List.mem_of_getElem? (i := 137) rfl)
set_option maxRecDepth 20000 in
theorem ty_4_5 : u_lay RX4 TX4 5 ∈ lw_tbl := tb_1 (List.mem_of_getElem? (i := 139) rfl)
set_option maxRecDepth 20000 in
theorem ty_4_6 : u_lay RX4 TX4 6 ∈ lw_tbl := tb_1 (List.mem_of_getElem? (i := 141) rfl)
set_option maxRecDepth 20000 in
theorem ty_4_7 : u_lay RX4 TX4 7 ∈ lw_tbl := tb_1 (List.mem_of_getElem? (i := 143) rfl)
theorem inX4 : ∀ w ∈ wsX40, w ∈ lw_tbl := by
  show ∀ w ∈ [u_lay RX4 TX4 0, u_lay RX4 TX4 1, u_lay RX4 TX4 2, u_lay RX4 TX4 3, u_lay RX4 TX4 4, u_lay RX4 TX4 5, u_lay RX4 TX4 6, u_lay RX4 TX4 7], w ∈ lw_tbl
  exact List.forall_mem_cons.mpr ⟨ty_4_0, List.forall_mem_cons.mpr ⟨ty_4_1, List.forall_mem_cons.mpr ⟨ty_4_2, List.forall_mem_cons.mpr ⟨ty_4_3, List.forall_mem_cons.mpr ⟨ty_4_4, List.forall_mem_cons.mpr ⟨ty_4_5, List.forall_mem_cons.mpr ⟨ty_4_6, List.forall_mem_cons.mpr ⟨ty_4_7, fun _ h => absurd h List.not_mem_nil⟩⟩⟩⟩⟩⟩⟩⟩
set_option maxRecDepth 20000 in
theorem ty_5_0 : u_lay RX5 TX5 0 ∈ lw_tbl := tb_3 (List.mem_of_getElem? (i := 52) rfl)
set_option maxRecDepth 20000 in
theorem ty_5_1 : u_lay RX5 TX5 1 ∈ lw_tbl := tb_3 (List.mem_of_getElem? (i := 54) rfl)
set_option maxRecDepth 20000 in
theorem ty_5_2 : u_lay RX5 TX5 2 ∈ lw_tbl := tb_3 (List.mem_of_getElem? (i := 56) rfl)
set_option maxRecDepth 20000 in
theorem ty_5_3 : u_lay RX5 TX5 3 ∈ lw_tbl := tb_3 (List.mem_of_getElem? (i := 58) rfl)
set_option maxRecDepth 20000 in
theorem ty_5_4 : u_lay RX5 TX5 4 ∈ lw_tbl := tb_3 (List.mem_of_getElem? (i := 60) rfl)
set_option maxRecDepth 20000 in
theorem ty_5_5 : u_lay RX5 TX5 5 ∈ lw_tbl := tb_3 (List.mem_of_getElem? (i := 62) rfl)
set_option maxRecDepth 20000 in
theorem ty_5_6 : u_lay RX5 TX5 6 ∈ lw_tbl := tb_3 (List.mem_of_getElem? (i := 64) rfl)
set_option maxRecDepth 20000 in
theorem ty_5_7 : u_lay RX5 TX5 7 ∈ lw_tbl := tb_3 (List.mem_of_getElem? (i := 66) rfl)
set_option maxRecDepth 20000 in
theorem ty_5_8 : u_lay RX5 TX5 8 ∈ lw_tbl := tb_3 (List.mem_of_getElem? (i := 68) rfl)
set_option maxRecDepth 20000 in
theorem ty_5_9 : u_lay RX5 TX5 9 ∈ lw_tbl := tb_3 (List.mem_of_getElem? (i := 70) rfl)
set_option maxRecDepth 20000 in
theorem ty_5_10 : u_lay RX5 TX5 10 ∈ lw_tbl := tb_3 (List.mem_of_getElem? (i := 72) rfl)
set_option maxRecDepth 20000 in
theorem ty_5_11 : u_lay RX5 TX5 11 ∈ lw_tbl := tb_3 (List.mem_of_getElem? (i := 74) rfl)
set_option maxRecDepth 20000 in
theorem ty_5_12 : u_lay RX5 TX5 12 ∈ lw_tbl := tb_3 (List.mem_of_getElem? (i := 76) rfl)
set_option maxRecDepth 20000 in
theorem ty_5_13 : u_lay RX5 TX5 13 ∈ lw_tbl := tb_3 (List.mem_of_getElem? (i := 78) rfl)
set_option maxRecDepth 20000 in
theorem ty_5_14 : u_lay RX5 TX5 14 ∈ lw_tbl := tb_3 (List.mem_of_getElem? (i := 80) rfl)
set_option maxRecDepth 20000 in
theorem ty_5_15 : u_lay RX5 TX5 15 ∈ lw_tbl := tb_3 (List.mem_of_getElem? (i := 82) rfl)
set_option maxRecDepth 20000 in
theorem ty_5_16 : u_lay RX5 TX5 16 ∈ lw_tbl := tb_3 (List.mem_of_getElem? (i := 84) rfl)
set_option maxRecDepth 20000 in
theorem ty_5_17 : u_lay RX5 TX5 17 ∈ lw_tbl := tb_3 (List.mem_of_getElem? (i := 86) rfl)
set_option maxRecDepth 20000 in
theorem ty_5_18 : u_lay RX5 TX5 18 ∈ lw_tbl := tb_3 (List.mem_of_getElem? (i := 88) rfl)
set_option maxRecDepth 20000 in
theorem ty_5_19 : u_lay RX5 TX5 19 ∈ lw_tbl := tb_3 (List.mem_of_getElem? (i := 90) rfl)
set_option maxRecDepth 20000 in
theorem ty_5_20 : u_lay RX5 TX5 20 ∈ lw_tbl := tb_3 (List.mem_of_getElem? (i := 92) rfl)
set_option maxRecDepth 20000 in
theorem ty_5_21 : u_lay RX5 TX5 21 ∈ lw_tbl := tb_3 (List.mem_of_getElem? (i := 94) rfl)
set_option maxRecDepth 20000 in
theorem ty_5_22 : u_lay RX5 TX5 22 ∈ lw_tbl := tb_3 (List.mem_of_getElem? (i := 96) rfl)
set_option maxRecDepth 20000 in
theorem ty_5_23 : u_lay RX5 TX5 23 ∈ lw_tbl := tb_3 (List.mem_of_getElem? (i := 98) rfl)
set_option maxRecDepth 20000 in
theorem ty_5_24 : u_lay RX5 TX5 24 ∈ lw_tbl := tb_3 (List.mem_of_getElem? (i := 100) rfl)
theorem inX5 : ∀ w ∈ wsX50, w ∈ lw_tbl := by
  show ∀ w ∈ [u_lay RX5 TX5 0, u_lay RX5 TX5 1, u_lay RX5 TX5 2, u_lay RX5 TX5 3, u_lay RX5 TX5 4, u_lay RX5 TX5 5, u_lay RX5 TX5 6, u_lay RX5 TX5 7, u_lay RX5 TX5 8, u_lay RX5 TX5 9, u_lay RX5 TX5 10, u_lay RX5 TX5 11, u_lay RX5 TX5 12, u_lay RX5 TX5 13, u_lay RX5 TX5 14, u_lay RX5 TX5 15, u_lay RX5 TX5 16, u_lay RX5 TX5 17, u_lay RX5 TX5 18, u_lay RX5 TX5 19, u_lay RX5 TX5 20, u_lay RX5 TX5 21, u_lay RX5 TX5 22, u_lay RX5 TX5 23, u_lay RX5 TX5 24], w ∈ lw_tbl
  exact List.forall_mem_cons.mpr ⟨ty_5_0, List.forall_mem_cons.mpr ⟨ty_5_1, List.forall_mem_cons.mpr ⟨ty_5_2, List.forall_mem_cons.mpr ⟨ty_5_3, List.forall_mem_cons.mpr ⟨ty_5_4, List.forall_mem_cons.mpr ⟨ty_5_5, List.forall_mem_cons.mpr ⟨ty_5_6, List.forall_mem_cons.mpr ⟨ty_5_7, List.forall_mem_cons.mpr ⟨ty_5_8, List.forall_mem_cons.mpr ⟨ty_5_9, List.forall_mem_cons.mpr ⟨ty_5_10, List.forall_mem_cons.mpr ⟨ty_5_11, List.forall_mem_cons.mpr ⟨ty_5_12, List.forall_mem_cons.mpr ⟨ty_5_13, List.forall_mem_cons.mpr ⟨ty_5_14, List.forall_mem_cons.mpr ⟨ty_5_15, List.forall_mem_cons.mpr ⟨ty_5_16, List.forall_mem_cons.mpr ⟨ty_5_17, List.forall_mem_cons.mpr ⟨ty_5_18, List.forall_mem_cons.mpr ⟨ty_5_19, List.forall_mem_cons.mpr ⟨ty_5_20, List.forall_mem_cons.mpr ⟨ty_5_21, List.forall_mem_cons.mpr ⟨ty_5_22, List.forall_mem_cons.mpr ⟨ty_5_23, List.forall_mem_cons.mpr ⟨ty_5_24, fun _ h => absurd h List.not_mem_nil⟩⟩⟩⟩⟩⟩⟩⟩⟩⟩⟩⟩⟩⟩⟩⟩⟩⟩⟩⟩⟩⟩⟩⟩⟩
theorem wsL_law_in : ∀ w ∈ wsL_law, w ∈ lw_tbl := by
  intro w h
  simp only [wsL_law, List.mem_append] at h
  have H1 : ∀ r ∈ [wsL_law_r1, wsL_law_r2, wsL_law_r3, wsL_law_r4, wsL_law_r5, wsL_law_r6, wsL_law_r7, wsL_law_r8, wsL_law_r9, wsL_law_r10, wsL_law_r11, wsL_law_r12, wsL_law_r13, wsL_law_r14, wsL_law_r15, wsL_law_r16, wsL_law_r17, wsL_law_r18, wsL_law_r19, wsL_law_r20, wsL_law_r21, wsL_law_r22, wsL_law_r23, wsL_law_r24, wsL_law_r25, wsL_law_r26, wsL_law_r27, wsL_law_r28, wsX00, wsX10, wsX20, wsX30, wsX40, wsX50], ∀ w ∈ r, w ∈ lw_tbl := List.forall_mem_cons.mpr ⟨tr_1, List.forall_mem_cons.mpr ⟨tr_2, List.forall_mem_cons.mpr ⟨tr_3, List.forall_mem_cons.mpr ⟨tr_4, List.forall_mem_cons.mpr ⟨tr_5, List.forall_mem_cons.mpr ⟨tr_6, List.forall_mem_cons.mpr ⟨tr_7, List.forall_mem_cons.mpr ⟨tr_8, List.forall_mem_cons.mpr ⟨tr_9, List.forall_mem_cons.mpr ⟨tr_10, List.forall_mem_cons.mpr ⟨tr_11, List.forall_mem_cons.mpr ⟨tr_12, List.forall_mem_cons.mpr ⟨tr_13, List.forall_mem_cons.mpr ⟨tr_14, List.forall_mem_cons.mpr ⟨tr_15, List.forall_mem_cons.mpr ⟨tr_16, List.forall_mem_cons.mpr ⟨tr_17, List.forall_mem_cons.mpr ⟨tr_18, List.forall_mem_cons.mpr ⟨tr_19, List.forall_mem_cons.mpr ⟨tr_20, List.forall_mem_cons.mpr ⟨tr_21, List.forall_mem_cons.mpr ⟨tr_22, List.forall_mem_cons.mpr ⟨tr_23, List.forall_mem_cons.mpr ⟨tr_24, List.forall_mem_cons.mpr ⟨tr_25, List.forall_mem_cons.mpr ⟨tr_26, List.forall_mem_cons.mpr ⟨tr_27, List.forall_mem_cons.mpr ⟨tr_28, List.forall_mem_cons.mpr ⟨inX0, List.forall_mem_cons.mpr ⟨inX1, List.forall_mem_cons.mpr ⟨inX2, List.forall_mem_cons.mpr ⟨inX3, List.forall_mem_cons.mpr ⟨inX4, List.forall_mem_cons.mpr ⟨inX5, fun _ h => absurd h List.not_mem_nil⟩⟩⟩⟩⟩⟩⟩⟩⟩⟩⟩⟩⟩⟩⟩⟩⟩⟩⟩⟩⟩⟩⟩⟩⟩⟩⟩⟩⟩⟩⟩⟩⟩⟩
  have H2 : ∃ r ∈ [wsL_law_r1, wsL_law_r2, wsL_law_r3, wsL_law_r4, wsL_law_r5, wsL_law_r6, wsL_law_r7, wsL_law_r8, wsL_law_r9, wsL_law_r10, wsL_law_r11, wsL_law_r12, wsL_law_r13, wsL_law_r14, wsL_law_r15, wsL_law_r16, wsL_law_r17, wsL_law_r18, wsL_law_r19, wsL_law_r20, wsL_law_r21, wsL_law_r22, wsL_law_r23, wsL_law_r24, wsL_law_r25, wsL_law_r26, wsL_law_r27, wsL_law_r28, wsX00, wsX10, wsX20, wsX30, wsX40, wsX50], w ∈ r := by
    simp only [List.mem_cons, exists_eq_or_imp, List.not_mem_nil, false_and, exists_false, or_false]
    simp only [or_assoc] at h ⊢
    grind
  obtain ⟨r, h1, h2⟩ := H2
  exact H1 r h1 w h2
theorem wsL_good : wsL_law.all goodWord = true := by decide +kernel
theorem gd_law (y : MethodName) (cc : ByteArray) (n : Nat) (ret : Option FieldType) (h : Cond.code y cc n ret ∈ wsL_law) : GoodIn wsL_law (Cond.code y cc n ret :: wsL_law) := by
  intro w hw
  have h1 : w ∈ wsL_law := by
    rcases List.mem_cons.mp hw with q | q
    · rw [q]; exact h
    · exact q
  exact ⟨h1, good_of_word (List.all_eq_true.mp wsL_good w h1)⟩
theorem inr_1 : ∀ w ∈ wsL_law_r1, w ∈ wsL_law := by
  intro w h
  simp only [wsL_law, List.mem_append, h, true_or, or_true]
theorem inr_2 : ∀ w ∈ wsL_law_r2, w ∈ wsL_law := by
  intro w h
  simp only [wsL_law, List.mem_append, h, true_or, or_true]
theorem inr_3 : ∀ w ∈ wsL_law_r3, w ∈ wsL_law := by
  intro w h
  simp only [wsL_law, List.mem_append, h, true_or, or_true]
theorem inr_4 : ∀ w ∈ wsL_law_r4, w ∈ wsL_law := by
  intro w h
  simp only [wsL_law, List.mem_append, h, true_or, or_true]
theorem inr_5 : ∀ w ∈ wsL_law_r5, w ∈ wsL_law := by
  intro w h
  simp only [wsL_law, List.mem_append, h, true_or, or_true]
theorem inr_6 : ∀ w ∈ wsL_law_r6, w ∈ wsL_law := by
  intro w h
  simp only [wsL_law, List.mem_append, h, true_or, or_true]
theorem inr_7 : ∀ w ∈ wsL_law_r7, w ∈ wsL_law := by
  intro w h
  simp only [wsL_law, List.mem_append, h, true_or, or_true]
theorem inr_8 : ∀ w ∈ wsL_law_r8, w ∈ wsL_law := by
  intro w h
  simp only [wsL_law, List.mem_append, h, true_or, or_true]
theorem inr_9 : ∀ w ∈ wsL_law_r9, w ∈ wsL_law := by
  intro w h
  simp only [wsL_law, List.mem_append, h, true_or, or_true]
theorem inr_10 : ∀ w ∈ wsL_law_r10, w ∈ wsL_law := by
  intro w h
  simp only [wsL_law, List.mem_append, h, true_or, or_true]
theorem inr_11 : ∀ w ∈ wsL_law_r11, w ∈ wsL_law := by
  intro w h
  simp only [wsL_law, List.mem_append, h, true_or, or_true]
theorem inr_12 : ∀ w ∈ wsL_law_r12, w ∈ wsL_law := by
  intro w h
  simp only [wsL_law, List.mem_append, h, true_or, or_true]
theorem inr_13 : ∀ w ∈ wsL_law_r13, w ∈ wsL_law := by
  intro w h
  simp only [wsL_law, List.mem_append, h, true_or, or_true]
theorem inr_14 : ∀ w ∈ wsL_law_r14, w ∈ wsL_law := by
  intro w h
  simp only [wsL_law, List.mem_append, h, true_or, or_true]
theorem inr_15 : ∀ w ∈ wsL_law_r15, w ∈ wsL_law := by
  intro w h
  simp only [wsL_law, List.mem_append, h, true_or, or_true]
theorem inr_16 : ∀ w ∈ wsL_law_r16, w ∈ wsL_law := by
  intro w h
  simp only [wsL_law, List.mem_append, h, true_or, or_true]
theorem inr_17 : ∀ w ∈ wsL_law_r17, w ∈ wsL_law := by
  intro w h
  simp only [wsL_law, List.mem_append, h, true_or, or_true]
theorem inr_18 : ∀ w ∈ wsL_law_r18, w ∈ wsL_law := by
  intro w h
  simp only [wsL_law, List.mem_append, h, true_or, or_true]
theorem inr_19 : ∀ w ∈ wsL_law_r19, w ∈ wsL_law := by
  intro w h
  simp only [wsL_law, List.mem_append, h, true_or, or_true]
theorem inr_20 : ∀ w ∈ wsL_law_r20, w ∈ wsL_law := by
  intro w h
  simp only [wsL_law, List.mem_append, h, true_or, or_true]
theorem inr_21 : ∀ w ∈ wsL_law_r21, w ∈ wsL_law := by
  intro w h
  simp only [wsL_law, List.mem_append, h, true_or, or_true]
theorem inr_22 : ∀ w ∈ wsL_law_r22, w ∈ wsL_law := by
  intro w h
  simp only [wsL_law, List.mem_append, h, true_or, or_true]
theorem inr_23 : ∀ w ∈ wsL_law_r23, w ∈ wsL_law := by
  intro w h
  simp only [wsL_law, List.mem_append, h, true_or, or_true]
theorem inr_24 : ∀ w ∈ wsL_law_r24, w ∈ wsL_law := by
  intro w h
  simp only [wsL_law, List.mem_append, h, true_or, or_true]
theorem inr_25 : ∀ w ∈ wsL_law_r25, w ∈ wsL_law := by
  intro w h
  simp only [wsL_law, List.mem_append, h, true_or, or_true]
theorem inr_26 : ∀ w ∈ wsL_law_r26, w ∈ wsL_law := by
  intro w h
  simp only [wsL_law, List.mem_append, h, true_or, or_true]
theorem inr_27 : ∀ w ∈ wsL_law_r27, w ∈ wsL_law := by
  intro w h
  simp only [wsL_law, List.mem_append, h, true_or, or_true]
theorem inr_28 : ∀ w ∈ wsL_law_r28, w ∈ wsL_law := by
  intro w h
  simp only [wsL_law, List.mem_append, h, true_or, or_true]
theorem kw_1_0 : Cond.classLink RL 7 RX4 ∈ wsL_law := inr_1 _ (List.mem_of_getElem? (i := 0) rfl)
theorem kw_1_1 : Cond.instantiable RX4 8 ∈ wsL_law := inr_1 _ (List.mem_of_getElem? (i := 1) rfl)
theorem kw_1_2 : Cond.initialized RX4 ∈ wsL_law := inr_1 _ (List.mem_of_getElem? (i := 2) rfl)
theorem kw_1_3 : Cond.classLink RL 10 RX5 ∈ wsL_law := inr_1 _ (List.mem_of_getElem? (i := 3) rfl)
theorem kw_1_4 : Cond.instantiable RX5 25 ∈ wsL_law := inr_1 _ (List.mem_of_getElem? (i := 4) rfl)
theorem kw_1_5 : Cond.initialized RX5 ∈ wsL_law := inr_1 _ (List.mem_of_getElem? (i := 5) rfl)
theorem kw_1_6 : Cond.constantLong RL 79 (4294967295) ∈ wsL_law := inr_1 _ (List.mem_of_getElem? (i := 6) rfl)
theorem kw_1_7 : Cond.methodLink RL 9 yX4_init ∈ wsL_law := inr_1 _ (List.mem_of_getElem? (i := 7) rfl)
theorem kw_1_8 : Cond.instanceMethod yX4_init ∈ wsL_law := inr_1 _ (List.mem_of_getElem? (i := 8) rfl)
theorem kw_1_9 : Cond.code yX4_init cX4_init 2 none ∈ wsL_law := inr_1 _ (List.mem_of_getElem? (i := 9) rfl)
theorem kw_1_10 : Cond.methodLink RX4 3 objectInit ∈ wsL_law := inr_1 _ (List.mem_of_getElem? (i := 10) rfl)
theorem kw_1_11 : Cond.instanceMethod objectInit ∈ wsL_law := inr_1 _ (List.mem_of_getElem? (i := 11) rfl)
theorem kw_1_12 : Cond.code objectInit ⟨#[0xb1]⟩ 1 none ∈ wsL_law := inr_1 _ (List.mem_of_getElem? (i := 12) rfl)
theorem kw_1_13 : Cond.classLink RX4 9 RX2 ∈ wsL_law := inr_1 _ (List.mem_of_getElem? (i := 13) rfl)
theorem kw_1_14 : Cond.instantiable RX2 3 ∈ wsL_law := inr_1 _ (List.mem_of_getElem? (i := 14) rfl)
theorem kw_1_15 : Cond.initialized RX2 ∈ wsL_law := inr_1 _ (List.mem_of_getElem? (i := 15) rfl)
theorem kw_1_16 : Cond.fieldLink RX4 12 "ArrayMaker" "shape" "LArrayMaker$Shape;" ∈ wsL_law := inr_1 _ (List.mem_of_getElem? (i := 16) rfl)
theorem kw_1_17 : Cond.classLink RX4 16 RX0 ∈ wsL_law := inr_1 _ (List.mem_of_getElem? (i := 17) rfl)
theorem kw_1_18 : Cond.instantiable RX0 5 ∈ wsL_law := inr_1 _ (List.mem_of_getElem? (i := 18) rfl)
theorem kw_1_19 : Cond.initialized RX0 ∈ wsL_law := inr_1 _ (List.mem_of_getElem? (i := 19) rfl)
theorem kw_1_20 : Cond.fieldLink RX4 19 "ArrayMaker" "list" "LArrayMaker$Lines;" ∈ wsL_law := inr_1 _ (List.mem_of_getElem? (i := 20) rfl)
theorem kw_1_21 : Cond.classLink RX4 23 RX3 ∈ wsL_law := inr_1 _ (List.mem_of_getElem? (i := 21) rfl)
theorem kw_1_22 : Cond.instantiable RX3 6 ∈ wsL_law := inr_1 _ (List.mem_of_getElem? (i := 22) rfl)
theorem kw_1_23 : Cond.initialized RX3 ∈ wsL_law := inr_1 _ (List.mem_of_getElem? (i := 23) rfl)
theorem kw_2_0 : Cond.fieldLink RX4 26 "ArrayMaker" "store" "LArrayMaker$Store;" ∈ wsL_law := inr_2 _ (List.mem_of_getElem? (i := 0) rfl)
theorem kw_2_1 : Cond.classLink RX4 30 RX1 ∈ wsL_law := inr_2 _ (List.mem_of_getElem? (i := 1) rfl)
theorem kw_2_2 : Cond.fieldLink RX4 32 "ArrayMaker" "arrays" "[LArrayMaker$MadeArray;" ∈ wsL_law := inr_2 _ (List.mem_of_getElem? (i := 2) rfl)
theorem kw_2_3 : Cond.arrayClass .int ∈ wsL_law := inr_2 _ (List.mem_of_getElem? (i := 3) rfl)
theorem kw_2_4 : Cond.fieldLink RX4 36 "ArrayMaker" "sources" "[I" ∈ wsL_law := inr_2 _ (List.mem_of_getElem? (i := 4) rfl)
theorem kw_2_5 : Cond.fieldLink RX4 40 "ArrayMaker" "made" "I" ∈ wsL_law := inr_2 _ (List.mem_of_getElem? (i := 5) rfl)
theorem kw_2_6 : Cond.fieldLink RX4 44 "ArrayMaker" "code" "I" ∈ wsL_law := inr_2 _ (List.mem_of_getElem? (i := 6) rfl)
theorem kw_2_7 : Cond.fieldLink RX4 47 "ArrayMaker" "which" "I" ∈ wsL_law := inr_2 _ (List.mem_of_getElem? (i := 7) rfl)
theorem kw_2_8 : Cond.instantiable RX1 4 ∈ wsL_law := inr_2 _ (List.mem_of_getElem? (i := 8) rfl)
theorem kw_2_9 : Cond.initialized RX1 ∈ wsL_law := inr_2 _ (List.mem_of_getElem? (i := 9) rfl)
theorem kw_2_10 : Cond.instanceMethod yX2_init ∈ wsL_law := inr_2 _ (List.mem_of_getElem? (i := 10) rfl)
theorem kw_2_11 : Cond.code yX2_init cX2_init 1 none ∈ wsL_law := inr_2 _ (List.mem_of_getElem? (i := 11) rfl)
theorem kw_2_12 : Cond.methodLink RX2 3 objectInit ∈ wsL_law := inr_2 _ (List.mem_of_getElem? (i := 12) rfl)
theorem kw_2_13 : Cond.fieldLink RX2 9 "ArrayMaker$Shape" "low" "[I" ∈ wsL_law := inr_2 _ (List.mem_of_getElem? (i := 13) rfl)
theorem kw_2_14 : Cond.fieldLink RX2 15 "ArrayMaker$Shape" "high" "[I" ∈ wsL_law := inr_2 _ (List.mem_of_getElem? (i := 14) rfl)
theorem kw_2_15 : Cond.instanceMethod yX0_init ∈ wsL_law := inr_2 _ (List.mem_of_getElem? (i := 15) rfl)
theorem kw_2_16 : Cond.code yX0_init cX0_init 1 none ∈ wsL_law := inr_2 _ (List.mem_of_getElem? (i := 16) rfl)
theorem kw_2_17 : Cond.methodLink RX0 3 objectInit ∈ wsL_law := inr_2 _ (List.mem_of_getElem? (i := 17) rfl)
theorem kw_2_18 : Cond.fieldLink RX0 9 "ArrayMaker$Lines" "i" "[I" ∈ wsL_law := inr_2 _ (List.mem_of_getElem? (i := 18) rfl)
theorem kw_2_19 : Cond.fieldLink RX0 15 "ArrayMaker$Lines" "j" "[I" ∈ wsL_law := inr_2 _ (List.mem_of_getElem? (i := 19) rfl)
theorem kw_2_20 : Cond.fieldLink RX0 18 "ArrayMaker$Lines" "k" "[I" ∈ wsL_law := inr_2 _ (List.mem_of_getElem? (i := 20) rfl)
theorem kw_2_21 : Cond.arrayClass .long ∈ wsL_law := inr_2 _ (List.mem_of_getElem? (i := 21) rfl)
theorem kw_2_22 : Cond.fieldLink RX0 21 "ArrayMaker$Lines" "v" "[J" ∈ wsL_law := inr_2 _ (List.mem_of_getElem? (i := 22) rfl)
theorem kw_2_23 : Cond.instanceMethod yX3_init ∈ wsL_law := inr_2 _ (List.mem_of_getElem? (i := 23) rfl)
theorem kw_3_0 : Cond.code yX3_init cX3_init 1 none ∈ wsL_law := inr_3 _ (List.mem_of_getElem? (i := 0) rfl)
theorem kw_3_1 : Cond.methodLink RX3 3 objectInit ∈ wsL_law := inr_3 _ (List.mem_of_getElem? (i := 1) rfl)
theorem kw_3_2 : Cond.fieldLink RX3 9 "ArrayMaker$Store" "numbers" "[J" ∈ wsL_law := inr_3 _ (List.mem_of_getElem? (i := 2) rfl)
theorem kw_3_3 : Cond.arrayClass .boolean ∈ wsL_law := inr_3 _ (List.mem_of_getElem? (i := 3) rfl)
theorem kw_3_4 : Cond.fieldLink RX3 15 "ArrayMaker$Store" "filled" "[Z" ∈ wsL_law := inr_3 _ (List.mem_of_getElem? (i := 4) rfl)
theorem kw_3_5 : Cond.fieldLink RX3 19 "ArrayMaker$Store" "starts" "[I" ∈ wsL_law := inr_3 _ (List.mem_of_getElem? (i := 5) rfl)
theorem kw_3_6 : Cond.fieldLink RX3 23 "ArrayMaker$Store" "lengths" "[I" ∈ wsL_law := inr_3 _ (List.mem_of_getElem? (i := 6) rfl)
theorem kw_3_7 : Cond.instanceMethod yX1_init ∈ wsL_law := inr_3 _ (List.mem_of_getElem? (i := 7) rfl)
theorem kw_3_8 : Cond.code yX1_init cX1_init 1 none ∈ wsL_law := inr_3 _ (List.mem_of_getElem? (i := 8) rfl)
theorem kw_3_9 : Cond.methodLink RX1 3 objectInit ∈ wsL_law := inr_3 _ (List.mem_of_getElem? (i := 9) rfl)
theorem kw_3_10 : Cond.classLink RX1 9 RX2 ∈ wsL_law := inr_3 _ (List.mem_of_getElem? (i := 10) rfl)
theorem kw_3_11 : Cond.fieldLink RX1 12 "ArrayMaker$MadeArray" "shape" "LArrayMaker$Shape;" ∈ wsL_law := inr_3 _ (List.mem_of_getElem? (i := 11) rfl)
theorem kw_3_12 : Cond.fieldLink RX1 18 "ArrayMaker$MadeArray" "row" "I" ∈ wsL_law := inr_3 _ (List.mem_of_getElem? (i := 12) rfl)
theorem kw_3_13 : Cond.fieldLink RX1 22 "ArrayMaker$MadeArray" "rows" "[I" ∈ wsL_law := inr_3 _ (List.mem_of_getElem? (i := 13) rfl)
theorem kw_3_14 : Cond.methodLink RL 12 yX5_init ∈ wsL_law := inr_3 _ (List.mem_of_getElem? (i := 14) rfl)
theorem kw_3_15 : Cond.instanceMethod yX5_init ∈ wsL_law := inr_3 _ (List.mem_of_getElem? (i := 15) rfl)
theorem kw_3_16 : Cond.code yX5_init cX5_init 1 none ∈ wsL_law := inr_3 _ (List.mem_of_getElem? (i := 16) rfl)
theorem kw_3_17 : Cond.methodLink RX5 1 objectInit ∈ wsL_law := inr_3 _ (List.mem_of_getElem? (i := 17) rfl)
theorem kw_3_18 : Cond.fieldLink RX5 9 "ArrayMakerModel" "which" "I" ∈ wsL_law := inr_3 _ (List.mem_of_getElem? (i := 18) rfl)
theorem kw_3_19 : Cond.fieldLink RX5 13 "ArrayMakerModel" "low" "[I" ∈ wsL_law := inr_3 _ (List.mem_of_getElem? (i := 19) rfl)
theorem kw_3_20 : Cond.fieldLink RX5 17 "ArrayMakerModel" "high" "[I" ∈ wsL_law := inr_3 _ (List.mem_of_getElem? (i := 20) rfl)
theorem kw_3_21 : Cond.fieldLink RX5 20 "ArrayMakerModel" "kinds" "[I" ∈ wsL_law := inr_3 _ (List.mem_of_getElem? (i := 21) rfl)
theorem kw_3_22 : Cond.fieldLink RX5 23 "ArrayMakerModel" "ranks" "[I" ∈ wsL_law := inr_3 _ (List.mem_of_getElem? (i := 22) rfl)
theorem kw_3_23 : Cond.fieldLink RX5 26 "ArrayMakerModel" "lows" "[I" ∈ wsL_law := inr_3 _ (List.mem_of_getElem? (i := 23) rfl)
theorem kw_4_0 : Cond.fieldLink RX5 29 "ArrayMakerModel" "highs" "[I" ∈ wsL_law := inr_4 _ (List.mem_of_getElem? (i := 0) rfl)
theorem kw_4_1 : Cond.fieldLink RX5 32 "ArrayMakerModel" "rowOf" "[I" ∈ wsL_law := inr_4 _ (List.mem_of_getElem? (i := 1) rfl)
theorem kw_4_2 : Cond.fieldLink RX5 35 "ArrayMakerModel" "rowAt" "[I" ∈ wsL_law := inr_4 _ (List.mem_of_getElem? (i := 2) rfl)
theorem kw_4_3 : Cond.fieldLink RX5 38 "ArrayMakerModel" "rowSize" "[I" ∈ wsL_law := inr_4 _ (List.mem_of_getElem? (i := 3) rfl)
theorem kw_4_4 : Cond.constant RX5 41 (300000) ∈ wsL_law := inr_4 _ (List.mem_of_getElem? (i := 4) rfl)
theorem kw_4_5 : Cond.fieldLink RX5 42 "ArrayMakerModel" "pool" "[J" ∈ wsL_law := inr_4 _ (List.mem_of_getElem? (i := 5) rfl)
theorem kw_4_6 : Cond.fieldLink RX5 46 "ArrayMakerModel" "hasBox" "[Z" ∈ wsL_law := inr_4 _ (List.mem_of_getElem? (i := 6) rfl)
theorem kw_4_7 : Cond.fieldLink RX5 50 "ArrayMakerModel" "slot" "[I" ∈ wsL_law := inr_4 _ (List.mem_of_getElem? (i := 7) rfl)
theorem kw_4_8 : Cond.fieldLink RX5 53 "ArrayMakerModel" "lineI" "[I" ∈ wsL_law := inr_4 _ (List.mem_of_getElem? (i := 8) rfl)
theorem kw_4_9 : Cond.fieldLink RX5 56 "ArrayMakerModel" "lineJ" "[I" ∈ wsL_law := inr_4 _ (List.mem_of_getElem? (i := 9) rfl)
theorem kw_4_10 : Cond.fieldLink RX5 59 "ArrayMakerModel" "lineK" "[I" ∈ wsL_law := inr_4 _ (List.mem_of_getElem? (i := 10) rfl)
theorem kw_4_11 : Cond.fieldLink RX5 62 "ArrayMakerModel" "lineV" "[J" ∈ wsL_law := inr_4 _ (List.mem_of_getElem? (i := 11) rfl)
theorem kw_4_12 : Cond.methodLink RL 13 yX4_code ∈ wsL_law := inr_4 _ (List.mem_of_getElem? (i := 12) rfl)
theorem kw_4_13 : Cond.instanceMethod yX4_code ∈ wsL_law := inr_4 _ (List.mem_of_getElem? (i := 13) rfl)
theorem kw_4_14 : Cond.selects RX4 yX4_code yX4_code ∈ wsL_law := inr_4 _ (List.mem_of_getElem? (i := 14) rfl)
theorem kw_4_15 : Cond.code yX4_code cX4_code 1 (some .int) ∈ wsL_law := inr_4 _ (List.mem_of_getElem? (i := 15) rfl)
theorem kw_4_16 : Cond.methodLink RL 17 yX5_code ∈ wsL_law := inr_4 _ (List.mem_of_getElem? (i := 16) rfl)
theorem kw_4_17 : Cond.instanceMethod yX5_code ∈ wsL_law := inr_4 _ (List.mem_of_getElem? (i := 17) rfl)
theorem kw_4_18 : Cond.selects RX5 yX5_code yX5_code ∈ wsL_law := inr_4 _ (List.mem_of_getElem? (i := 18) rfl)
theorem kw_4_19 : Cond.code yX5_code cX5_code 1 (some .int) ∈ wsL_law := inr_4 _ (List.mem_of_getElem? (i := 19) rfl)
theorem kw_4_20 : Cond.fieldLink RX5 65 "ArrayMakerModel" "code" "I" ∈ wsL_law := inr_4 _ (List.mem_of_getElem? (i := 20) rfl)
theorem kw_4_21 : Cond.methodLink RL 18 yX4_which ∈ wsL_law := inr_4 _ (List.mem_of_getElem? (i := 21) rfl)
theorem kw_4_22 : Cond.instanceMethod yX4_which ∈ wsL_law := inr_4 _ (List.mem_of_getElem? (i := 22) rfl)
theorem kw_4_23 : Cond.selects RX4 yX4_which yX4_which ∈ wsL_law := inr_4 _ (List.mem_of_getElem? (i := 23) rfl)
theorem kw_5_0 : Cond.code yX4_which cX4_which 1 (some .int) ∈ wsL_law := inr_5 _ (List.mem_of_getElem? (i := 0) rfl)
theorem kw_5_1 : Cond.methodLink RL 21 yX5_which ∈ wsL_law := inr_5 _ (List.mem_of_getElem? (i := 1) rfl)
theorem kw_5_2 : Cond.instanceMethod yX5_which ∈ wsL_law := inr_5 _ (List.mem_of_getElem? (i := 2) rfl)
theorem kw_5_3 : Cond.selects RX5 yX5_which yX5_which ∈ wsL_law := inr_5 _ (List.mem_of_getElem? (i := 3) rfl)
theorem kw_5_4 : Cond.code yX5_which cX5_which 1 (some .int) ∈ wsL_law := inr_5 _ (List.mem_of_getElem? (i := 4) rfl)
theorem kw_5_5 : Cond.methodLink RL 22 yX4_range ∈ wsL_law := inr_5 _ (List.mem_of_getElem? (i := 5) rfl)
theorem kw_5_6 : Cond.instanceMethod yX4_range ∈ wsL_law := inr_5 _ (List.mem_of_getElem? (i := 6) rfl)
theorem kw_5_7 : Cond.selects RX4 yX4_range yX4_range ∈ wsL_law := inr_5 _ (List.mem_of_getElem? (i := 7) rfl)
theorem kw_5_8 : Cond.code yX4_range cX4_range 3 (some .int) ∈ wsL_law := inr_5 _ (List.mem_of_getElem? (i := 8) rfl)
theorem kw_5_9 : Cond.fieldLink RX4 51 "ArrayMaker$Shape" "count" "I" ∈ wsL_law := inr_5 _ (List.mem_of_getElem? (i := 9) rfl)
theorem kw_5_10 : Cond.methodLink RX4 54 yX4_stop ∈ wsL_law := inr_5 _ (List.mem_of_getElem? (i := 10) rfl)
theorem kw_5_11 : Cond.instanceMethod yX4_stop ∈ wsL_law := inr_5 _ (List.mem_of_getElem? (i := 11) rfl)
theorem kw_5_12 : Cond.selects RX4 yX4_stop yX4_stop ∈ wsL_law := inr_5 _ (List.mem_of_getElem? (i := 12) rfl)
theorem kw_5_13 : Cond.code yX4_stop cX4_stop 2 (some .int) ∈ wsL_law := inr_5 _ (List.mem_of_getElem? (i := 13) rfl)
theorem kw_5_14 : Cond.methodLink RX4 205 yX4_tell ∈ wsL_law := inr_5 _ (List.mem_of_getElem? (i := 14) rfl)
theorem kw_5_15 : Cond.instanceMethod yX4_tell ∈ wsL_law := inr_5 _ (List.mem_of_getElem? (i := 15) rfl)
theorem kw_5_16 : Cond.selects RX4 yX4_tell yX4_tell ∈ wsL_law := inr_5 _ (List.mem_of_getElem? (i := 16) rfl)
theorem kw_5_17 : Cond.code yX4_tell cX4_tell 3 (some .int) ∈ wsL_law := inr_5 _ (List.mem_of_getElem? (i := 17) rfl)
theorem kw_5_18 : Cond.methodLink RX4 58 yX2_add ∈ wsL_law := inr_5 _ (List.mem_of_getElem? (i := 18) rfl)
theorem kw_5_19 : Cond.instanceMethod yX2_add ∈ wsL_law := inr_5 _ (List.mem_of_getElem? (i := 19) rfl)
theorem kw_5_20 : Cond.selects RX2 yX2_add yX2_add ∈ wsL_law := inr_5 _ (List.mem_of_getElem? (i := 20) rfl)
theorem kw_5_21 : Cond.code yX2_add cX2_add 3 none ∈ wsL_law := inr_5 _ (List.mem_of_getElem? (i := 21) rfl)
theorem kw_5_22 : Cond.fieldLink RX2 18 "ArrayMaker$Shape" "count" "I" ∈ wsL_law := inr_5 _ (List.mem_of_getElem? (i := 22) rfl)
theorem kw_5_23 : Cond.methodLink RX4 62 yX4_done ∈ wsL_law := inr_5 _ (List.mem_of_getElem? (i := 23) rfl)
theorem kw_6_0 : Cond.instanceMethod yX4_done ∈ wsL_law := inr_6 _ (List.mem_of_getElem? (i := 0) rfl)
theorem kw_6_1 : Cond.selects RX4 yX4_done yX4_done ∈ wsL_law := inr_6 _ (List.mem_of_getElem? (i := 1) rfl)
theorem kw_6_2 : Cond.code yX4_done cX4_done 2 (some .int) ∈ wsL_law := inr_6 _ (List.mem_of_getElem? (i := 2) rfl)
theorem kw_6_3 : Cond.methodLink RL 26 yX5_range ∈ wsL_law := inr_6 _ (List.mem_of_getElem? (i := 3) rfl)
theorem kw_6_4 : Cond.instanceMethod yX5_range ∈ wsL_law := inr_6 _ (List.mem_of_getElem? (i := 4) rfl)
theorem kw_6_5 : Cond.selects RX5 yX5_range yX5_range ∈ wsL_law := inr_6 _ (List.mem_of_getElem? (i := 5) rfl)
theorem kw_6_6 : Cond.code yX5_range cX5_range 3 (some .int) ∈ wsL_law := inr_6 _ (List.mem_of_getElem? (i := 6) rfl)
theorem kw_6_7 : Cond.fieldLink RX5 72 "ArrayMakerModel" "dimensions" "I" ∈ wsL_law := inr_6 _ (List.mem_of_getElem? (i := 7) rfl)
theorem kw_6_8 : Cond.methodLink RX5 68 yX5_no ∈ wsL_law := inr_6 _ (List.mem_of_getElem? (i := 8) rfl)
theorem kw_6_9 : Cond.instanceMethod yX5_no ∈ wsL_law := inr_6 _ (List.mem_of_getElem? (i := 9) rfl)
theorem kw_6_10 : Cond.selects RX5 yX5_no yX5_no ∈ wsL_law := inr_6 _ (List.mem_of_getElem? (i := 10) rfl)
theorem kw_6_11 : Cond.code yX5_no cX5_no 2 (some .int) ∈ wsL_law := inr_6 _ (List.mem_of_getElem? (i := 11) rfl)
theorem kw_6_12 : Cond.methodLink RX5 75 yX5_yes ∈ wsL_law := inr_6 _ (List.mem_of_getElem? (i := 12) rfl)
theorem kw_6_13 : Cond.instanceMethod yX5_yes ∈ wsL_law := inr_6 _ (List.mem_of_getElem? (i := 13) rfl)
theorem kw_6_14 : Cond.selects RX5 yX5_yes yX5_yes ∈ wsL_law := inr_6 _ (List.mem_of_getElem? (i := 14) rfl)
theorem kw_6_15 : Cond.code yX5_yes cX5_yes 2 (some .int) ∈ wsL_law := inr_6 _ (List.mem_of_getElem? (i := 15) rfl)
theorem kw_6_16 : Cond.methodLink RL 27 yX4_shapeless ∈ wsL_law := inr_6 _ (List.mem_of_getElem? (i := 16) rfl)
theorem kw_6_17 : Cond.instanceMethod yX4_shapeless ∈ wsL_law := inr_6 _ (List.mem_of_getElem? (i := 17) rfl)
theorem kw_6_18 : Cond.selects RX4 yX4_shapeless yX4_shapeless ∈ wsL_law := inr_6 _ (List.mem_of_getElem? (i := 18) rfl)
theorem kw_6_19 : Cond.code yX4_shapeless cX4_shapeless 2 (some .int) ∈ wsL_law := inr_6 _ (List.mem_of_getElem? (i := 19) rfl)
theorem kw_6_20 : Cond.methodLink RL 30 yX5_shapeless ∈ wsL_law := inr_6 _ (List.mem_of_getElem? (i := 20) rfl)
theorem kw_6_21 : Cond.instanceMethod yX5_shapeless ∈ wsL_law := inr_6 _ (List.mem_of_getElem? (i := 21) rfl)
theorem kw_6_22 : Cond.selects RX5 yX5_shapeless yX5_shapeless ∈ wsL_law := inr_6 _ (List.mem_of_getElem? (i := 22) rfl)
theorem kw_6_23 : Cond.code yX5_shapeless cX5_shapeless 2 (some .int) ∈ wsL_law := inr_6 _ (List.mem_of_getElem? (i := 23) rfl)
theorem kw_7_0 : Cond.methodLink RL 31 yX4_make ∈ wsL_law := inr_7 _ (List.mem_of_getElem? (i := 0) rfl)
theorem kw_7_1 : Cond.instanceMethod yX4_make ∈ wsL_law := inr_7 _ (List.mem_of_getElem? (i := 1) rfl)
theorem kw_7_2 : Cond.selects RX4 yX4_make yX4_make ∈ wsL_law := inr_7 _ (List.mem_of_getElem? (i := 2) rfl)
theorem kw_7_3 : Cond.code yX4_make cX4_make 4 (some .int) ∈ wsL_law := inr_7 _ (List.mem_of_getElem? (i := 3) rfl)
theorem kw_7_4 : Cond.constant RX4 65 (-2000000001) ∈ wsL_law := inr_7 _ (List.mem_of_getElem? (i := 4) rfl)
theorem kw_7_5 : Cond.methodLink RX4 66 yX4_whyNotMade ∈ wsL_law := inr_7 _ (List.mem_of_getElem? (i := 5) rfl)
theorem kw_7_6 : Cond.instanceMethod yX4_whyNotMade ∈ wsL_law := inr_7 _ (List.mem_of_getElem? (i := 6) rfl)
theorem kw_7_7 : Cond.selects RX4 yX4_whyNotMade yX4_whyNotMade ∈ wsL_law := inr_7 _ (List.mem_of_getElem? (i := 7) rfl)
theorem kw_7_8 : Cond.code yX4_whyNotMade cX4_whyNotMade 4 (some .int) ∈ wsL_law := inr_7 _ (List.mem_of_getElem? (i := 8) rfl)
theorem kw_7_9 : Cond.constantLong RX4 238 (500) ∈ wsL_law := inr_7 _ (List.mem_of_getElem? (i := 9) rfl)
theorem kw_7_10 : Cond.methodLink RX4 96 yX2_items ∈ wsL_law := inr_7 _ (List.mem_of_getElem? (i := 10) rfl)
theorem kw_7_11 : Cond.instanceMethod yX2_items ∈ wsL_law := inr_7 _ (List.mem_of_getElem? (i := 11) rfl)
theorem kw_7_12 : Cond.selects RX2 yX2_items yX2_items ∈ wsL_law := inr_7 _ (List.mem_of_getElem? (i := 12) rfl)
theorem kw_7_13 : Cond.code yX2_items cX2_items 4 (some .int) ∈ wsL_law := inr_7 _ (List.mem_of_getElem? (i := 13) rfl)
theorem kw_7_14 : Cond.constantLong RX2 32 (501) ∈ wsL_law := inr_7 _ (List.mem_of_getElem? (i := 14) rfl)
theorem kw_7_15 : Cond.methodLink RX2 34 Lib.MathLoose.min_long.x ∈ wsL_law := inr_7 _ (List.mem_of_getElem? (i := 15) rfl)
theorem kw_7_16 : Cond.static Lib.MathLoose.min_long.x ∈ wsL_law := inr_7 _ (List.mem_of_getElem? (i := 16) rfl)
theorem kw_7_17 : Cond.initialized "java/lang/Math" ∈ wsL_law := inr_7 _ (List.mem_of_getElem? (i := 17) rfl)
theorem kw_7_18 : Cond.code Lib.MathLoose.min_long.x Lib.MathLoose.min_long.code 4 (some .long) ∈ wsL_law := inr_7 _ (List.mem_of_getElem? (i := 18) rfl)
theorem kw_7_19 : Cond.methodLink RX2 37 yX2_length ∈ wsL_law := inr_7 _ (List.mem_of_getElem? (i := 19) rfl)
theorem kw_7_20 : Cond.instanceMethod yX2_length ∈ wsL_law := inr_7 _ (List.mem_of_getElem? (i := 20) rfl)
theorem kw_7_21 : Cond.selects RX2 yX2_length yX2_length ∈ wsL_law := inr_7 _ (List.mem_of_getElem? (i := 21) rfl)
theorem kw_7_22 : Cond.code yX2_length cX2_length 2 (some .long) ∈ wsL_law := inr_7 _ (List.mem_of_getElem? (i := 22) rfl)
theorem kw_7_23 : Cond.methodLink RX2 26 Lib.MathLoose.max_long.x ∈ wsL_law := inr_7 _ (List.mem_of_getElem? (i := 23) rfl)
theorem kw_8_0 : Cond.static Lib.MathLoose.max_long.x ∈ wsL_law := inr_8 _ (List.mem_of_getElem? (i := 0) rfl)
theorem kw_8_1 : Cond.code Lib.MathLoose.max_long.x Lib.MathLoose.max_long.code 4 (some .long) ∈ wsL_law := inr_8 _ (List.mem_of_getElem? (i := 1) rfl)
theorem kw_8_2 : Cond.methodLink RX4 235 yX2_length ∈ wsL_law := inr_8 _ (List.mem_of_getElem? (i := 2) rfl)
theorem kw_8_3 : Cond.methodLink RX4 80 yX4_hasRoom ∈ wsL_law := inr_8 _ (List.mem_of_getElem? (i := 3) rfl)
theorem kw_8_4 : Cond.instanceMethod yX4_hasRoom ∈ wsL_law := inr_8 _ (List.mem_of_getElem? (i := 4) rfl)
theorem kw_8_5 : Cond.selects RX4 yX4_hasRoom yX4_hasRoom ∈ wsL_law := inr_8 _ (List.mem_of_getElem? (i := 5) rfl)
theorem kw_8_6 : Cond.code yX4_hasRoom cX4_hasRoom 3 (some .boolean) ∈ wsL_law := inr_8 _ (List.mem_of_getElem? (i := 6) rfl)
theorem kw_8_7 : Cond.methodLink RX4 147 yX3_reserve ∈ wsL_law := inr_8 _ (List.mem_of_getElem? (i := 7) rfl)
theorem kw_8_8 : Cond.instanceMethod yX3_reserve ∈ wsL_law := inr_8 _ (List.mem_of_getElem? (i := 8) rfl)
theorem kw_8_9 : Cond.selects RX3 yX3_reserve yX3_reserve ∈ wsL_law := inr_8 _ (List.mem_of_getElem? (i := 9) rfl)
theorem kw_8_10 : Cond.code yX3_reserve cX3_reserve 3 (some .boolean) ∈ wsL_law := inr_8 _ (List.mem_of_getElem? (i := 10) rfl)
theorem kw_8_11 : Cond.fieldLink RX3 26 "ArrayMaker$Store" "rowCount" "I" ∈ wsL_law := inr_8 _ (List.mem_of_getElem? (i := 11) rfl)
theorem kw_8_12 : Cond.constant RX3 30 (63200) ∈ wsL_law := inr_8 _ (List.mem_of_getElem? (i := 12) rfl)
theorem kw_8_13 : Cond.fieldLink RX3 31 "ArrayMaker$Store" "cellCount" "I" ∈ wsL_law := inr_8 _ (List.mem_of_getElem? (i := 13) rfl)
theorem kw_8_14 : Cond.methodLink RX3 34 yX3_growRows ∈ wsL_law := inr_8 _ (List.mem_of_getElem? (i := 14) rfl)
theorem kw_8_15 : Cond.instanceMethod yX3_growRows ∈ wsL_law := inr_8 _ (List.mem_of_getElem? (i := 15) rfl)
theorem kw_8_16 : Cond.selects RX3 yX3_growRows yX3_growRows ∈ wsL_law := inr_8 _ (List.mem_of_getElem? (i := 16) rfl)
theorem kw_8_17 : Cond.code yX3_growRows cX3_growRows 3 none ∈ wsL_law := inr_8 _ (List.mem_of_getElem? (i := 17) rfl)
theorem kw_8_18 : Cond.methodLink RX3 41 Lib.Math.max.name ∈ wsL_law := inr_8 _ (List.mem_of_getElem? (i := 18) rfl)
theorem kw_8_19 : Cond.static Lib.Math.max.name ∈ wsL_law := inr_8 _ (List.mem_of_getElem? (i := 19) rfl)
theorem kw_8_20 : Cond.code Lib.Math.max.name Lib.Math.max.code 2 (some .int) ∈ wsL_law := inr_8 _ (List.mem_of_getElem? (i := 20) rfl)
theorem kw_8_21 : Cond.methodLink RX3 47 yJ7_copyOf_59c91 ∈ wsL_law := inr_8 _ (List.mem_of_getElem? (i := 21) rfl)
theorem kw_8_22 : Cond.static yJ7_copyOf_59c91 ∈ wsL_law := inr_8 _ (List.mem_of_getElem? (i := 22) rfl)
theorem kw_8_23 : Cond.initialized RJ7 ∈ wsL_law := inr_8 _ (List.mem_of_getElem? (i := 23) rfl)
theorem kw_9_0 : Cond.code yJ7_copyOf_59c91 cJ7_copyOf_59c91 3 (some (.array .int)) ∈ wsL_law := inr_9 _ (List.mem_of_getElem? (i := 0) rfl)
theorem kw_9_1 : Cond.methodLink RJ7 316 ⟨"[I", "clone", "()Ljava/lang/Object;"⟩ ∈ wsL_law := inr_9 _ (List.mem_of_getElem? (i := 1) rfl)
theorem kw_9_2 : Cond.sameMethod "[I" "java/lang/Object" "clone" "()Ljava/lang/Object;" ∈ wsL_law := inr_9 _ (List.mem_of_getElem? (i := 2) rfl)
theorem kw_9_3 : Cond.native ⟨"java/lang/Object", "clone", "()Ljava/lang/Object;"⟩ ∈ wsL_law := inr_9 _ (List.mem_of_getElem? (i := 3) rfl)
theorem kw_9_4 : Cond.instanceMethod ⟨"java/lang/Object", "clone", "()Ljava/lang/Object;"⟩ ∈ wsL_law := inr_9 _ (List.mem_of_getElem? (i := 4) rfl)
theorem kw_9_5 : Cond.selects "[I" ⟨"[I", "clone", "()Ljava/lang/Object;"⟩ ⟨"java/lang/Object", "clone", "()Ljava/lang/Object;"⟩ ∈ wsL_law := inr_9 _ (List.mem_of_getElem? (i := 5) rfl)
theorem kw_9_6 : Cond.classLink RJ7 317 "[I" ∈ wsL_law := inr_9 _ (List.mem_of_getElem? (i := 6) rfl)
theorem kw_9_7 : Cond.methodLink RJ7 304 Lib.Math.min.name ∈ wsL_law := inr_9 _ (List.mem_of_getElem? (i := 7) rfl)
theorem kw_9_8 : Cond.static Lib.Math.min.name ∈ wsL_law := inr_9 _ (List.mem_of_getElem? (i := 8) rfl)
theorem kw_9_9 : Cond.code Lib.Math.min.name Lib.Math.min.code 2 (some .int) ∈ wsL_law := inr_9 _ (List.mem_of_getElem? (i := 9) rfl)
theorem kw_9_10 : Cond.methodLink RJ7 150 arraycopyName ∈ wsL_law := inr_9 _ (List.mem_of_getElem? (i := 10) rfl)
theorem kw_9_11 : Cond.native arraycopyName ∈ wsL_law := inr_9 _ (List.mem_of_getElem? (i := 11) rfl)
theorem kw_9_12 : Cond.static arraycopyName ∈ wsL_law := inr_9 _ (List.mem_of_getElem? (i := 12) rfl)
theorem kw_9_13 : Cond.initialized "java/lang/System" ∈ wsL_law := inr_9 _ (List.mem_of_getElem? (i := 13) rfl)
theorem kw_9_14 : Cond.methodLink RX3 38 yX3_growCells ∈ wsL_law := inr_9 _ (List.mem_of_getElem? (i := 14) rfl)
theorem kw_9_15 : Cond.instanceMethod yX3_growCells ∈ wsL_law := inr_9 _ (List.mem_of_getElem? (i := 15) rfl)
theorem kw_9_16 : Cond.selects RX3 yX3_growCells yX3_growCells ∈ wsL_law := inr_9 _ (List.mem_of_getElem? (i := 16) rfl)
theorem kw_9_17 : Cond.code yX3_growCells cX3_growCells 4 none ∈ wsL_law := inr_9 _ (List.mem_of_getElem? (i := 17) rfl)
theorem kw_9_18 : Cond.methodLink RX3 56 arraycopyName ∈ wsL_law := inr_9 _ (List.mem_of_getElem? (i := 18) rfl)
theorem kw_9_19 : Cond.methodLink RX3 53 yJ7_copyOf_c38d5 ∈ wsL_law := inr_9 _ (List.mem_of_getElem? (i := 19) rfl)
theorem kw_9_20 : Cond.static yJ7_copyOf_c38d5 ∈ wsL_law := inr_9 _ (List.mem_of_getElem? (i := 20) rfl)
theorem kw_9_21 : Cond.code yJ7_copyOf_c38d5 cJ7_copyOf_c38d5 3 (some (.array .long)) ∈ wsL_law := inr_9 _ (List.mem_of_getElem? (i := 21) rfl)
theorem kw_9_22 : Cond.methodLink RJ7 319 ⟨"[J", "clone", "()Ljava/lang/Object;"⟩ ∈ wsL_law := inr_9 _ (List.mem_of_getElem? (i := 22) rfl)
theorem kw_9_23 : Cond.sameMethod "[J" "java/lang/Object" "clone" "()Ljava/lang/Object;" ∈ wsL_law := inr_9 _ (List.mem_of_getElem? (i := 23) rfl)
theorem kw_10_0 : Cond.selects "[J" ⟨"[J", "clone", "()Ljava/lang/Object;"⟩ ⟨"java/lang/Object", "clone", "()Ljava/lang/Object;"⟩ ∈ wsL_law := inr_10 _ (List.mem_of_getElem? (i := 0) rfl)
theorem kw_10_1 : Cond.classLink RJ7 320 "[J" ∈ wsL_law := inr_10 _ (List.mem_of_getElem? (i := 1) rfl)
theorem kw_10_2 : Cond.methodLink RX4 69 yX4_nextArrayIn ∈ wsL_law := inr_10 _ (List.mem_of_getElem? (i := 2) rfl)
theorem kw_10_3 : Cond.instanceMethod yX4_nextArrayIn ∈ wsL_law := inr_10 _ (List.mem_of_getElem? (i := 3) rfl)
theorem kw_10_4 : Cond.selects RX4 yX4_nextArrayIn yX4_nextArrayIn ∈ wsL_law := inr_10 _ (List.mem_of_getElem? (i := 4) rfl)
theorem kw_10_5 : Cond.code yX4_nextArrayIn cX4_nextArrayIn 4 (some (.object "ArrayMaker$MadeArray")) ∈ wsL_law := inr_10 _ (List.mem_of_getElem? (i := 5) rfl)
theorem kw_10_6 : Cond.fieldLink RX4 88 "ArrayMaker$MadeArray" "shape" "LArrayMaker$Shape;" ∈ wsL_law := inr_10 _ (List.mem_of_getElem? (i := 6) rfl)
theorem kw_10_7 : Cond.methodLink RX4 84 yX4_nextArray ∈ wsL_law := inr_10 _ (List.mem_of_getElem? (i := 7) rfl)
theorem kw_10_8 : Cond.instanceMethod yX4_nextArray ∈ wsL_law := inr_10 _ (List.mem_of_getElem? (i := 8) rfl)
theorem kw_10_9 : Cond.selects RX4 yX4_nextArray yX4_nextArray ∈ wsL_law := inr_10 _ (List.mem_of_getElem? (i := 9) rfl)
theorem kw_10_10 : Cond.code yX4_nextArray cX4_nextArray 3 (some (.object "ArrayMaker$MadeArray")) ∈ wsL_law := inr_10 _ (List.mem_of_getElem? (i := 10) rfl)
theorem kw_10_11 : Cond.fieldLink RX4 106 "ArrayMaker$MadeArray" "kind" "I" ∈ wsL_law := inr_10 _ (List.mem_of_getElem? (i := 11) rfl)
theorem kw_10_12 : Cond.fieldLink RX4 100 "ArrayMaker$MadeArray" "row" "I" ∈ wsL_law := inr_10 _ (List.mem_of_getElem? (i := 12) rfl)
theorem kw_10_13 : Cond.methodLink RX4 240 yX2_addAll ∈ wsL_law := inr_10 _ (List.mem_of_getElem? (i := 13) rfl)
theorem kw_10_14 : Cond.instanceMethod yX2_addAll ∈ wsL_law := inr_10 _ (List.mem_of_getElem? (i := 14) rfl)
theorem kw_10_15 : Cond.selects RX2 yX2_addAll yX2_addAll ∈ wsL_law := inr_10 _ (List.mem_of_getElem? (i := 15) rfl)
theorem kw_10_16 : Cond.code yX2_addAll cX2_addAll 3 none ∈ wsL_law := inr_10 _ (List.mem_of_getElem? (i := 16) rfl)
theorem kw_10_17 : Cond.methodLink RX2 22 yX2_add ∈ wsL_law := inr_10 _ (List.mem_of_getElem? (i := 17) rfl)
theorem kw_10_18 : Cond.methodLink RX4 73 yX4_addTableRows ∈ wsL_law := inr_10 _ (List.mem_of_getElem? (i := 18) rfl)
theorem kw_10_19 : Cond.instanceMethod yX4_addTableRows ∈ wsL_law := inr_10 _ (List.mem_of_getElem? (i := 19) rfl)
theorem kw_10_20 : Cond.selects RX4 yX4_addTableRows yX4_addTableRows ∈ wsL_law := inr_10 _ (List.mem_of_getElem? (i := 20) rfl)
theorem kw_10_21 : Cond.code yX4_addTableRows cX4_addTableRows 5 none ∈ wsL_law := inr_10 _ (List.mem_of_getElem? (i := 21) rfl)
theorem kw_10_22 : Cond.fieldLink RX4 133 "ArrayMaker$MadeArray" "rows" "[I" ∈ wsL_law := inr_10 _ (List.mem_of_getElem? (i := 22) rfl)
theorem kw_10_23 : Cond.methodLink RX4 130 yX1_rowCount ∈ wsL_law := inr_10 _ (List.mem_of_getElem? (i := 23) rfl)
theorem kw_11_0 : Cond.instanceMethod yX1_rowCount ∈ wsL_law := inr_11 _ (List.mem_of_getElem? (i := 0) rfl)
theorem kw_11_1 : Cond.selects RX1 yX1_rowCount yX1_rowCount ∈ wsL_law := inr_11 _ (List.mem_of_getElem? (i := 1) rfl)
theorem kw_11_2 : Cond.code yX1_rowCount cX1_rowCount 1 (some .int) ∈ wsL_law := inr_11 _ (List.mem_of_getElem? (i := 2) rfl)
theorem kw_11_3 : Cond.methodLink RX1 26 yX2_length ∈ wsL_law := inr_11 _ (List.mem_of_getElem? (i := 3) rfl)
theorem kw_11_4 : Cond.methodLink RX4 154 yX3_addRow ∈ wsL_law := inr_11 _ (List.mem_of_getElem? (i := 4) rfl)
theorem kw_11_5 : Cond.instanceMethod yX3_addRow ∈ wsL_law := inr_11 _ (List.mem_of_getElem? (i := 5) rfl)
theorem kw_11_6 : Cond.selects RX3 yX3_addRow yX3_addRow ∈ wsL_law := inr_11 _ (List.mem_of_getElem? (i := 6) rfl)
theorem kw_11_7 : Cond.code yX3_addRow cX3_addRow 5 (some .int) ∈ wsL_law := inr_11 _ (List.mem_of_getElem? (i := 7) rfl)
theorem kw_11_8 : Cond.methodLink RX4 77 yX4_addOwnRow ∈ wsL_law := inr_11 _ (List.mem_of_getElem? (i := 8) rfl)
theorem kw_11_9 : Cond.instanceMethod yX4_addOwnRow ∈ wsL_law := inr_11 _ (List.mem_of_getElem? (i := 9) rfl)
theorem kw_11_10 : Cond.selects RX4 yX4_addOwnRow yX4_addOwnRow ∈ wsL_law := inr_11 _ (List.mem_of_getElem? (i := 10) rfl)
theorem kw_11_11 : Cond.code yX4_addOwnRow cX4_addOwnRow 2 none ∈ wsL_law := inr_11 _ (List.mem_of_getElem? (i := 11) rfl)
theorem kw_11_12 : Cond.methodLink RL 35 yX5_make ∈ wsL_law := inr_11 _ (List.mem_of_getElem? (i := 12) rfl)
theorem kw_11_13 : Cond.instanceMethod yX5_make ∈ wsL_law := inr_11 _ (List.mem_of_getElem? (i := 13) rfl)
theorem kw_11_14 : Cond.selects RX5 yX5_make yX5_make ∈ wsL_law := inr_11 _ (List.mem_of_getElem? (i := 14) rfl)
theorem kw_11_15 : Cond.code yX5_make cX5_make 4 (some .int) ∈ wsL_law := inr_11 _ (List.mem_of_getElem? (i := 15) rfl)
theorem kw_11_16 : Cond.constantLong RX5 114 (4) ∈ wsL_law := inr_11 _ (List.mem_of_getElem? (i := 16) rfl)
theorem kw_11_17 : Cond.constant RX5 116 (-2000000001) ∈ wsL_law := inr_11 _ (List.mem_of_getElem? (i := 17) rfl)
theorem kw_11_18 : Cond.constantLong RX5 82 (500) ∈ wsL_law := inr_11 _ (List.mem_of_getElem? (i := 18) rfl)
theorem kw_11_19 : Cond.fieldLink RX5 98 "ArrayMakerModel" "arrays" "I" ∈ wsL_law := inr_11 _ (List.mem_of_getElem? (i := 19) rfl)
theorem kw_11_20 : Cond.methodLink RX5 101 yX5_within ∈ wsL_law := inr_11 _ (List.mem_of_getElem? (i := 20) rfl)
theorem kw_11_21 : Cond.static yX5_within ∈ wsL_law := inr_11 _ (List.mem_of_getElem? (i := 21) rfl)
theorem kw_11_22 : Cond.code yX5_within cX5_within 6 (some .boolean) ∈ wsL_law := inr_11 _ (List.mem_of_getElem? (i := 22) rfl)
theorem kw_11_23 : Cond.methodLink RX5 117 yX5_shapeItems ∈ wsL_law := inr_11 _ (List.mem_of_getElem? (i := 23) rfl)
theorem kw_12_0 : Cond.instanceMethod yX5_shapeItems ∈ wsL_law := inr_12 _ (List.mem_of_getElem? (i := 0) rfl)
theorem kw_12_1 : Cond.selects RX5 yX5_shapeItems yX5_shapeItems ∈ wsL_law := inr_12 _ (List.mem_of_getElem? (i := 1) rfl)
theorem kw_12_2 : Cond.code yX5_shapeItems cX5_shapeItems 7 (some .int) ∈ wsL_law := inr_12 _ (List.mem_of_getElem? (i := 2) rfl)
theorem kw_12_3 : Cond.constantLong RX5 84 (501) ∈ wsL_law := inr_12 _ (List.mem_of_getElem? (i := 3) rfl)
theorem kw_12_4 : Cond.methodLink RX5 78 yX5_length ∈ wsL_law := inr_12 _ (List.mem_of_getElem? (i := 4) rfl)
theorem kw_12_5 : Cond.static yX5_length ∈ wsL_law := inr_12 _ (List.mem_of_getElem? (i := 5) rfl)
theorem kw_12_6 : Cond.code yX5_length cX5_length 4 (some .long) ∈ wsL_law := inr_12 _ (List.mem_of_getElem? (i := 6) rfl)
theorem kw_12_7 : Cond.methodLink RX5 121 yX5_newArray ∈ wsL_law := inr_12 _ (List.mem_of_getElem? (i := 7) rfl)
theorem kw_12_8 : Cond.instanceMethod yX5_newArray ∈ wsL_law := inr_12 _ (List.mem_of_getElem? (i := 8) rfl)
theorem kw_12_9 : Cond.selects RX5 yX5_newArray yX5_newArray ∈ wsL_law := inr_12 _ (List.mem_of_getElem? (i := 9) rfl)
theorem kw_12_10 : Cond.code yX5_newArray cX5_newArray 4 (some .int) ∈ wsL_law := inr_12 _ (List.mem_of_getElem? (i := 10) rfl)
theorem kw_12_11 : Cond.methodLink RX5 125 yX5_newTable ∈ wsL_law := inr_12 _ (List.mem_of_getElem? (i := 11) rfl)
theorem kw_12_12 : Cond.instanceMethod yX5_newTable ∈ wsL_law := inr_12 _ (List.mem_of_getElem? (i := 12) rfl)
theorem kw_12_13 : Cond.selects RX5 yX5_newTable yX5_newTable ∈ wsL_law := inr_12 _ (List.mem_of_getElem? (i := 13) rfl)
theorem kw_12_14 : Cond.code yX5_newTable cX5_newTable 5 none ∈ wsL_law := inr_12 _ (List.mem_of_getElem? (i := 14) rfl)
theorem kw_12_15 : Cond.fieldLink RX5 105 "ArrayMakerModel" "slots" "I" ∈ wsL_law := inr_12 _ (List.mem_of_getElem? (i := 15) rfl)
theorem kw_12_16 : Cond.methodLink RX5 108 yX5_lengthOf ∈ wsL_law := inr_12 _ (List.mem_of_getElem? (i := 16) rfl)
theorem kw_12_17 : Cond.instanceMethod yX5_lengthOf ∈ wsL_law := inr_12 _ (List.mem_of_getElem? (i := 17) rfl)
theorem kw_12_18 : Cond.selects RX5 yX5_lengthOf yX5_lengthOf ∈ wsL_law := inr_12 _ (List.mem_of_getElem? (i := 18) rfl)
theorem kw_12_19 : Cond.code yX5_lengthOf cX5_lengthOf 3 (some .long) ∈ wsL_law := inr_12 _ (List.mem_of_getElem? (i := 19) rfl)
theorem kw_12_20 : Cond.methodLink RX5 111 yX5_newRow ∈ wsL_law := inr_12 _ (List.mem_of_getElem? (i := 20) rfl)
theorem kw_12_21 : Cond.instanceMethod yX5_newRow ∈ wsL_law := inr_12 _ (List.mem_of_getElem? (i := 21) rfl)
theorem kw_12_22 : Cond.selects RX5 yX5_newRow yX5_newRow ∈ wsL_law := inr_12 _ (List.mem_of_getElem? (i := 22) rfl)
theorem kw_12_23 : Cond.code yX5_newRow cX5_newRow 3 (some .int) ∈ wsL_law := inr_12 _ (List.mem_of_getElem? (i := 23) rfl)
theorem kw_13_0 : Cond.fieldLink RX5 86 "ArrayMakerModel" "rows" "I" ∈ wsL_law := inr_13 _ (List.mem_of_getElem? (i := 0) rfl)
theorem kw_13_1 : Cond.fieldLink RX5 89 "ArrayMakerModel" "pooled" "I" ∈ wsL_law := inr_13 _ (List.mem_of_getElem? (i := 1) rfl)
theorem kw_13_2 : Cond.methodLink RL 36 yX4_raw ∈ wsL_law := inr_13 _ (List.mem_of_getElem? (i := 2) rfl)
theorem kw_13_3 : Cond.instanceMethod yX4_raw ∈ wsL_law := inr_13 _ (List.mem_of_getElem? (i := 3) rfl)
theorem kw_13_4 : Cond.selects RX4 yX4_raw yX4_raw ∈ wsL_law := inr_13 _ (List.mem_of_getElem? (i := 4) rfl)
theorem kw_13_5 : Cond.code yX4_raw cX4_raw 4 (some .int) ∈ wsL_law := inr_13 _ (List.mem_of_getElem? (i := 5) rfl)
theorem kw_13_6 : Cond.methodLink RL 39 yX5_raw ∈ wsL_law := inr_13 _ (List.mem_of_getElem? (i := 6) rfl)
theorem kw_13_7 : Cond.instanceMethod yX5_raw ∈ wsL_law := inr_13 _ (List.mem_of_getElem? (i := 7) rfl)
theorem kw_13_8 : Cond.selects RX5 yX5_raw yX5_raw ∈ wsL_law := inr_13 _ (List.mem_of_getElem? (i := 8) rfl)
theorem kw_13_9 : Cond.code yX5_raw cX5_raw 3 (some .int) ∈ wsL_law := inr_13 _ (List.mem_of_getElem? (i := 9) rfl)
theorem kw_13_10 : Cond.constantLong RX5 129 (3) ∈ wsL_law := inr_13 _ (List.mem_of_getElem? (i := 10) rfl)
theorem kw_13_11 : Cond.methodLink RL 40 yX4_see ∈ wsL_law := inr_13 _ (List.mem_of_getElem? (i := 11) rfl)
theorem kw_13_12 : Cond.instanceMethod yX4_see ∈ wsL_law := inr_13 _ (List.mem_of_getElem? (i := 12) rfl)
theorem kw_13_13 : Cond.selects RX4 yX4_see yX4_see ∈ wsL_law := inr_13 _ (List.mem_of_getElem? (i := 13) rfl)
theorem kw_13_14 : Cond.code yX4_see cX4_see 4 (some .int) ∈ wsL_law := inr_13 _ (List.mem_of_getElem? (i := 14) rfl)
theorem kw_13_15 : Cond.methodLink RX4 89 yX4_arrayOf ∈ wsL_law := inr_13 _ (List.mem_of_getElem? (i := 15) rfl)
theorem kw_13_16 : Cond.instanceMethod yX4_arrayOf ∈ wsL_law := inr_13 _ (List.mem_of_getElem? (i := 16) rfl)
theorem kw_13_17 : Cond.selects RX4 yX4_arrayOf yX4_arrayOf ∈ wsL_law := inr_13 _ (List.mem_of_getElem? (i := 17) rfl)
theorem kw_13_18 : Cond.code yX4_arrayOf cX4_arrayOf 2 (some (.object "ArrayMaker$MadeArray")) ∈ wsL_law := inr_13 _ (List.mem_of_getElem? (i := 18) rfl)
theorem kw_13_19 : Cond.methodLink RX4 92 yX4_whyNoRow ∈ wsL_law := inr_13 _ (List.mem_of_getElem? (i := 19) rfl)
theorem kw_13_20 : Cond.instanceMethod yX4_whyNoRow ∈ wsL_law := inr_13 _ (List.mem_of_getElem? (i := 20) rfl)
theorem kw_13_21 : Cond.selects RX4 yX4_whyNoRow yX4_whyNoRow ∈ wsL_law := inr_13 _ (List.mem_of_getElem? (i := 21) rfl)
theorem kw_13_22 : Cond.code yX4_whyNoRow cX4_whyNoRow 2 (some .int) ∈ wsL_law := inr_13 _ (List.mem_of_getElem? (i := 22) rfl)
theorem kw_13_23 : Cond.methodLink RX4 103 yX3_lengthOf ∈ wsL_law := inr_13 _ (List.mem_of_getElem? (i := 23) rfl)
theorem kw_14_0 : Cond.instanceMethod yX3_lengthOf ∈ wsL_law := inr_14 _ (List.mem_of_getElem? (i := 0) rfl)
theorem kw_14_1 : Cond.selects RX3 yX3_lengthOf yX3_lengthOf ∈ wsL_law := inr_14 _ (List.mem_of_getElem? (i := 1) rfl)
theorem kw_14_2 : Cond.code yX3_lengthOf cX3_lengthOf 2 (some .int) ∈ wsL_law := inr_14 _ (List.mem_of_getElem? (i := 2) rfl)
theorem kw_14_3 : Cond.methodLink RL 43 yX5_see ∈ wsL_law := inr_14 _ (List.mem_of_getElem? (i := 3) rfl)
theorem kw_14_4 : Cond.instanceMethod yX5_see ∈ wsL_law := inr_14 _ (List.mem_of_getElem? (i := 4) rfl)
theorem kw_14_5 : Cond.selects RX5 yX5_see yX5_see ∈ wsL_law := inr_14 _ (List.mem_of_getElem? (i := 5) rfl)
theorem kw_14_6 : Cond.code yX5_see cX5_see 4 (some .int) ∈ wsL_law := inr_14 _ (List.mem_of_getElem? (i := 6) rfl)
theorem kw_14_7 : Cond.methodLink RX5 135 yX5_wants ∈ wsL_law := inr_14 _ (List.mem_of_getElem? (i := 7) rfl)
theorem kw_14_8 : Cond.instanceMethod yX5_wants ∈ wsL_law := inr_14 _ (List.mem_of_getElem? (i := 8) rfl)
theorem kw_14_9 : Cond.selects RX5 yX5_wants yX5_wants ∈ wsL_law := inr_14 _ (List.mem_of_getElem? (i := 9) rfl)
theorem kw_14_10 : Cond.code yX5_wants cX5_wants 2 (some .int) ∈ wsL_law := inr_14 _ (List.mem_of_getElem? (i := 10) rfl)
theorem kw_14_11 : Cond.methodLink RX5 131 yX5_isArray ∈ wsL_law := inr_14 _ (List.mem_of_getElem? (i := 11) rfl)
theorem kw_14_12 : Cond.instanceMethod yX5_isArray ∈ wsL_law := inr_14 _ (List.mem_of_getElem? (i := 12) rfl)
theorem kw_14_13 : Cond.selects RX5 yX5_isArray yX5_isArray ∈ wsL_law := inr_14 _ (List.mem_of_getElem? (i := 13) rfl)
theorem kw_14_14 : Cond.code yX5_isArray cX5_isArray 2 (some .boolean) ∈ wsL_law := inr_14 _ (List.mem_of_getElem? (i := 14) rfl)
theorem kw_14_15 : Cond.methodLink RL 44 yX4_turn ∈ wsL_law := inr_14 _ (List.mem_of_getElem? (i := 15) rfl)
theorem kw_14_16 : Cond.instanceMethod yX4_turn ∈ wsL_law := inr_14 _ (List.mem_of_getElem? (i := 16) rfl)
theorem kw_14_17 : Cond.selects RX4 yX4_turn yX4_turn ∈ wsL_law := inr_14 _ (List.mem_of_getElem? (i := 17) rfl)
theorem kw_14_18 : Cond.code yX4_turn cX4_turn 5 (some .int) ∈ wsL_law := inr_14 _ (List.mem_of_getElem? (i := 18) rfl)
theorem kw_14_19 : Cond.methodLink RX4 109 yX4_findTurned ∈ wsL_law := inr_14 _ (List.mem_of_getElem? (i := 19) rfl)
theorem kw_14_20 : Cond.instanceMethod yX4_findTurned ∈ wsL_law := inr_14 _ (List.mem_of_getElem? (i := 20) rfl)
theorem kw_14_21 : Cond.selects RX4 yX4_findTurned yX4_findTurned ∈ wsL_law := inr_14 _ (List.mem_of_getElem? (i := 21) rfl)
theorem kw_14_22 : Cond.code yX4_findTurned cX4_findTurned 10 none ∈ wsL_law := inr_14 _ (List.mem_of_getElem? (i := 22) rfl)
theorem kw_14_23 : Cond.methodLink RX4 127 yX3_startOf ∈ wsL_law := inr_14 _ (List.mem_of_getElem? (i := 23) rfl)
theorem kw_15_0 : Cond.instanceMethod yX3_startOf ∈ wsL_law := inr_15 _ (List.mem_of_getElem? (i := 0) rfl)
theorem kw_15_1 : Cond.selects RX3 yX3_startOf yX3_startOf ∈ wsL_law := inr_15 _ (List.mem_of_getElem? (i := 1) rfl)
theorem kw_15_2 : Cond.code yX3_startOf cX3_startOf 2 (some .int) ∈ wsL_law := inr_15 _ (List.mem_of_getElem? (i := 2) rfl)
theorem kw_15_3 : Cond.methodLink RX4 112 yX2_swapFirstTwo ∈ wsL_law := inr_15 _ (List.mem_of_getElem? (i := 3) rfl)
theorem kw_15_4 : Cond.instanceMethod yX2_swapFirstTwo ∈ wsL_law := inr_15 _ (List.mem_of_getElem? (i := 4) rfl)
theorem kw_15_5 : Cond.selects RX2 yX2_swapFirstTwo yX2_swapFirstTwo ∈ wsL_law := inr_15 _ (List.mem_of_getElem? (i := 5) rfl)
theorem kw_15_6 : Cond.code yX2_swapFirstTwo cX2_swapFirstTwo 3 none ∈ wsL_law := inr_15 _ (List.mem_of_getElem? (i := 6) rfl)
theorem kw_15_7 : Cond.methodLink RX4 115 yX4_copySources ∈ wsL_law := inr_15 _ (List.mem_of_getElem? (i := 7) rfl)
theorem kw_15_8 : Cond.instanceMethod yX4_copySources ∈ wsL_law := inr_15 _ (List.mem_of_getElem? (i := 8) rfl)
theorem kw_15_9 : Cond.selects RX4 yX4_copySources yX4_copySources ∈ wsL_law := inr_15 _ (List.mem_of_getElem? (i := 9) rfl)
theorem kw_15_10 : Cond.code yX4_copySources cX4_copySources 4 none ∈ wsL_law := inr_15 _ (List.mem_of_getElem? (i := 10) rfl)
theorem kw_15_11 : Cond.methodLink RX4 136 yX3_copyCells ∈ wsL_law := inr_15 _ (List.mem_of_getElem? (i := 11) rfl)
theorem kw_15_12 : Cond.instanceMethod yX3_copyCells ∈ wsL_law := inr_15 _ (List.mem_of_getElem? (i := 12) rfl)
theorem kw_15_13 : Cond.selects RX3 yX3_copyCells yX3_copyCells ∈ wsL_law := inr_15 _ (List.mem_of_getElem? (i := 13) rfl)
theorem kw_15_14 : Cond.code yX3_copyCells cX3_copyCells 5 none ∈ wsL_law := inr_15 _ (List.mem_of_getElem? (i := 14) rfl)
theorem kw_15_15 : Cond.methodLink RL 47 yX5_turn ∈ wsL_law := inr_15 _ (List.mem_of_getElem? (i := 15) rfl)
theorem kw_15_16 : Cond.instanceMethod yX5_turn ∈ wsL_law := inr_15 _ (List.mem_of_getElem? (i := 16) rfl)
theorem kw_15_17 : Cond.selects RX5 yX5_turn yX5_turn ∈ wsL_law := inr_15 _ (List.mem_of_getElem? (i := 17) rfl)
theorem kw_15_18 : Cond.code yX5_turn cX5_turn 12 (some .int) ∈ wsL_law := inr_15 _ (List.mem_of_getElem? (i := 18) rfl)
theorem kw_15_19 : Cond.methodLink RX5 138 yX5_copy ∈ wsL_law := inr_15 _ (List.mem_of_getElem? (i := 19) rfl)
theorem kw_15_20 : Cond.instanceMethod yX5_copy ∈ wsL_law := inr_15 _ (List.mem_of_getElem? (i := 20) rfl)
theorem kw_15_21 : Cond.selects RX5 yX5_copy yX5_copy ∈ wsL_law := inr_15 _ (List.mem_of_getElem? (i := 21) rfl)
theorem kw_15_22 : Cond.code yX5_copy cX5_copy 3 none ∈ wsL_law := inr_15 _ (List.mem_of_getElem? (i := 22) rfl)
theorem kw_15_23 : Cond.methodLink RL 48 yX4_cut ∈ wsL_law := inr_15 _ (List.mem_of_getElem? (i := 23) rfl)
theorem kw_16_0 : Cond.instanceMethod yX4_cut ∈ wsL_law := inr_16 _ (List.mem_of_getElem? (i := 0) rfl)
theorem kw_16_1 : Cond.selects RX4 yX4_cut yX4_cut ∈ wsL_law := inr_16 _ (List.mem_of_getElem? (i := 1) rfl)
theorem kw_16_2 : Cond.code yX4_cut cX4_cut 7 (some .int) ∈ wsL_law := inr_16 _ (List.mem_of_getElem? (i := 2) rfl)
theorem kw_16_3 : Cond.methodLink RX4 118 yX4_findCut ∈ wsL_law := inr_16 _ (List.mem_of_getElem? (i := 3) rfl)
theorem kw_16_4 : Cond.instanceMethod yX4_findCut ∈ wsL_law := inr_16 _ (List.mem_of_getElem? (i := 4) rfl)
theorem kw_16_5 : Cond.selects RX4 yX4_findCut yX4_findCut ∈ wsL_law := inr_16 _ (List.mem_of_getElem? (i := 5) rfl)
theorem kw_16_6 : Cond.code yX4_findCut cX4_findCut 11 (some .int) ∈ wsL_law := inr_16 _ (List.mem_of_getElem? (i := 6) rfl)
theorem kw_16_7 : Cond.fieldLink RX4 219 "ArrayMaker$Shape" "low" "[I" ∈ wsL_law := inr_16 _ (List.mem_of_getElem? (i := 7) rfl)
theorem kw_16_8 : Cond.methodLink RX4 244 yX2_firstBeyond ∈ wsL_law := inr_16 _ (List.mem_of_getElem? (i := 8) rfl)
theorem kw_16_9 : Cond.instanceMethod yX2_firstBeyond ∈ wsL_law := inr_16 _ (List.mem_of_getElem? (i := 9) rfl)
theorem kw_16_10 : Cond.selects RX2 yX2_firstBeyond yX2_firstBeyond ∈ wsL_law := inr_16 _ (List.mem_of_getElem? (i := 10) rfl)
theorem kw_16_11 : Cond.code yX2_firstBeyond cX2_firstBeyond 5 (some .int) ∈ wsL_law := inr_16 _ (List.mem_of_getElem? (i := 11) rfl)
theorem kw_16_12 : Cond.methodLink RX2 41 yX2_indexOf ∈ wsL_law := inr_16 _ (List.mem_of_getElem? (i := 12) rfl)
theorem kw_16_13 : Cond.static yX2_indexOf ∈ wsL_law := inr_16 _ (List.mem_of_getElem? (i := 13) rfl)
theorem kw_16_14 : Cond.code yX2_indexOf cX2_indexOf 4 (some .int) ∈ wsL_law := inr_16 _ (List.mem_of_getElem? (i := 14) rfl)
theorem kw_16_15 : Cond.methodLink RX2 45 yX2_holds ∈ wsL_law := inr_16 _ (List.mem_of_getElem? (i := 15) rfl)
theorem kw_16_16 : Cond.instanceMethod yX2_holds ∈ wsL_law := inr_16 _ (List.mem_of_getElem? (i := 16) rfl)
theorem kw_16_17 : Cond.selects RX2 yX2_holds yX2_holds ∈ wsL_law := inr_16 _ (List.mem_of_getElem? (i := 17) rfl)
theorem kw_16_18 : Cond.code yX2_holds cX2_holds 3 (some .boolean) ∈ wsL_law := inr_16 _ (List.mem_of_getElem? (i := 18) rfl)
theorem kw_16_19 : Cond.methodLink RX4 248 yX2_place ∈ wsL_law := inr_16 _ (List.mem_of_getElem? (i := 19) rfl)
theorem kw_16_20 : Cond.instanceMethod yX2_place ∈ wsL_law := inr_16 _ (List.mem_of_getElem? (i := 20) rfl)
theorem kw_16_21 : Cond.selects RX2 yX2_place yX2_place ∈ wsL_law := inr_16 _ (List.mem_of_getElem? (i := 21) rfl)
theorem kw_16_22 : Cond.code yX2_place cX2_place 6 (some .int) ∈ wsL_law := inr_16 _ (List.mem_of_getElem? (i := 22) rfl)
theorem kw_16_23 : Cond.methodLink RX2 49 yX2_offset ∈ wsL_law := inr_16 _ (List.mem_of_getElem? (i := 23) rfl)
theorem kw_17_0 : Cond.instanceMethod yX2_offset ∈ wsL_law := inr_17 _ (List.mem_of_getElem? (i := 0) rfl)
theorem kw_17_1 : Cond.selects RX2 yX2_offset yX2_offset ∈ wsL_law := inr_17 _ (List.mem_of_getElem? (i := 1) rfl)
theorem kw_17_2 : Cond.code yX2_offset cX2_offset 3 (some .int) ∈ wsL_law := inr_17 _ (List.mem_of_getElem? (i := 2) rfl)
theorem kw_17_3 : Cond.methodLink RX4 121 yX4_stopBeyond ∈ wsL_law := inr_17 _ (List.mem_of_getElem? (i := 3) rfl)
theorem kw_17_4 : Cond.instanceMethod yX4_stopBeyond ∈ wsL_law := inr_17 _ (List.mem_of_getElem? (i := 4) rfl)
theorem kw_17_5 : Cond.selects RX4 yX4_stopBeyond yX4_stopBeyond ∈ wsL_law := inr_17 _ (List.mem_of_getElem? (i := 5) rfl)
theorem kw_17_6 : Cond.code yX4_stopBeyond cX4_stopBeyond 2 (some .int) ∈ wsL_law := inr_17 _ (List.mem_of_getElem? (i := 6) rfl)
theorem kw_17_7 : Cond.methodLink RL 51 yX5_cut ∈ wsL_law := inr_17 _ (List.mem_of_getElem? (i := 7) rfl)
theorem kw_17_8 : Cond.instanceMethod yX5_cut ∈ wsL_law := inr_17 _ (List.mem_of_getElem? (i := 8) rfl)
theorem kw_17_9 : Cond.selects RX5 yX5_cut yX5_cut ∈ wsL_law := inr_17 _ (List.mem_of_getElem? (i := 9) rfl)
theorem kw_17_10 : Cond.code yX5_cut cX5_cut 9 (some .int) ∈ wsL_law := inr_17 _ (List.mem_of_getElem? (i := 10) rfl)
theorem kw_17_11 : Cond.fieldLink RX5 142 "ArrayMakerModel" "beyond" "I" ∈ wsL_law := inr_17 _ (List.mem_of_getElem? (i := 11) rfl)
theorem kw_17_12 : Cond.methodLink RX5 145 yX5_index ∈ wsL_law := inr_17 _ (List.mem_of_getElem? (i := 12) rfl)
theorem kw_17_13 : Cond.static yX5_index ∈ wsL_law := inr_17 _ (List.mem_of_getElem? (i := 13) rfl)
theorem kw_17_14 : Cond.code yX5_index cX5_index 2 (some .int) ∈ wsL_law := inr_17 _ (List.mem_of_getElem? (i := 14) rfl)
theorem kw_17_15 : Cond.methodLink RX5 148 yX5_placeOf ∈ wsL_law := inr_17 _ (List.mem_of_getElem? (i := 15) rfl)
theorem kw_17_16 : Cond.instanceMethod yX5_placeOf ∈ wsL_law := inr_17 _ (List.mem_of_getElem? (i := 16) rfl)
theorem kw_17_17 : Cond.selects RX5 yX5_placeOf yX5_placeOf ∈ wsL_law := inr_17 _ (List.mem_of_getElem? (i := 17) rfl)
theorem kw_17_18 : Cond.code yX5_placeOf cX5_placeOf 9 (some .int) ∈ wsL_law := inr_17 _ (List.mem_of_getElem? (i := 18) rfl)
theorem kw_17_19 : Cond.methodLink RX5 152 yX5_noItem ∈ wsL_law := inr_17 _ (List.mem_of_getElem? (i := 19) rfl)
theorem kw_17_20 : Cond.instanceMethod yX5_noItem ∈ wsL_law := inr_17 _ (List.mem_of_getElem? (i := 20) rfl)
theorem kw_17_21 : Cond.selects RX5 yX5_noItem yX5_noItem ∈ wsL_law := inr_17 _ (List.mem_of_getElem? (i := 21) rfl)
theorem kw_17_22 : Cond.code yX5_noItem cX5_noItem 2 (some .int) ∈ wsL_law := inr_17 _ (List.mem_of_getElem? (i := 22) rfl)
theorem kw_17_23 : Cond.methodLink RL 52 yX4_deep ∈ wsL_law := inr_17 _ (List.mem_of_getElem? (i := 23) rfl)
theorem kw_18_0 : Cond.instanceMethod yX4_deep ∈ wsL_law := inr_18 _ (List.mem_of_getElem? (i := 0) rfl)
theorem kw_18_1 : Cond.selects RX4 yX4_deep yX4_deep ∈ wsL_law := inr_18 _ (List.mem_of_getElem? (i := 1) rfl)
theorem kw_18_2 : Cond.code yX4_deep cX4_deep 8 (some .int) ∈ wsL_law := inr_18 _ (List.mem_of_getElem? (i := 2) rfl)
theorem kw_18_3 : Cond.methodLink RX4 124 yX4_whyNotDeep ∈ wsL_law := inr_18 _ (List.mem_of_getElem? (i := 3) rfl)
theorem kw_18_4 : Cond.instanceMethod yX4_whyNotDeep ∈ wsL_law := inr_18 _ (List.mem_of_getElem? (i := 4) rfl)
theorem kw_18_5 : Cond.selects RX4 yX4_whyNotDeep yX4_whyNotDeep ∈ wsL_law := inr_18 _ (List.mem_of_getElem? (i := 5) rfl)
theorem kw_18_6 : Cond.code yX4_whyNotDeep cX4_whyNotDeep 3 (some .int) ∈ wsL_law := inr_18 _ (List.mem_of_getElem? (i := 6) rfl)
theorem kw_18_7 : Cond.methodLink RL 55 yX5_deep ∈ wsL_law := inr_18 _ (List.mem_of_getElem? (i := 7) rfl)
theorem kw_18_8 : Cond.instanceMethod yX5_deep ∈ wsL_law := inr_18 _ (List.mem_of_getElem? (i := 8) rfl)
theorem kw_18_9 : Cond.selects RX5 yX5_deep yX5_deep ∈ wsL_law := inr_18 _ (List.mem_of_getElem? (i := 9) rfl)
theorem kw_18_10 : Cond.code yX5_deep cX5_deep 6 (some .int) ∈ wsL_law := inr_18 _ (List.mem_of_getElem? (i := 10) rfl)
theorem kw_18_11 : Cond.methodLink RL 56 yX4_flat ∈ wsL_law := inr_18 _ (List.mem_of_getElem? (i := 11) rfl)
theorem kw_18_12 : Cond.instanceMethod yX4_flat ∈ wsL_law := inr_18 _ (List.mem_of_getElem? (i := 12) rfl)
theorem kw_18_13 : Cond.selects RX4 yX4_flat yX4_flat ∈ wsL_law := inr_18 _ (List.mem_of_getElem? (i := 13) rfl)
theorem kw_18_14 : Cond.code yX4_flat cX4_flat 8 (some .int) ∈ wsL_law := inr_18 _ (List.mem_of_getElem? (i := 14) rfl)
theorem kw_18_15 : Cond.methodLink RX4 140 yX4_whyNotFlat ∈ wsL_law := inr_18 _ (List.mem_of_getElem? (i := 15) rfl)
theorem kw_18_16 : Cond.instanceMethod yX4_whyNotFlat ∈ wsL_law := inr_18 _ (List.mem_of_getElem? (i := 16) rfl)
theorem kw_18_17 : Cond.selects RX4 yX4_whyNotFlat yX4_whyNotFlat ∈ wsL_law := inr_18 _ (List.mem_of_getElem? (i := 17) rfl)
theorem kw_18_18 : Cond.code yX4_whyNotFlat cX4_whyNotFlat 6 (some .int) ∈ wsL_law := inr_18 _ (List.mem_of_getElem? (i := 18) rfl)
theorem kw_18_19 : Cond.methodLink RL 59 yX5_flat ∈ wsL_law := inr_18 _ (List.mem_of_getElem? (i := 19) rfl)
theorem kw_18_20 : Cond.instanceMethod yX5_flat ∈ wsL_law := inr_18 _ (List.mem_of_getElem? (i := 20) rfl)
theorem kw_18_21 : Cond.selects RX5 yX5_flat yX5_flat ∈ wsL_law := inr_18 _ (List.mem_of_getElem? (i := 21) rfl)
theorem kw_18_22 : Cond.code yX5_flat cX5_flat 9 (some .int) ∈ wsL_law := inr_18 _ (List.mem_of_getElem? (i := 22) rfl)
theorem kw_18_23 : Cond.methodLink RX5 155 yX5_tableRows ∈ wsL_law := inr_18 _ (List.mem_of_getElem? (i := 23) rfl)
theorem kw_19_0 : Cond.instanceMethod yX5_tableRows ∈ wsL_law := inr_19 _ (List.mem_of_getElem? (i := 0) rfl)
theorem kw_19_1 : Cond.selects RX5 yX5_tableRows yX5_tableRows ∈ wsL_law := inr_19 _ (List.mem_of_getElem? (i := 1) rfl)
theorem kw_19_2 : Cond.code yX5_tableRows cX5_tableRows 2 (some .int) ∈ wsL_law := inr_19 _ (List.mem_of_getElem? (i := 2) rfl)
theorem kw_19_3 : Cond.methodLink RL 60 yX4_ragged ∈ wsL_law := inr_19 _ (List.mem_of_getElem? (i := 3) rfl)
theorem kw_19_4 : Cond.instanceMethod yX4_ragged ∈ wsL_law := inr_19 _ (List.mem_of_getElem? (i := 4) rfl)
theorem kw_19_5 : Cond.selects RX4 yX4_ragged yX4_ragged ∈ wsL_law := inr_19 _ (List.mem_of_getElem? (i := 5) rfl)
theorem kw_19_6 : Cond.code yX4_ragged cX4_ragged 6 (some .int) ∈ wsL_law := inr_19 _ (List.mem_of_getElem? (i := 6) rfl)
theorem kw_19_7 : Cond.methodLink RX4 143 yX4_whyNoTableRow ∈ wsL_law := inr_19 _ (List.mem_of_getElem? (i := 7) rfl)
theorem kw_19_8 : Cond.instanceMethod yX4_whyNoTableRow ∈ wsL_law := inr_19 _ (List.mem_of_getElem? (i := 8) rfl)
theorem kw_19_9 : Cond.selects RX4 yX4_whyNoTableRow yX4_whyNoTableRow ∈ wsL_law := inr_19 _ (List.mem_of_getElem? (i := 9) rfl)
theorem kw_19_10 : Cond.code yX4_whyNoTableRow cX4_whyNoTableRow 3 (some .int) ∈ wsL_law := inr_19 _ (List.mem_of_getElem? (i := 10) rfl)
theorem kw_19_11 : Cond.methodLink RX4 158 yX2_holds ∈ wsL_law := inr_19 _ (List.mem_of_getElem? (i := 11) rfl)
theorem kw_19_12 : Cond.methodLink RX4 150 yX2_offset ∈ wsL_law := inr_19 _ (List.mem_of_getElem? (i := 12) rfl)
theorem kw_19_13 : Cond.methodLink RL 64 yX5_ragged ∈ wsL_law := inr_19 _ (List.mem_of_getElem? (i := 13) rfl)
theorem kw_19_14 : Cond.instanceMethod yX5_ragged ∈ wsL_law := inr_19 _ (List.mem_of_getElem? (i := 14) rfl)
theorem kw_19_15 : Cond.selects RX5 yX5_ragged yX5_ragged ∈ wsL_law := inr_19 _ (List.mem_of_getElem? (i := 15) rfl)
theorem kw_19_16 : Cond.code yX5_ragged cX5_ragged 5 (some .int) ∈ wsL_law := inr_19 _ (List.mem_of_getElem? (i := 16) rfl)
theorem kw_19_17 : Cond.methodLink RX5 158 yX5_wantsRow ∈ wsL_law := inr_19 _ (List.mem_of_getElem? (i := 17) rfl)
theorem kw_19_18 : Cond.instanceMethod yX5_wantsRow ∈ wsL_law := inr_19 _ (List.mem_of_getElem? (i := 18) rfl)
theorem kw_19_19 : Cond.selects RX5 yX5_wantsRow yX5_wantsRow ∈ wsL_law := inr_19 _ (List.mem_of_getElem? (i := 19) rfl)
theorem kw_19_20 : Cond.code yX5_wantsRow cX5_wantsRow 3 (some .int) ∈ wsL_law := inr_19 _ (List.mem_of_getElem? (i := 20) rfl)
theorem kw_19_21 : Cond.methodLink RX5 161 yX5_slotOf ∈ wsL_law := inr_19 _ (List.mem_of_getElem? (i := 21) rfl)
theorem kw_19_22 : Cond.instanceMethod yX5_slotOf ∈ wsL_law := inr_19 _ (List.mem_of_getElem? (i := 22) rfl)
theorem kw_19_23 : Cond.selects RX5 yX5_slotOf yX5_slotOf ∈ wsL_law := inr_19 _ (List.mem_of_getElem? (i := 23) rfl)
theorem kw_20_0 : Cond.code yX5_slotOf cX5_slotOf 3 (some .int) ∈ wsL_law := inr_20 _ (List.mem_of_getElem? (i := 0) rfl)
theorem kw_20_1 : Cond.methodLink RL 65 yX4_without ∈ wsL_law := inr_20 _ (List.mem_of_getElem? (i := 1) rfl)
theorem kw_20_2 : Cond.instanceMethod yX4_without ∈ wsL_law := inr_20 _ (List.mem_of_getElem? (i := 2) rfl)
theorem kw_20_3 : Cond.selects RX4 yX4_without yX4_without ∈ wsL_law := inr_20 _ (List.mem_of_getElem? (i := 3) rfl)
theorem kw_20_4 : Cond.code yX4_without cX4_without 5 (some .int) ∈ wsL_law := inr_20 _ (List.mem_of_getElem? (i := 4) rfl)
theorem kw_20_5 : Cond.methodLink RL 68 yX5_without ∈ wsL_law := inr_20 _ (List.mem_of_getElem? (i := 5) rfl)
theorem kw_20_6 : Cond.instanceMethod yX5_without ∈ wsL_law := inr_20 _ (List.mem_of_getElem? (i := 6) rfl)
theorem kw_20_7 : Cond.selects RX5 yX5_without yX5_without ∈ wsL_law := inr_20 _ (List.mem_of_getElem? (i := 7) rfl)
theorem kw_20_8 : Cond.code yX5_without cX5_without 4 (some .int) ∈ wsL_law := inr_20 _ (List.mem_of_getElem? (i := 8) rfl)
theorem kw_20_9 : Cond.methodLink RL 69 yX4_tie ∈ wsL_law := inr_20 _ (List.mem_of_getElem? (i := 9) rfl)
theorem kw_20_10 : Cond.instanceMethod yX4_tie ∈ wsL_law := inr_20 _ (List.mem_of_getElem? (i := 10) rfl)
theorem kw_20_11 : Cond.selects RX4 yX4_tie yX4_tie ∈ wsL_law := inr_20 _ (List.mem_of_getElem? (i := 11) rfl)
theorem kw_20_12 : Cond.code yX4_tie cX4_tie 7 (some .int) ∈ wsL_law := inr_20 _ (List.mem_of_getElem? (i := 12) rfl)
theorem kw_20_13 : Cond.methodLink RL 73 yX5_tie ∈ wsL_law := inr_20 _ (List.mem_of_getElem? (i := 13) rfl)
theorem kw_20_14 : Cond.instanceMethod yX5_tie ∈ wsL_law := inr_20 _ (List.mem_of_getElem? (i := 14) rfl)
theorem kw_20_15 : Cond.selects RX5 yX5_tie yX5_tie ∈ wsL_law := inr_20 _ (List.mem_of_getElem? (i := 15) rfl)
theorem kw_20_16 : Cond.code yX5_tie cX5_tie 5 (some .int) ∈ wsL_law := inr_20 _ (List.mem_of_getElem? (i := 16) rfl)
theorem kw_20_17 : Cond.methodLink RL 74 yX4_get ∈ wsL_law := inr_20 _ (List.mem_of_getElem? (i := 17) rfl)
theorem kw_20_18 : Cond.instanceMethod yX4_get ∈ wsL_law := inr_20 _ (List.mem_of_getElem? (i := 18) rfl)
theorem kw_20_19 : Cond.selects RX4 yX4_get yX4_get ∈ wsL_law := inr_20 _ (List.mem_of_getElem? (i := 19) rfl)
theorem kw_20_20 : Cond.code yX4_get cX4_get 6 (some .long) ∈ wsL_law := inr_20 _ (List.mem_of_getElem? (i := 20) rfl)
theorem kw_20_21 : Cond.fieldLink RX4 165 "ArrayMaker$Store" "filled" "[Z" ∈ wsL_law := inr_20 _ (List.mem_of_getElem? (i := 21) rfl)
theorem kw_20_22 : Cond.fieldLink RX4 169 "ArrayMaker$Store" "numbers" "[J" ∈ wsL_law := inr_20 _ (List.mem_of_getElem? (i := 22) rfl)
theorem kw_20_23 : Cond.methodLink RX4 161 yX4_cellOf ∈ wsL_law := inr_20 _ (List.mem_of_getElem? (i := 23) rfl)
theorem kw_21_0 : Cond.instanceMethod yX4_cellOf ∈ wsL_law := inr_21 _ (List.mem_of_getElem? (i := 0) rfl)
theorem kw_21_1 : Cond.selects RX4 yX4_cellOf yX4_cellOf ∈ wsL_law := inr_21 _ (List.mem_of_getElem? (i := 1) rfl)
theorem kw_21_2 : Cond.code yX4_cellOf cX4_cellOf 6 (some .int) ∈ wsL_law := inr_21 _ (List.mem_of_getElem? (i := 2) rfl)
theorem kw_21_3 : Cond.methodLink RX4 251 yX4_tableCellOf ∈ wsL_law := inr_21 _ (List.mem_of_getElem? (i := 3) rfl)
theorem kw_21_4 : Cond.instanceMethod yX4_tableCellOf ∈ wsL_law := inr_21 _ (List.mem_of_getElem? (i := 4) rfl)
theorem kw_21_5 : Cond.selects RX4 yX4_tableCellOf yX4_tableCellOf ∈ wsL_law := inr_21 _ (List.mem_of_getElem? (i := 5) rfl)
theorem kw_21_6 : Cond.code yX4_tableCellOf cX4_tableCellOf 7 (some .int) ∈ wsL_law := inr_21 _ (List.mem_of_getElem? (i := 6) rfl)
theorem kw_21_7 : Cond.methodLink RL 78 yX5_get ∈ wsL_law := inr_21 _ (List.mem_of_getElem? (i := 7) rfl)
theorem kw_21_8 : Cond.instanceMethod yX5_get ∈ wsL_law := inr_21 _ (List.mem_of_getElem? (i := 8) rfl)
theorem kw_21_9 : Cond.selects RX5 yX5_get yX5_get ∈ wsL_law := inr_21 _ (List.mem_of_getElem? (i := 9) rfl)
theorem kw_21_10 : Cond.code yX5_get cX5_get 6 (some .long) ∈ wsL_law := inr_21 _ (List.mem_of_getElem? (i := 10) rfl)
theorem kw_21_11 : Cond.methodLink RX5 164 yX5_find ∈ wsL_law := inr_21 _ (List.mem_of_getElem? (i := 11) rfl)
theorem kw_21_12 : Cond.instanceMethod yX5_find ∈ wsL_law := inr_21 _ (List.mem_of_getElem? (i := 12) rfl)
theorem kw_21_13 : Cond.selects RX5 yX5_find yX5_find ∈ wsL_law := inr_21 _ (List.mem_of_getElem? (i := 13) rfl)
theorem kw_21_14 : Cond.code yX5_find cX5_find 9 (some .int) ∈ wsL_law := inr_21 _ (List.mem_of_getElem? (i := 14) rfl)
theorem kw_21_15 : Cond.methodLink RL 81 yX4_put ∈ wsL_law := inr_21 _ (List.mem_of_getElem? (i := 15) rfl)
theorem kw_21_16 : Cond.instanceMethod yX4_put ∈ wsL_law := inr_21 _ (List.mem_of_getElem? (i := 16) rfl)
theorem kw_21_17 : Cond.selects RX4 yX4_put yX4_put ∈ wsL_law := inr_21 _ (List.mem_of_getElem? (i := 17) rfl)
theorem kw_21_18 : Cond.code yX4_put cX4_put 9 (some .int) ∈ wsL_law := inr_21 _ (List.mem_of_getElem? (i := 18) rfl)
theorem kw_21_19 : Cond.methodLink RX4 173 yX4_fitted ∈ wsL_law := inr_21 _ (List.mem_of_getElem? (i := 19) rfl)
theorem kw_21_20 : Cond.static yX4_fitted ∈ wsL_law := inr_21 _ (List.mem_of_getElem? (i := 20) rfl)
theorem kw_21_21 : Cond.code yX4_fitted cX4_fitted 3 (some .long) ∈ wsL_law := inr_21 _ (List.mem_of_getElem? (i := 21) rfl)
theorem kw_21_22 : Cond.methodLink RX4 177 yX3_fill ∈ wsL_law := inr_21 _ (List.mem_of_getElem? (i := 22) rfl)
theorem kw_21_23 : Cond.instanceMethod yX3_fill ∈ wsL_law := inr_21 _ (List.mem_of_getElem? (i := 23) rfl)
theorem kw_22_0 : Cond.selects RX3 yX3_fill yX3_fill ∈ wsL_law := inr_22 _ (List.mem_of_getElem? (i := 0) rfl)
theorem kw_22_1 : Cond.code yX3_fill cX3_fill 4 none ∈ wsL_law := inr_22 _ (List.mem_of_getElem? (i := 1) rfl)
theorem kw_22_2 : Cond.methodLink RL 85 yX5_put ∈ wsL_law := inr_22 _ (List.mem_of_getElem? (i := 2) rfl)
theorem kw_22_3 : Cond.instanceMethod yX5_put ∈ wsL_law := inr_22 _ (List.mem_of_getElem? (i := 3) rfl)
theorem kw_22_4 : Cond.selects RX5 yX5_put yX5_put ∈ wsL_law := inr_22 _ (List.mem_of_getElem? (i := 4) rfl)
theorem kw_22_5 : Cond.code yX5_put cX5_put 8 (some .int) ∈ wsL_law := inr_22 _ (List.mem_of_getElem? (i := 5) rfl)
theorem kw_22_6 : Cond.methodLink RX5 171 yX5_lay ∈ wsL_law := inr_22 _ (List.mem_of_getElem? (i := 6) rfl)
theorem kw_22_7 : Cond.instanceMethod yX5_lay ∈ wsL_law := inr_22 _ (List.mem_of_getElem? (i := 7) rfl)
theorem kw_22_8 : Cond.selects RX5 yX5_lay yX5_lay ∈ wsL_law := inr_22 _ (List.mem_of_getElem? (i := 8) rfl)
theorem kw_22_9 : Cond.code yX5_lay cX5_lay 5 none ∈ wsL_law := inr_22 _ (List.mem_of_getElem? (i := 9) rfl)
theorem kw_22_10 : Cond.methodLink RX5 167 yX5_as ∈ wsL_law := inr_22 _ (List.mem_of_getElem? (i := 10) rfl)
theorem kw_22_11 : Cond.static yX5_as ∈ wsL_law := inr_22 _ (List.mem_of_getElem? (i := 11) rfl)
theorem kw_22_12 : Cond.code yX5_as cX5_as 5 (some .long) ∈ wsL_law := inr_22 _ (List.mem_of_getElem? (i := 12) rfl)
theorem kw_22_13 : Cond.constantLong RX5 92 (255) ∈ wsL_law := inr_22 _ (List.mem_of_getElem? (i := 13) rfl)
theorem kw_22_14 : Cond.constantLong RX5 94 (127) ∈ wsL_law := inr_22 _ (List.mem_of_getElem? (i := 14) rfl)
theorem kw_22_15 : Cond.constantLong RX5 96 (256) ∈ wsL_law := inr_22 _ (List.mem_of_getElem? (i := 15) rfl)
theorem kw_22_16 : Cond.methodLink RL 86 yX4_empty ∈ wsL_law := inr_22 _ (List.mem_of_getElem? (i := 16) rfl)
theorem kw_22_17 : Cond.instanceMethod yX4_empty ∈ wsL_law := inr_22 _ (List.mem_of_getElem? (i := 17) rfl)
theorem kw_22_18 : Cond.selects RX4 yX4_empty yX4_empty ∈ wsL_law := inr_22 _ (List.mem_of_getElem? (i := 18) rfl)
theorem kw_22_19 : Cond.code yX4_empty cX4_empty 7 (some .int) ∈ wsL_law := inr_22 _ (List.mem_of_getElem? (i := 19) rfl)
theorem kw_22_20 : Cond.methodLink RX4 181 yX3_drain ∈ wsL_law := inr_22 _ (List.mem_of_getElem? (i := 20) rfl)
theorem kw_22_21 : Cond.instanceMethod yX3_drain ∈ wsL_law := inr_22 _ (List.mem_of_getElem? (i := 21) rfl)
theorem kw_22_22 : Cond.selects RX3 yX3_drain yX3_drain ∈ wsL_law := inr_22 _ (List.mem_of_getElem? (i := 22) rfl)
theorem kw_22_23 : Cond.code yX3_drain cX3_drain 2 none ∈ wsL_law := inr_22 _ (List.mem_of_getElem? (i := 23) rfl)
theorem kw_23_0 : Cond.methodLink RL 89 yX5_empty ∈ wsL_law := inr_23 _ (List.mem_of_getElem? (i := 0) rfl)
theorem kw_23_1 : Cond.instanceMethod yX5_empty ∈ wsL_law := inr_23 _ (List.mem_of_getElem? (i := 1) rfl)
theorem kw_23_2 : Cond.selects RX5 yX5_empty yX5_empty ∈ wsL_law := inr_23 _ (List.mem_of_getElem? (i := 2) rfl)
theorem kw_23_3 : Cond.code yX5_empty cX5_empty 6 (some .int) ∈ wsL_law := inr_23 _ (List.mem_of_getElem? (i := 3) rfl)
theorem kw_23_4 : Cond.methodLink RL 90 yX4_pair ∈ wsL_law := inr_23 _ (List.mem_of_getElem? (i := 4) rfl)
theorem kw_23_5 : Cond.instanceMethod yX4_pair ∈ wsL_law := inr_23 _ (List.mem_of_getElem? (i := 5) rfl)
theorem kw_23_6 : Cond.selects RX4 yX4_pair yX4_pair ∈ wsL_law := inr_23 _ (List.mem_of_getElem? (i := 6) rfl)
theorem kw_23_7 : Cond.code yX4_pair cX4_pair 6 (some .int) ∈ wsL_law := inr_23 _ (List.mem_of_getElem? (i := 7) rfl)
theorem kw_23_8 : Cond.fieldLink RX4 185 "ArrayMaker$Lines" "count" "I" ∈ wsL_law := inr_23 _ (List.mem_of_getElem? (i := 8) rfl)
theorem kw_23_9 : Cond.methodLink RX4 186 yX0_add ∈ wsL_law := inr_23 _ (List.mem_of_getElem? (i := 9) rfl)
theorem kw_23_10 : Cond.instanceMethod yX0_add ∈ wsL_law := inr_23 _ (List.mem_of_getElem? (i := 10) rfl)
theorem kw_23_11 : Cond.selects RX0 yX0_add yX0_add ∈ wsL_law := inr_23 _ (List.mem_of_getElem? (i := 11) rfl)
theorem kw_23_12 : Cond.code yX0_add cX0_add 6 none ∈ wsL_law := inr_23 _ (List.mem_of_getElem? (i := 12) rfl)
theorem kw_23_13 : Cond.fieldLink RX0 25 "ArrayMaker$Lines" "count" "I" ∈ wsL_law := inr_23 _ (List.mem_of_getElem? (i := 13) rfl)
theorem kw_23_14 : Cond.methodLink RL 94 yX5_pair ∈ wsL_law := inr_23 _ (List.mem_of_getElem? (i := 14) rfl)
theorem kw_23_15 : Cond.instanceMethod yX5_pair ∈ wsL_law := inr_23 _ (List.mem_of_getElem? (i := 15) rfl)
theorem kw_23_16 : Cond.selects RX5 yX5_pair yX5_pair ∈ wsL_law := inr_23 _ (List.mem_of_getElem? (i := 16) rfl)
theorem kw_23_17 : Cond.code yX5_pair cX5_pair 6 (some .int) ∈ wsL_law := inr_23 _ (List.mem_of_getElem? (i := 17) rfl)
theorem kw_23_18 : Cond.fieldLink RX5 175 "ArrayMakerModel" "lines" "I" ∈ wsL_law := inr_23 _ (List.mem_of_getElem? (i := 18) rfl)
theorem kw_23_19 : Cond.methodLink RL 95 yX4_gather ∈ wsL_law := inr_23 _ (List.mem_of_getElem? (i := 19) rfl)
theorem kw_23_20 : Cond.instanceMethod yX4_gather ∈ wsL_law := inr_23 _ (List.mem_of_getElem? (i := 20) rfl)
theorem kw_23_21 : Cond.selects RX4 yX4_gather yX4_gather ∈ wsL_law := inr_23 _ (List.mem_of_getElem? (i := 21) rfl)
theorem kw_23_22 : Cond.code yX4_gather cX4_gather 7 (some .int) ∈ wsL_law := inr_23 _ (List.mem_of_getElem? (i := 22) rfl)
theorem kw_23_23 : Cond.fieldLink RX4 189 "ArrayMaker$Lines" "i" "[I" ∈ wsL_law := inr_23 _ (List.mem_of_getElem? (i := 23) rfl)
theorem kw_24_0 : Cond.fieldLink RX4 192 "ArrayMaker$Lines" "j" "[I" ∈ wsL_law := inr_24 _ (List.mem_of_getElem? (i := 0) rfl)
theorem kw_24_1 : Cond.fieldLink RX4 195 "ArrayMaker$Lines" "k" "[I" ∈ wsL_law := inr_24 _ (List.mem_of_getElem? (i := 1) rfl)
theorem kw_24_2 : Cond.fieldLink RX4 198 "ArrayMaker$Lines" "v" "[J" ∈ wsL_law := inr_24 _ (List.mem_of_getElem? (i := 2) rfl)
theorem kw_24_3 : Cond.methodLink RX4 201 yX4_joinCell ∈ wsL_law := inr_24 _ (List.mem_of_getElem? (i := 3) rfl)
theorem kw_24_4 : Cond.instanceMethod yX4_joinCell ∈ wsL_law := inr_24 _ (List.mem_of_getElem? (i := 4) rfl)
theorem kw_24_5 : Cond.selects RX4 yX4_joinCell yX4_joinCell ∈ wsL_law := inr_24 _ (List.mem_of_getElem? (i := 5) rfl)
theorem kw_24_6 : Cond.code yX4_joinCell cX4_joinCell 6 (some .boolean) ∈ wsL_law := inr_24 _ (List.mem_of_getElem? (i := 6) rfl)
theorem kw_24_7 : Cond.methodLink RX4 255 yX4_joined ∈ wsL_law := inr_24 _ (List.mem_of_getElem? (i := 7) rfl)
theorem kw_24_8 : Cond.static yX4_joined ∈ wsL_law := inr_24 _ (List.mem_of_getElem? (i := 8) rfl)
theorem kw_24_9 : Cond.code yX4_joined cX4_joined 5 (some .long) ∈ wsL_law := inr_24 _ (List.mem_of_getElem? (i := 9) rfl)
theorem kw_24_10 : Cond.methodLink RX4 259 Lib.MathLoose.max_long.x ∈ wsL_law := inr_24 _ (List.mem_of_getElem? (i := 10) rfl)
theorem kw_24_11 : Cond.methodLink RX4 265 Lib.MathLoose.min_long.x ∈ wsL_law := inr_24 _ (List.mem_of_getElem? (i := 11) rfl)
theorem kw_24_12 : Cond.methodLink RL 98 yX5_gather ∈ wsL_law := inr_24 _ (List.mem_of_getElem? (i := 12) rfl)
theorem kw_24_13 : Cond.instanceMethod yX5_gather ∈ wsL_law := inr_24 _ (List.mem_of_getElem? (i := 13) rfl)
theorem kw_24_14 : Cond.selects RX5 yX5_gather yX5_gather ∈ wsL_law := inr_24 _ (List.mem_of_getElem? (i := 14) rfl)
theorem kw_24_15 : Cond.code yX5_gather cX5_gather 6 (some .int) ∈ wsL_law := inr_24 _ (List.mem_of_getElem? (i := 15) rfl)
theorem kw_24_16 : Cond.constantLong RX5 180 (5) ∈ wsL_law := inr_24 _ (List.mem_of_getElem? (i := 16) rfl)
theorem kw_24_17 : Cond.methodLink RX5 182 yX5_joins ∈ wsL_law := inr_24 _ (List.mem_of_getElem? (i := 17) rfl)
theorem kw_24_18 : Cond.instanceMethod yX5_joins ∈ wsL_law := inr_24 _ (List.mem_of_getElem? (i := 18) rfl)
theorem kw_24_19 : Cond.selects RX5 yX5_joins yX5_joins ∈ wsL_law := inr_24 _ (List.mem_of_getElem? (i := 19) rfl)
theorem kw_24_20 : Cond.code yX5_joins cX5_joins 10 (some .boolean) ∈ wsL_law := inr_24 _ (List.mem_of_getElem? (i := 20) rfl)
theorem kw_24_21 : Cond.constantLong RX5 178 (-1) ∈ wsL_law := inr_24 _ (List.mem_of_getElem? (i := 21) rfl)
theorem kw_24_22 : Cond.methodLink RL 99 yX4_join ∈ wsL_law := inr_24 _ (List.mem_of_getElem? (i := 22) rfl)
theorem kw_24_23 : Cond.instanceMethod yX4_join ∈ wsL_law := inr_24 _ (List.mem_of_getElem? (i := 23) rfl)
theorem kw_25_0 : Cond.selects RX4 yX4_join yX4_join ∈ wsL_law := inr_25 _ (List.mem_of_getElem? (i := 0) rfl)
theorem kw_25_1 : Cond.code yX4_join cX4_join 11 (some .int) ∈ wsL_law := inr_25 _ (List.mem_of_getElem? (i := 1) rfl)
theorem kw_25_2 : Cond.methodLink RX4 208 yX4_whyNotJoined ∈ wsL_law := inr_25 _ (List.mem_of_getElem? (i := 2) rfl)
theorem kw_25_3 : Cond.instanceMethod yX4_whyNotJoined ∈ wsL_law := inr_25 _ (List.mem_of_getElem? (i := 3) rfl)
theorem kw_25_4 : Cond.selects RX4 yX4_whyNotJoined yX4_whyNotJoined ∈ wsL_law := inr_25 _ (List.mem_of_getElem? (i := 4) rfl)
theorem kw_25_5 : Cond.code yX4_whyNotJoined cX4_whyNotJoined 3 (some .int) ∈ wsL_law := inr_25 _ (List.mem_of_getElem? (i := 5) rfl)
theorem kw_25_6 : Cond.methodLink RL 102 yX5_join ∈ wsL_law := inr_25 _ (List.mem_of_getElem? (i := 6) rfl)
theorem kw_25_7 : Cond.instanceMethod yX5_join ∈ wsL_law := inr_25 _ (List.mem_of_getElem? (i := 7) rfl)
theorem kw_25_8 : Cond.selects RX5 yX5_join yX5_join ∈ wsL_law := inr_25 _ (List.mem_of_getElem? (i := 8) rfl)
theorem kw_25_9 : Cond.code yX5_join cX5_join 8 (some .int) ∈ wsL_law := inr_25 _ (List.mem_of_getElem? (i := 9) rfl)
theorem kw_25_10 : Cond.methodLink RL 103 yX4_sum ∈ wsL_law := inr_25 _ (List.mem_of_getElem? (i := 10) rfl)
theorem kw_25_11 : Cond.instanceMethod yX4_sum ∈ wsL_law := inr_25 _ (List.mem_of_getElem? (i := 11) rfl)
theorem kw_25_12 : Cond.selects RX4 yX4_sum yX4_sum ∈ wsL_law := inr_25 _ (List.mem_of_getElem? (i := 12) rfl)
theorem kw_25_13 : Cond.code yX4_sum cX4_sum 6 (some .long) ∈ wsL_law := inr_25 _ (List.mem_of_getElem? (i := 13) rfl)
theorem kw_25_14 : Cond.methodLink RX4 212 yX3_totalOf ∈ wsL_law := inr_25 _ (List.mem_of_getElem? (i := 14) rfl)
theorem kw_25_15 : Cond.instanceMethod yX3_totalOf ∈ wsL_law := inr_25 _ (List.mem_of_getElem? (i := 15) rfl)
theorem kw_25_16 : Cond.selects RX3 yX3_totalOf yX3_totalOf ∈ wsL_law := inr_25 _ (List.mem_of_getElem? (i := 16) rfl)
theorem kw_25_17 : Cond.code yX3_totalOf cX3_totalOf 5 (some .long) ∈ wsL_law := inr_25 _ (List.mem_of_getElem? (i := 17) rfl)
theorem kw_25_18 : Cond.methodLink RX3 62 yX3_lengthOf ∈ wsL_law := inr_25 _ (List.mem_of_getElem? (i := 18) rfl)
theorem kw_25_19 : Cond.methodLink RX3 66 yX3_startOf ∈ wsL_law := inr_25 _ (List.mem_of_getElem? (i := 19) rfl)
theorem kw_25_20 : Cond.methodLink RL 107 yX5_sum ∈ wsL_law := inr_25 _ (List.mem_of_getElem? (i := 20) rfl)
theorem kw_25_21 : Cond.instanceMethod yX5_sum ∈ wsL_law := inr_25 _ (List.mem_of_getElem? (i := 21) rfl)
theorem kw_25_22 : Cond.selects RX5 yX5_sum yX5_sum ∈ wsL_law := inr_25 _ (List.mem_of_getElem? (i := 22) rfl)
theorem kw_25_23 : Cond.code yX5_sum cX5_sum 6 (some .long) ∈ wsL_law := inr_25 _ (List.mem_of_getElem? (i := 23) rfl)
theorem kw_26_0 : Cond.methodLink RX5 186 yX5_sumOf ∈ wsL_law := inr_26 _ (List.mem_of_getElem? (i := 0) rfl)
theorem kw_26_1 : Cond.instanceMethod yX5_sumOf ∈ wsL_law := inr_26 _ (List.mem_of_getElem? (i := 1) rfl)
theorem kw_26_2 : Cond.selects RX5 yX5_sumOf yX5_sumOf ∈ wsL_law := inr_26 _ (List.mem_of_getElem? (i := 2) rfl)
theorem kw_26_3 : Cond.code yX5_sumOf cX5_sumOf 5 (some .long) ∈ wsL_law := inr_26 _ (List.mem_of_getElem? (i := 3) rfl)
theorem kw_26_4 : Cond.methodLink RL 108 yX4_mean ∈ wsL_law := inr_26 _ (List.mem_of_getElem? (i := 4) rfl)
theorem kw_26_5 : Cond.instanceMethod yX4_mean ∈ wsL_law := inr_26 _ (List.mem_of_getElem? (i := 5) rfl)
theorem kw_26_6 : Cond.selects RX4 yX4_mean yX4_mean ∈ wsL_law := inr_26 _ (List.mem_of_getElem? (i := 6) rfl)
theorem kw_26_7 : Cond.code yX4_mean cX4_mean 4 (some .long) ∈ wsL_law := inr_26 _ (List.mem_of_getElem? (i := 7) rfl)
theorem kw_26_8 : Cond.methodLink RL 111 yX5_mean ∈ wsL_law := inr_26 _ (List.mem_of_getElem? (i := 8) rfl)
theorem kw_26_9 : Cond.instanceMethod yX5_mean ∈ wsL_law := inr_26 _ (List.mem_of_getElem? (i := 9) rfl)
theorem kw_26_10 : Cond.selects RX5 yX5_mean yX5_mean ∈ wsL_law := inr_26 _ (List.mem_of_getElem? (i := 10) rfl)
theorem kw_26_11 : Cond.code yX5_mean cX5_mean 3 (some .long) ∈ wsL_law := inr_26 _ (List.mem_of_getElem? (i := 11) rfl)
theorem kw_26_12 : Cond.methodLink RL 112 yX4_about ∈ wsL_law := inr_26 _ (List.mem_of_getElem? (i := 12) rfl)
theorem kw_26_13 : Cond.instanceMethod yX4_about ∈ wsL_law := inr_26 _ (List.mem_of_getElem? (i := 13) rfl)
theorem kw_26_14 : Cond.selects RX4 yX4_about yX4_about ∈ wsL_law := inr_26 _ (List.mem_of_getElem? (i := 14) rfl)
theorem kw_26_15 : Cond.code yX4_about cX4_about 6 (some .int) ∈ wsL_law := inr_26 _ (List.mem_of_getElem? (i := 15) rfl)
theorem kw_26_16 : Cond.fieldLink RX4 222 "ArrayMaker$Shape" "high" "[I" ∈ wsL_law := inr_26 _ (List.mem_of_getElem? (i := 16) rfl)
theorem kw_26_17 : Cond.methodLink RX4 216 yX4_itemsOf ∈ wsL_law := inr_26 _ (List.mem_of_getElem? (i := 17) rfl)
theorem kw_26_18 : Cond.instanceMethod yX4_itemsOf ∈ wsL_law := inr_26 _ (List.mem_of_getElem? (i := 18) rfl)
theorem kw_26_19 : Cond.selects RX4 yX4_itemsOf yX4_itemsOf ∈ wsL_law := inr_26 _ (List.mem_of_getElem? (i := 19) rfl)
theorem kw_26_20 : Cond.code yX4_itemsOf cX4_itemsOf 4 (some .int) ∈ wsL_law := inr_26 _ (List.mem_of_getElem? (i := 20) rfl)
theorem kw_26_21 : Cond.methodLink RL 115 yX5_about ∈ wsL_law := inr_26 _ (List.mem_of_getElem? (i := 21) rfl)
theorem kw_26_22 : Cond.instanceMethod yX5_about ∈ wsL_law := inr_26 _ (List.mem_of_getElem? (i := 22) rfl)
theorem kw_26_23 : Cond.selects RX5 yX5_about yX5_about ∈ wsL_law := inr_26 _ (List.mem_of_getElem? (i := 23) rfl)
theorem kw_27_0 : Cond.code yX5_about cX5_about 6 (some .int) ∈ wsL_law := inr_27 _ (List.mem_of_getElem? (i := 0) rfl)
theorem kw_27_1 : Cond.constantLong RX5 190 (8) ∈ wsL_law := inr_27 _ (List.mem_of_getElem? (i := 1) rfl)
theorem kw_27_2 : Cond.methodLink RL 116 yX4_same ∈ wsL_law := inr_27 _ (List.mem_of_getElem? (i := 2) rfl)
theorem kw_27_3 : Cond.instanceMethod yX4_same ∈ wsL_law := inr_27 _ (List.mem_of_getElem? (i := 3) rfl)
theorem kw_27_4 : Cond.selects RX4 yX4_same yX4_same ∈ wsL_law := inr_27 _ (List.mem_of_getElem? (i := 4) rfl)
theorem kw_27_5 : Cond.code yX4_same cX4_same 5 (some .int) ∈ wsL_law := inr_27 _ (List.mem_of_getElem? (i := 5) rfl)
theorem kw_27_6 : Cond.methodLink RX4 225 yX4_haveSameRows ∈ wsL_law := inr_27 _ (List.mem_of_getElem? (i := 6) rfl)
theorem kw_27_7 : Cond.static yX4_haveSameRows ∈ wsL_law := inr_27 _ (List.mem_of_getElem? (i := 7) rfl)
theorem kw_27_8 : Cond.code yX4_haveSameRows cX4_haveSameRows 3 (some .boolean) ∈ wsL_law := inr_27 _ (List.mem_of_getElem? (i := 8) rfl)
theorem kw_27_9 : Cond.methodLink RL 119 yX5_same ∈ wsL_law := inr_27 _ (List.mem_of_getElem? (i := 9) rfl)
theorem kw_27_10 : Cond.instanceMethod yX5_same ∈ wsL_law := inr_27 _ (List.mem_of_getElem? (i := 10) rfl)
theorem kw_27_11 : Cond.selects RX5 yX5_same yX5_same ∈ wsL_law := inr_27 _ (List.mem_of_getElem? (i := 11) rfl)
theorem kw_27_12 : Cond.code yX5_same cX5_same 5 (some .int) ∈ wsL_law := inr_27 _ (List.mem_of_getElem? (i := 12) rfl)
theorem kw_27_13 : Cond.methodLink RL 120 yX4_compare ∈ wsL_law := inr_27 _ (List.mem_of_getElem? (i := 13) rfl)
theorem kw_27_14 : Cond.instanceMethod yX4_compare ∈ wsL_law := inr_27 _ (List.mem_of_getElem? (i := 14) rfl)
theorem kw_27_15 : Cond.selects RX4 yX4_compare yX4_compare ∈ wsL_law := inr_27 _ (List.mem_of_getElem? (i := 15) rfl)
theorem kw_27_16 : Cond.code yX4_compare cX4_compare 5 (some .int) ∈ wsL_law := inr_27 _ (List.mem_of_getElem? (i := 16) rfl)
theorem kw_27_17 : Cond.methodLink RX4 229 yX3_orderOf ∈ wsL_law := inr_27 _ (List.mem_of_getElem? (i := 17) rfl)
theorem kw_27_18 : Cond.instanceMethod yX3_orderOf ∈ wsL_law := inr_27 _ (List.mem_of_getElem? (i := 18) rfl)
theorem kw_27_19 : Cond.selects RX3 yX3_orderOf yX3_orderOf ∈ wsL_law := inr_27 _ (List.mem_of_getElem? (i := 19) rfl)
theorem kw_27_20 : Cond.code yX3_orderOf cX3_orderOf 6 (some .int) ∈ wsL_law := inr_27 _ (List.mem_of_getElem? (i := 20) rfl)
theorem kw_27_21 : Cond.methodLink RX3 69 Lib.Math.min.name ∈ wsL_law := inr_27 _ (List.mem_of_getElem? (i := 21) rfl)
theorem kw_27_22 : Cond.methodLink RX3 72 yJ13_compare_74951 ∈ wsL_law := inr_27 _ (List.mem_of_getElem? (i := 22) rfl)
theorem kw_27_23 : Cond.static yJ13_compare_74951 ∈ wsL_law := inr_27 _ (List.mem_of_getElem? (i := 23) rfl)
theorem kw_28_0 : Cond.initialized RJ13 ∈ wsL_law := inr_28 _ (List.mem_of_getElem? (i := 0) rfl)
theorem kw_28_1 : Cond.code yJ13_compare_74951 cJ13_compare_74951 4 (some .int) ∈ wsL_law := inr_28 _ (List.mem_of_getElem? (i := 1) rfl)
theorem kw_28_2 : Cond.methodLink RX3 78 yJ6_compare_7cf53 ∈ wsL_law := inr_28 _ (List.mem_of_getElem? (i := 2) rfl)
theorem kw_28_3 : Cond.static yJ6_compare_7cf53 ∈ wsL_law := inr_28 _ (List.mem_of_getElem? (i := 3) rfl)
theorem kw_28_4 : Cond.initialized RJ6 ∈ wsL_law := inr_28 _ (List.mem_of_getElem? (i := 4) rfl)
theorem kw_28_5 : Cond.code yJ6_compare_7cf53 cJ6_compare_7cf53 2 (some .int) ∈ wsL_law := inr_28 _ (List.mem_of_getElem? (i := 5) rfl)
theorem kw_28_6 : Cond.methodLink RL 123 yX5_compare ∈ wsL_law := inr_28 _ (List.mem_of_getElem? (i := 6) rfl)
theorem kw_28_7 : Cond.instanceMethod yX5_compare ∈ wsL_law := inr_28 _ (List.mem_of_getElem? (i := 7) rfl)
theorem kw_28_8 : Cond.selects RX5 yX5_compare yX5_compare ∈ wsL_law := inr_28 _ (List.mem_of_getElem? (i := 8) rfl)
theorem kw_28_9 : Cond.code yX5_compare cX5_compare 10 (some .int) ∈ wsL_law := inr_28 _ (List.mem_of_getElem? (i := 9) rfl)
theorem kw_28_10 : Cond.methodLink RL 124 yX4_clear ∈ wsL_law := inr_28 _ (List.mem_of_getElem? (i := 10) rfl)
theorem kw_28_11 : Cond.instanceMethod yX4_clear ∈ wsL_law := inr_28 _ (List.mem_of_getElem? (i := 11) rfl)
theorem kw_28_12 : Cond.selects RX4 yX4_clear yX4_clear ∈ wsL_law := inr_28 _ (List.mem_of_getElem? (i := 12) rfl)
theorem kw_28_13 : Cond.code yX4_clear cX4_clear 2 (some .int) ∈ wsL_law := inr_28 _ (List.mem_of_getElem? (i := 13) rfl)
theorem kw_28_14 : Cond.methodLink RX4 232 yX3_forget ∈ wsL_law := inr_28 _ (List.mem_of_getElem? (i := 14) rfl)
theorem kw_28_15 : Cond.instanceMethod yX3_forget ∈ wsL_law := inr_28 _ (List.mem_of_getElem? (i := 15) rfl)
theorem kw_28_16 : Cond.selects RX3 yX3_forget yX3_forget ∈ wsL_law := inr_28 _ (List.mem_of_getElem? (i := 16) rfl)
theorem kw_28_17 : Cond.code yX3_forget cX3_forget 1 none ∈ wsL_law := inr_28 _ (List.mem_of_getElem? (i := 17) rfl)
theorem kw_28_18 : Cond.methodLink RL 127 yX5_clear ∈ wsL_law := inr_28 _ (List.mem_of_getElem? (i := 18) rfl)
theorem kw_28_19 : Cond.instanceMethod yX5_clear ∈ wsL_law := inr_28 _ (List.mem_of_getElem? (i := 19) rfl)
theorem kw_28_20 : Cond.selects RX5 yX5_clear yX5_clear ∈ wsL_law := inr_28 _ (List.mem_of_getElem? (i := 20) rfl)
theorem kw_28_21 : Cond.code yX5_clear cX5_clear 2 (some .int) ∈ wsL_law := inr_28 _ (List.mem_of_getElem? (i := 21) rfl)
end
section
theorem dJ6_compare_7cf53_0 : decode cJ6_compare_7cf53 0 = .ok (.iload_n 0, 1) := by decide +kernel
theorem dJ6_compare_7cf53_1 : decode cJ6_compare_7cf53 1 = .ok (.iload_n 1, 1) := by decide +kernel
theorem dJ6_compare_7cf53_2 : decode cJ6_compare_7cf53 2 = .ok (.if_icmp .ge 7, 3) := by decide +kernel
theorem dJ6_compare_7cf53_5 : decode cJ6_compare_7cf53 5 = .ok (.iconst (-1), 1) := by decide +kernel
theorem dJ6_compare_7cf53_6 : decode cJ6_compare_7cf53 6 = .ok (.goto 13, 3) := by decide +kernel
theorem dJ6_compare_7cf53_9 : decode cJ6_compare_7cf53 9 = .ok (.iload_n 0, 1) := by decide +kernel
theorem dJ6_compare_7cf53_10 : decode cJ6_compare_7cf53 10 = .ok (.iload_n 1, 1) := by decide +kernel
theorem dJ6_compare_7cf53_11 : decode cJ6_compare_7cf53 11 = .ok (.if_icmp .ne 7, 3) := by decide +kernel
theorem dJ6_compare_7cf53_14 : decode cJ6_compare_7cf53 14 = .ok (.iconst 0, 1) := by decide +kernel
theorem dJ6_compare_7cf53_15 : decode cJ6_compare_7cf53 15 = .ok (.goto 4, 3) := by decide +kernel
theorem dJ6_compare_7cf53_18 : decode cJ6_compare_7cf53 18 = .ok (.iconst 1, 1) := by decide +kernel
theorem dJ6_compare_7cf53_19 : decode cJ6_compare_7cf53 19 = .ok (.ireturn, 1) := by decide +kernel
theorem dJ13_compare_74951_0 : decode cJ13_compare_74951 0 = .ok (.lload_n 0, 1) := by decide +kernel
theorem dJ13_compare_74951_1 : decode cJ13_compare_74951 1 = .ok (.lload_n 2, 1) := by decide +kernel
theorem dJ13_compare_74951_2 : decode cJ13_compare_74951 2 = .ok (.lcmp, 1) := by decide +kernel
theorem dJ13_compare_74951_3 : decode cJ13_compare_74951 3 = .ok (.ifCond .ge 7, 3) := by decide +kernel
theorem dJ13_compare_74951_6 : decode cJ13_compare_74951 6 = .ok (.iconst (-1), 1) := by decide +kernel
theorem dJ13_compare_74951_7 : decode cJ13_compare_74951 7 = .ok (.goto 14, 3) := by decide +kernel
theorem dJ13_compare_74951_10 : decode cJ13_compare_74951 10 = .ok (.lload_n 0, 1) := by decide +kernel
theorem dJ13_compare_74951_11 : decode cJ13_compare_74951 11 = .ok (.lload_n 2, 1) := by decide +kernel
theorem dJ13_compare_74951_12 : decode cJ13_compare_74951 12 = .ok (.lcmp, 1) := by decide +kernel
theorem dJ13_compare_74951_13 : decode cJ13_compare_74951 13 = .ok (.ifCond .ne 7, 3) := by decide +kernel
theorem dJ13_compare_74951_16 : decode cJ13_compare_74951 16 = .ok (.iconst 0, 1) := by decide +kernel
theorem dJ13_compare_74951_17 : decode cJ13_compare_74951 17 = .ok (.goto 4, 3) := by decide +kernel
theorem dJ13_compare_74951_20 : decode cJ13_compare_74951 20 = .ok (.iconst 1, 1) := by decide +kernel
theorem dJ13_compare_74951_21 : decode cJ13_compare_74951 21 = .ok (.ireturn, 1) := by decide +kernel
theorem dJ9_max_7cf53_0 : decode cJ9_max_7cf53 0 = .ok (.iload_n 0, 1) := by decide +kernel
theorem dJ9_max_7cf53_1 : decode cJ9_max_7cf53 1 = .ok (.iload_n 1, 1) := by decide +kernel
theorem dJ9_max_7cf53_2 : decode cJ9_max_7cf53 2 = .ok (.if_icmp .lt 7, 3) := by decide +kernel
theorem dJ9_max_7cf53_5 : decode cJ9_max_7cf53 5 = .ok (.iload_n 0, 1) := by decide +kernel
theorem dJ9_max_7cf53_6 : decode cJ9_max_7cf53 6 = .ok (.goto 4, 3) := by decide +kernel
theorem dJ9_max_7cf53_9 : decode cJ9_max_7cf53 9 = .ok (.iload_n 1, 1) := by decide +kernel
theorem dJ9_max_7cf53_10 : decode cJ9_max_7cf53 10 = .ok (.ireturn, 1) := by decide +kernel
theorem dJ9_max_f86c9_0 : decode cJ9_max_f86c9 0 = .ok (.lload_n 0, 1) := by decide +kernel
theorem dJ9_max_f86c9_1 : decode cJ9_max_f86c9 1 = .ok (.lload_n 2, 1) := by decide +kernel
theorem dJ9_max_f86c9_2 : decode cJ9_max_f86c9 2 = .ok (.lcmp, 1) := by decide +kernel
theorem dJ9_max_f86c9_3 : decode cJ9_max_f86c9 3 = .ok (.ifCond .lt 7, 3) := by decide +kernel
theorem dJ9_max_f86c9_6 : decode cJ9_max_f86c9 6 = .ok (.lload_n 0, 1) := by decide +kernel
theorem dJ9_max_f86c9_7 : decode cJ9_max_f86c9 7 = .ok (.goto 4, 3) := by decide +kernel
theorem dJ9_max_f86c9_10 : decode cJ9_max_f86c9 10 = .ok (.lload_n 2, 1) := by decide +kernel
theorem dJ9_max_f86c9_11 : decode cJ9_max_f86c9 11 = .ok (.lreturn, 1) := by decide +kernel
theorem dJ9_min_7cf53_0 : decode cJ9_min_7cf53 0 = .ok (.iload_n 0, 1) := by decide +kernel
theorem dJ9_min_7cf53_1 : decode cJ9_min_7cf53 1 = .ok (.iload_n 1, 1) := by decide +kernel
theorem dJ9_min_7cf53_2 : decode cJ9_min_7cf53 2 = .ok (.if_icmp .gt 7, 3) := by decide +kernel
theorem dJ9_min_7cf53_5 : decode cJ9_min_7cf53 5 = .ok (.iload_n 0, 1) := by decide +kernel
theorem dJ9_min_7cf53_6 : decode cJ9_min_7cf53 6 = .ok (.goto 4, 3) := by decide +kernel
theorem dJ9_min_7cf53_9 : decode cJ9_min_7cf53 9 = .ok (.iload_n 1, 1) := by decide +kernel
theorem dJ9_min_7cf53_10 : decode cJ9_min_7cf53 10 = .ok (.ireturn, 1) := by decide +kernel
theorem dJ9_min_f86c9_0 : decode cJ9_min_f86c9 0 = .ok (.lload_n 0, 1) := by decide +kernel
theorem dJ9_min_f86c9_1 : decode cJ9_min_f86c9 1 = .ok (.lload_n 2, 1) := by decide +kernel
theorem dJ9_min_f86c9_2 : decode cJ9_min_f86c9 2 = .ok (.lcmp, 1) := by decide +kernel
theorem dJ9_min_f86c9_3 : decode cJ9_min_f86c9 3 = .ok (.ifCond .gt 7, 3) := by decide +kernel
theorem dJ9_min_f86c9_6 : decode cJ9_min_f86c9 6 = .ok (.lload_n 0, 1) := by decide +kernel
theorem dJ9_min_f86c9_7 : decode cJ9_min_f86c9 7 = .ok (.goto 4, 3) := by decide +kernel
theorem dJ9_min_f86c9_10 : decode cJ9_min_f86c9 10 = .ok (.lload_n 2, 1) := by decide +kernel
theorem dJ9_min_f86c9_11 : decode cJ9_min_f86c9 11 = .ok (.lreturn, 1) := by decide +kernel
theorem dJ7_copyOf_59c91_0 : decode cJ7_copyOf_59c91 0 = .ok (.iload_n 1, 1) := by decide +kernel
theorem dJ7_copyOf_59c91_1 : decode cJ7_copyOf_59c91 1 = .ok (.aload_n 0, 1) := by decide +kernel
theorem dJ7_copyOf_59c91_2 : decode cJ7_copyOf_59c91 2 = .ok (.arraylength, 1) := by decide +kernel
theorem dJ7_copyOf_59c91_3 : decode cJ7_copyOf_59c91 3 = .ok (.if_icmp .ne 11, 3) := by decide +kernel
theorem dJ7_copyOf_59c91_6 : decode cJ7_copyOf_59c91 6 = .ok (.aload_n 0, 1) := by decide +kernel
theorem dJ7_copyOf_59c91_7 : decode cJ7_copyOf_59c91 7 = .ok (.invokevirtual 316, 3) := by decide +kernel
theorem dJ7_copyOf_59c91_10 : decode cJ7_copyOf_59c91 10 = .ok (.checkcast 317, 3) := by decide +kernel
theorem dJ7_copyOf_59c91_13 : decode cJ7_copyOf_59c91 13 = .ok (.areturn, 1) := by decide +kernel
theorem dJ7_copyOf_59c91_14 : decode cJ7_copyOf_59c91 14 = .ok (.iload_n 1, 1) := by decide +kernel
theorem dJ7_copyOf_59c91_15 : decode cJ7_copyOf_59c91 15 = .ok (.newarray .int, 2) := by decide +kernel
theorem dJ7_copyOf_59c91_17 : decode cJ7_copyOf_59c91 17 = .ok (.astore_n 2, 1) := by decide +kernel
theorem dJ7_copyOf_59c91_18 : decode cJ7_copyOf_59c91 18 = .ok (.aload_n 0, 1) := by decide +kernel
theorem dJ7_copyOf_59c91_19 : decode cJ7_copyOf_59c91 19 = .ok (.iconst 0, 1) := by decide +kernel
theorem dJ7_copyOf_59c91_20 : decode cJ7_copyOf_59c91 20 = .ok (.aload_n 2, 1) := by decide +kernel
theorem dJ7_copyOf_59c91_21 : decode cJ7_copyOf_59c91 21 = .ok (.iconst 0, 1) := by decide +kernel
theorem dJ7_copyOf_59c91_22 : decode cJ7_copyOf_59c91 22 = .ok (.aload_n 0, 1) := by decide +kernel
theorem dJ7_copyOf_59c91_23 : decode cJ7_copyOf_59c91 23 = .ok (.arraylength, 1) := by decide +kernel
theorem dJ7_copyOf_59c91_24 : decode cJ7_copyOf_59c91 24 = .ok (.iload_n 1, 1) := by decide +kernel
theorem dJ7_copyOf_59c91_25 : decode cJ7_copyOf_59c91 25 = .ok (.invokestatic 304, 3) := by decide +kernel
theorem dJ7_copyOf_59c91_28 : decode cJ7_copyOf_59c91 28 = .ok (.invokestatic 150, 3) := by decide +kernel
theorem dJ7_copyOf_59c91_31 : decode cJ7_copyOf_59c91 31 = .ok (.aload_n 2, 1) := by decide +kernel
theorem dJ7_copyOf_59c91_32 : decode cJ7_copyOf_59c91 32 = .ok (.areturn, 1) := by decide +kernel
theorem dJ7_copyOf_c38d5_0 : decode cJ7_copyOf_c38d5 0 = .ok (.iload_n 1, 1) := by decide +kernel
theorem dJ7_copyOf_c38d5_1 : decode cJ7_copyOf_c38d5 1 = .ok (.aload_n 0, 1) := by decide +kernel
theorem dJ7_copyOf_c38d5_2 : decode cJ7_copyOf_c38d5 2 = .ok (.arraylength, 1) := by decide +kernel
theorem dJ7_copyOf_c38d5_3 : decode cJ7_copyOf_c38d5 3 = .ok (.if_icmp .ne 11, 3) := by decide +kernel
theorem dJ7_copyOf_c38d5_6 : decode cJ7_copyOf_c38d5 6 = .ok (.aload_n 0, 1) := by decide +kernel
theorem dJ7_copyOf_c38d5_7 : decode cJ7_copyOf_c38d5 7 = .ok (.invokevirtual 319, 3) := by decide +kernel
theorem dJ7_copyOf_c38d5_10 : decode cJ7_copyOf_c38d5 10 = .ok (.checkcast 320, 3) := by decide +kernel
theorem dJ7_copyOf_c38d5_13 : decode cJ7_copyOf_c38d5 13 = .ok (.areturn, 1) := by decide +kernel
theorem dJ7_copyOf_c38d5_14 : decode cJ7_copyOf_c38d5 14 = .ok (.iload_n 1, 1) := by decide +kernel
theorem dJ7_copyOf_c38d5_15 : decode cJ7_copyOf_c38d5 15 = .ok (.newarray .long, 2) := by decide +kernel
theorem dJ7_copyOf_c38d5_17 : decode cJ7_copyOf_c38d5 17 = .ok (.astore_n 2, 1) := by decide +kernel
theorem dJ7_copyOf_c38d5_18 : decode cJ7_copyOf_c38d5 18 = .ok (.aload_n 0, 1) := by decide +kernel
theorem dJ7_copyOf_c38d5_19 : decode cJ7_copyOf_c38d5 19 = .ok (.iconst 0, 1) := by decide +kernel
theorem dJ7_copyOf_c38d5_20 : decode cJ7_copyOf_c38d5 20 = .ok (.aload_n 2, 1) := by decide +kernel
theorem dJ7_copyOf_c38d5_21 : decode cJ7_copyOf_c38d5 21 = .ok (.iconst 0, 1) := by decide +kernel
theorem dJ7_copyOf_c38d5_22 : decode cJ7_copyOf_c38d5 22 = .ok (.aload_n 0, 1) := by decide +kernel
theorem dJ7_copyOf_c38d5_23 : decode cJ7_copyOf_c38d5 23 = .ok (.arraylength, 1) := by decide +kernel
theorem dJ7_copyOf_c38d5_24 : decode cJ7_copyOf_c38d5 24 = .ok (.iload_n 1, 1) := by decide +kernel
theorem dJ7_copyOf_c38d5_25 : decode cJ7_copyOf_c38d5 25 = .ok (.invokestatic 304, 3) := by decide +kernel
theorem dJ7_copyOf_c38d5_28 : decode cJ7_copyOf_c38d5 28 = .ok (.invokestatic 150, 3) := by decide +kernel
theorem dJ7_copyOf_c38d5_31 : decode cJ7_copyOf_c38d5 31 = .ok (.aload_n 2, 1) := by decide +kernel
theorem dJ7_copyOf_c38d5_32 : decode cJ7_copyOf_c38d5 32 = .ok (.areturn, 1) := by decide +kernel
end
section
theorem dL_law_0 : decode cL_law 0 = .ok (.new 7, 3) := by decide +kernel
theorem dL_law_3 : decode cL_law 3 = .ok (.dup, 1) := by decide +kernel
theorem dL_law_4 : decode cL_law 4 = .ok (.invokespecial 9, 3) := by decide +kernel
theorem dL_law_7 : decode cL_law 7 = .ok (.astore_n 1, 1) := by decide +kernel
theorem dL_law_8 : decode cL_law 8 = .ok (.new 10, 3) := by decide +kernel
theorem dL_law_11 : decode cL_law 11 = .ok (.dup, 1) := by decide +kernel
theorem dL_law_12 : decode cL_law 12 = .ok (.invokespecial 12, 3) := by decide +kernel
theorem dL_law_15 : decode cL_law 15 = .ok (.astore_n 2, 1) := by decide +kernel
theorem dL_law_16 : decode cL_law 16 = .ok (.iconst 0, 1) := by decide +kernel
theorem dL_law_17 : decode cL_law 17 = .ok (.istore_n 3, 1) := by decide +kernel
theorem dL_law_18 : decode cL_law 18 = .ok (.iload_n 3, 1) := by decide +kernel
theorem dL_law_19 : decode cL_law 19 = .ok (.aload_n 0, 1) := by decide +kernel
theorem dL_law_20 : decode cL_law 20 = .ok (.arraylength, 1) := by decide +kernel
theorem dL_law_21 : decode cL_law 21 = .ok (.bipush 7, 2) := by decide +kernel
theorem dL_law_23 : decode cL_law 23 = .ok (.isub, 1) := by decide +kernel
theorem dL_law_24 : decode cL_law 24 = .ok (.if_icmp .gt 1027, 3) := by decide +kernel
theorem dL_law_27 : decode cL_law 27 = .ok (.aload_n 0, 1) := by decide +kernel
theorem dL_law_28 : decode cL_law 28 = .ok (.iload_n 3, 1) := by decide +kernel
theorem dL_law_29 : decode cL_law 29 = .ok (.iaload, 1) := by decide +kernel
theorem dL_law_30 : decode cL_law 30 = .ok (.bipush 31, 2) := by decide +kernel
theorem dL_law_32 : decode cL_law 32 = .ok (.iand, 1) := by decide +kernel
theorem dL_law_33 : decode cL_law 33 = .ok (.tableswitch 1012 0 25 #[119, 132, 145, 178, 191, 214, 247, 270, 293, 316, 339, 362, 405, 438, 491, 545, 640, 693, 776, 809, 852, 876, 900, 933, 966, 999], 119) := by decide +kernel
theorem dL_law_152 : decode cL_law 152 = .ok (.aload_n 1, 1) := by decide +kernel
theorem dL_law_153 : decode cL_law 153 = .ok (.invokevirtual 13, 3) := by decide +kernel
theorem dL_law_156 : decode cL_law 156 = .ok (.aload_n 2, 1) := by decide +kernel
theorem dL_law_157 : decode cL_law 157 = .ok (.invokevirtual 17, 3) := by decide +kernel
theorem dL_law_160 : decode cL_law 160 = .ok (.if_icmp .eq 885, 3) := by decide +kernel
theorem dL_law_163 : decode cL_law 163 = .ok (.iconst 0, 1) := by decide +kernel
theorem dL_law_164 : decode cL_law 164 = .ok (.ireturn, 1) := by decide +kernel
theorem dL_law_165 : decode cL_law 165 = .ok (.aload_n 1, 1) := by decide +kernel
theorem dL_law_166 : decode cL_law 166 = .ok (.invokevirtual 18, 3) := by decide +kernel
theorem dL_law_169 : decode cL_law 169 = .ok (.aload_n 2, 1) := by decide +kernel
theorem dL_law_170 : decode cL_law 170 = .ok (.invokevirtual 21, 3) := by decide +kernel
theorem dL_law_173 : decode cL_law 173 = .ok (.if_icmp .eq 872, 3) := by decide +kernel
theorem dL_law_176 : decode cL_law 176 = .ok (.iconst 0, 1) := by decide +kernel
theorem dL_law_177 : decode cL_law 177 = .ok (.ireturn, 1) := by decide +kernel
theorem dL_law_178 : decode cL_law 178 = .ok (.aload_n 1, 1) := by decide +kernel
theorem dL_law_179 : decode cL_law 179 = .ok (.aload_n 0, 1) := by decide +kernel
theorem dL_law_180 : decode cL_law 180 = .ok (.iload_n 3, 1) := by decide +kernel
theorem dL_law_181 : decode cL_law 181 = .ok (.iconst 1, 1) := by decide +kernel
theorem dL_law_182 : decode cL_law 182 = .ok (.iadd, 1) := by decide +kernel
theorem dL_law_183 : decode cL_law 183 = .ok (.iaload, 1) := by decide +kernel
theorem dL_law_184 : decode cL_law 184 = .ok (.aload_n 0, 1) := by decide +kernel
theorem dL_law_185 : decode cL_law 185 = .ok (.iload_n 3, 1) := by decide +kernel
theorem dL_law_186 : decode cL_law 186 = .ok (.iconst 2, 1) := by decide +kernel
theorem dL_law_187 : decode cL_law 187 = .ok (.iadd, 1) := by decide +kernel
theorem dL_law_188 : decode cL_law 188 = .ok (.iaload, 1) := by decide +kernel
theorem dL_law_189 : decode cL_law 189 = .ok (.invokevirtual 22, 3) := by decide +kernel
theorem dL_law_192 : decode cL_law 192 = .ok (.aload_n 2, 1) := by decide +kernel
theorem dL_law_193 : decode cL_law 193 = .ok (.aload_n 0, 1) := by decide +kernel
theorem dL_law_194 : decode cL_law 194 = .ok (.iload_n 3, 1) := by decide +kernel
theorem dL_law_195 : decode cL_law 195 = .ok (.iconst 1, 1) := by decide +kernel
theorem dL_law_196 : decode cL_law 196 = .ok (.iadd, 1) := by decide +kernel
theorem dL_law_197 : decode cL_law 197 = .ok (.iaload, 1) := by decide +kernel
theorem dL_law_198 : decode cL_law 198 = .ok (.aload_n 0, 1) := by decide +kernel
theorem dL_law_199 : decode cL_law 199 = .ok (.iload_n 3, 1) := by decide +kernel
theorem dL_law_200 : decode cL_law 200 = .ok (.iconst 2, 1) := by decide +kernel
theorem dL_law_201 : decode cL_law 201 = .ok (.iadd, 1) := by decide +kernel
theorem dL_law_202 : decode cL_law 202 = .ok (.iaload, 1) := by decide +kernel
theorem dL_law_203 : decode cL_law 203 = .ok (.invokevirtual 26, 3) := by decide +kernel
theorem dL_law_206 : decode cL_law 206 = .ok (.if_icmp .eq 839, 3) := by decide +kernel
theorem dL_law_209 : decode cL_law 209 = .ok (.iconst 0, 1) := by decide +kernel
theorem dL_law_210 : decode cL_law 210 = .ok (.ireturn, 1) := by decide +kernel
theorem dL_law_211 : decode cL_law 211 = .ok (.aload_n 1, 1) := by decide +kernel
theorem dL_law_212 : decode cL_law 212 = .ok (.invokevirtual 27, 3) := by decide +kernel
theorem dL_law_215 : decode cL_law 215 = .ok (.aload_n 2, 1) := by decide +kernel
theorem dL_law_216 : decode cL_law 216 = .ok (.invokevirtual 30, 3) := by decide +kernel
theorem dL_law_219 : decode cL_law 219 = .ok (.if_icmp .eq 826, 3) := by decide +kernel
theorem dL_law_222 : decode cL_law 222 = .ok (.iconst 0, 1) := by decide +kernel
theorem dL_law_223 : decode cL_law 223 = .ok (.ireturn, 1) := by decide +kernel
theorem dL_law_224 : decode cL_law 224 = .ok (.aload_n 1, 1) := by decide +kernel
theorem dL_law_225 : decode cL_law 225 = .ok (.aload_n 0, 1) := by decide +kernel
theorem dL_law_226 : decode cL_law 226 = .ok (.iload_n 3, 1) := by decide +kernel
theorem dL_law_227 : decode cL_law 227 = .ok (.iconst 1, 1) := by decide +kernel
theorem dL_law_228 : decode cL_law 228 = .ok (.iadd, 1) := by decide +kernel
theorem dL_law_229 : decode cL_law 229 = .ok (.iaload, 1) := by decide +kernel
theorem dL_law_230 : decode cL_law 230 = .ok (.invokevirtual 31, 3) := by decide +kernel
theorem dL_law_233 : decode cL_law 233 = .ok (.aload_n 2, 1) := by decide +kernel
theorem dL_law_234 : decode cL_law 234 = .ok (.aload_n 0, 1) := by decide +kernel
theorem dL_law_235 : decode cL_law 235 = .ok (.iload_n 3, 1) := by decide +kernel
theorem dL_law_236 : decode cL_law 236 = .ok (.iconst 1, 1) := by decide +kernel
theorem dL_law_237 : decode cL_law 237 = .ok (.iadd, 1) := by decide +kernel
theorem dL_law_238 : decode cL_law 238 = .ok (.iaload, 1) := by decide +kernel
theorem dL_law_239 : decode cL_law 239 = .ok (.invokevirtual 35, 3) := by decide +kernel
theorem dL_law_242 : decode cL_law 242 = .ok (.if_icmp .eq 803, 3) := by decide +kernel
theorem dL_law_245 : decode cL_law 245 = .ok (.iconst 0, 1) := by decide +kernel
theorem dL_law_246 : decode cL_law 246 = .ok (.ireturn, 1) := by decide +kernel
theorem dL_law_247 : decode cL_law 247 = .ok (.aload_n 1, 1) := by decide +kernel
theorem dL_law_248 : decode cL_law 248 = .ok (.aload_n 0, 1) := by decide +kernel
theorem dL_law_249 : decode cL_law 249 = .ok (.iload_n 3, 1) := by decide +kernel
theorem dL_law_250 : decode cL_law 250 = .ok (.iconst 1, 1) := by decide +kernel
theorem dL_law_251 : decode cL_law 251 = .ok (.iadd, 1) := by decide +kernel
theorem dL_law_252 : decode cL_law 252 = .ok (.iaload, 1) := by decide +kernel
theorem dL_law_253 : decode cL_law 253 = .ok (.aload_n 0, 1) := by decide +kernel
theorem dL_law_254 : decode cL_law 254 = .ok (.iload_n 3, 1) := by decide +kernel
theorem dL_law_255 : decode cL_law 255 = .ok (.iconst 2, 1) := by decide +kernel
theorem dL_law_256 : decode cL_law 256 = .ok (.iadd, 1) := by decide +kernel
theorem dL_law_257 : decode cL_law 257 = .ok (.iaload, 1) := by decide +kernel
theorem dL_law_258 : decode cL_law 258 = .ok (.invokevirtual 36, 3) := by decide +kernel
theorem dL_law_261 : decode cL_law 261 = .ok (.aload_n 2, 1) := by decide +kernel
theorem dL_law_262 : decode cL_law 262 = .ok (.aload_n 0, 1) := by decide +kernel
theorem dL_law_263 : decode cL_law 263 = .ok (.iload_n 3, 1) := by decide +kernel
theorem dL_law_264 : decode cL_law 264 = .ok (.iconst 1, 1) := by decide +kernel
theorem dL_law_265 : decode cL_law 265 = .ok (.iadd, 1) := by decide +kernel
theorem dL_law_266 : decode cL_law 266 = .ok (.iaload, 1) := by decide +kernel
theorem dL_law_267 : decode cL_law 267 = .ok (.aload_n 0, 1) := by decide +kernel
theorem dL_law_268 : decode cL_law 268 = .ok (.iload_n 3, 1) := by decide +kernel
theorem dL_law_269 : decode cL_law 269 = .ok (.iconst 2, 1) := by decide +kernel
theorem dL_law_270 : decode cL_law 270 = .ok (.iadd, 1) := by decide +kernel
theorem dL_law_271 : decode cL_law 271 = .ok (.iaload, 1) := by decide +kernel
theorem dL_law_272 : decode cL_law 272 = .ok (.invokevirtual 39, 3) := by decide +kernel
theorem dL_law_275 : decode cL_law 275 = .ok (.if_icmp .eq 770, 3) := by decide +kernel
theorem dL_law_278 : decode cL_law 278 = .ok (.iconst 0, 1) := by decide +kernel
theorem dL_law_279 : decode cL_law 279 = .ok (.ireturn, 1) := by decide +kernel
theorem dL_law_280 : decode cL_law 280 = .ok (.aload_n 1, 1) := by decide +kernel
theorem dL_law_281 : decode cL_law 281 = .ok (.aload_n 0, 1) := by decide +kernel
theorem dL_law_282 : decode cL_law 282 = .ok (.iload_n 3, 1) := by decide +kernel
theorem dL_law_283 : decode cL_law 283 = .ok (.iconst 1, 1) := by decide +kernel
theorem dL_law_284 : decode cL_law 284 = .ok (.iadd, 1) := by decide +kernel
theorem dL_law_285 : decode cL_law 285 = .ok (.iaload, 1) := by decide +kernel
theorem dL_law_286 : decode cL_law 286 = .ok (.invokevirtual 40, 3) := by decide +kernel
theorem dL_law_289 : decode cL_law 289 = .ok (.aload_n 2, 1) := by decide +kernel
theorem dL_law_290 : decode cL_law 290 = .ok (.aload_n 0, 1) := by decide +kernel
theorem dL_law_291 : decode cL_law 291 = .ok (.iload_n 3, 1) := by decide +kernel
theorem dL_law_292 : decode cL_law 292 = .ok (.iconst 1, 1) := by decide +kernel
theorem dL_law_293 : decode cL_law 293 = .ok (.iadd, 1) := by decide +kernel
theorem dL_law_294 : decode cL_law 294 = .ok (.iaload, 1) := by decide +kernel
theorem dL_law_295 : decode cL_law 295 = .ok (.invokevirtual 43, 3) := by decide +kernel
theorem dL_law_298 : decode cL_law 298 = .ok (.if_icmp .eq 747, 3) := by decide +kernel
theorem dL_law_301 : decode cL_law 301 = .ok (.iconst 0, 1) := by decide +kernel
theorem dL_law_302 : decode cL_law 302 = .ok (.ireturn, 1) := by decide +kernel
theorem dL_law_303 : decode cL_law 303 = .ok (.aload_n 1, 1) := by decide +kernel
theorem dL_law_304 : decode cL_law 304 = .ok (.aload_n 0, 1) := by decide +kernel
theorem dL_law_305 : decode cL_law 305 = .ok (.iload_n 3, 1) := by decide +kernel
theorem dL_law_306 : decode cL_law 306 = .ok (.iconst 1, 1) := by decide +kernel
theorem dL_law_307 : decode cL_law 307 = .ok (.iadd, 1) := by decide +kernel
theorem dL_law_308 : decode cL_law 308 = .ok (.iaload, 1) := by decide +kernel
theorem dL_law_309 : decode cL_law 309 = .ok (.invokevirtual 44, 3) := by decide +kernel
theorem dL_law_312 : decode cL_law 312 = .ok (.aload_n 2, 1) := by decide +kernel
theorem dL_law_313 : decode cL_law 313 = .ok (.aload_n 0, 1) := by decide +kernel
theorem dL_law_314 : decode cL_law 314 = .ok (.iload_n 3, 1) := by decide +kernel
theorem dL_law_315 : decode cL_law 315 = .ok (.iconst 1, 1) := by decide +kernel
theorem dL_law_316 : decode cL_law 316 = .ok (.iadd, 1) := by decide +kernel
theorem dL_law_317 : decode cL_law 317 = .ok (.iaload, 1) := by decide +kernel
theorem dL_law_318 : decode cL_law 318 = .ok (.invokevirtual 47, 3) := by decide +kernel
theorem dL_law_321 : decode cL_law 321 = .ok (.if_icmp .eq 724, 3) := by decide +kernel
theorem dL_law_324 : decode cL_law 324 = .ok (.iconst 0, 1) := by decide +kernel
theorem dL_law_325 : decode cL_law 325 = .ok (.ireturn, 1) := by decide +kernel
theorem dL_law_326 : decode cL_law 326 = .ok (.aload_n 1, 1) := by decide +kernel
theorem dL_law_327 : decode cL_law 327 = .ok (.aload_n 0, 1) := by decide +kernel
theorem dL_law_328 : decode cL_law 328 = .ok (.iload_n 3, 1) := by decide +kernel
theorem dL_law_329 : decode cL_law 329 = .ok (.iconst 1, 1) := by decide +kernel
theorem dL_law_330 : decode cL_law 330 = .ok (.iadd, 1) := by decide +kernel
theorem dL_law_331 : decode cL_law 331 = .ok (.iaload, 1) := by decide +kernel
theorem dL_law_332 : decode cL_law 332 = .ok (.invokevirtual 48, 3) := by decide +kernel
theorem dL_law_335 : decode cL_law 335 = .ok (.aload_n 2, 1) := by decide +kernel
theorem dL_law_336 : decode cL_law 336 = .ok (.aload_n 0, 1) := by decide +kernel
theorem dL_law_337 : decode cL_law 337 = .ok (.iload_n 3, 1) := by decide +kernel
theorem dL_law_338 : decode cL_law 338 = .ok (.iconst 1, 1) := by decide +kernel
theorem dL_law_339 : decode cL_law 339 = .ok (.iadd, 1) := by decide +kernel
theorem dL_law_340 : decode cL_law 340 = .ok (.iaload, 1) := by decide +kernel
theorem dL_law_341 : decode cL_law 341 = .ok (.invokevirtual 51, 3) := by decide +kernel
theorem dL_law_344 : decode cL_law 344 = .ok (.if_icmp .eq 701, 3) := by decide +kernel
theorem dL_law_347 : decode cL_law 347 = .ok (.iconst 0, 1) := by decide +kernel
theorem dL_law_348 : decode cL_law 348 = .ok (.ireturn, 1) := by decide +kernel
theorem dL_law_349 : decode cL_law 349 = .ok (.aload_n 1, 1) := by decide +kernel
theorem dL_law_350 : decode cL_law 350 = .ok (.aload_n 0, 1) := by decide +kernel
theorem dL_law_351 : decode cL_law 351 = .ok (.iload_n 3, 1) := by decide +kernel
theorem dL_law_352 : decode cL_law 352 = .ok (.iconst 1, 1) := by decide +kernel
theorem dL_law_353 : decode cL_law 353 = .ok (.iadd, 1) := by decide +kernel
theorem dL_law_354 : decode cL_law 354 = .ok (.iaload, 1) := by decide +kernel
theorem dL_law_355 : decode cL_law 355 = .ok (.invokevirtual 52, 3) := by decide +kernel
theorem dL_law_358 : decode cL_law 358 = .ok (.aload_n 2, 1) := by decide +kernel
theorem dL_law_359 : decode cL_law 359 = .ok (.aload_n 0, 1) := by decide +kernel
theorem dL_law_360 : decode cL_law 360 = .ok (.iload_n 3, 1) := by decide +kernel
theorem dL_law_361 : decode cL_law 361 = .ok (.iconst 1, 1) := by decide +kernel
theorem dL_law_362 : decode cL_law 362 = .ok (.iadd, 1) := by decide +kernel
theorem dL_law_363 : decode cL_law 363 = .ok (.iaload, 1) := by decide +kernel
theorem dL_law_364 : decode cL_law 364 = .ok (.invokevirtual 55, 3) := by decide +kernel
theorem dL_law_367 : decode cL_law 367 = .ok (.if_icmp .eq 678, 3) := by decide +kernel
theorem dL_law_370 : decode cL_law 370 = .ok (.iconst 0, 1) := by decide +kernel
theorem dL_law_371 : decode cL_law 371 = .ok (.ireturn, 1) := by decide +kernel
theorem dL_law_372 : decode cL_law 372 = .ok (.aload_n 1, 1) := by decide +kernel
theorem dL_law_373 : decode cL_law 373 = .ok (.aload_n 0, 1) := by decide +kernel
theorem dL_law_374 : decode cL_law 374 = .ok (.iload_n 3, 1) := by decide +kernel
theorem dL_law_375 : decode cL_law 375 = .ok (.iconst 1, 1) := by decide +kernel
theorem dL_law_376 : decode cL_law 376 = .ok (.iadd, 1) := by decide +kernel
theorem dL_law_377 : decode cL_law 377 = .ok (.iaload, 1) := by decide +kernel
theorem dL_law_378 : decode cL_law 378 = .ok (.invokevirtual 56, 3) := by decide +kernel
theorem dL_law_381 : decode cL_law 381 = .ok (.aload_n 2, 1) := by decide +kernel
theorem dL_law_382 : decode cL_law 382 = .ok (.aload_n 0, 1) := by decide +kernel
theorem dL_law_383 : decode cL_law 383 = .ok (.iload_n 3, 1) := by decide +kernel
theorem dL_law_384 : decode cL_law 384 = .ok (.iconst 1, 1) := by decide +kernel
theorem dL_law_385 : decode cL_law 385 = .ok (.iadd, 1) := by decide +kernel
theorem dL_law_386 : decode cL_law 386 = .ok (.iaload, 1) := by decide +kernel
theorem dL_law_387 : decode cL_law 387 = .ok (.invokevirtual 59, 3) := by decide +kernel
theorem dL_law_390 : decode cL_law 390 = .ok (.if_icmp .eq 655, 3) := by decide +kernel
theorem dL_law_393 : decode cL_law 393 = .ok (.iconst 0, 1) := by decide +kernel
theorem dL_law_394 : decode cL_law 394 = .ok (.ireturn, 1) := by decide +kernel
theorem dL_law_395 : decode cL_law 395 = .ok (.aload_n 1, 1) := by decide +kernel
theorem dL_law_396 : decode cL_law 396 = .ok (.aload_n 0, 1) := by decide +kernel
theorem dL_law_397 : decode cL_law 397 = .ok (.iload_n 3, 1) := by decide +kernel
theorem dL_law_398 : decode cL_law 398 = .ok (.iconst 1, 1) := by decide +kernel
theorem dL_law_399 : decode cL_law 399 = .ok (.iadd, 1) := by decide +kernel
theorem dL_law_400 : decode cL_law 400 = .ok (.iaload, 1) := by decide +kernel
theorem dL_law_401 : decode cL_law 401 = .ok (.aload_n 0, 1) := by decide +kernel
theorem dL_law_402 : decode cL_law 402 = .ok (.iload_n 3, 1) := by decide +kernel
theorem dL_law_403 : decode cL_law 403 = .ok (.iconst 2, 1) := by decide +kernel
theorem dL_law_404 : decode cL_law 404 = .ok (.iadd, 1) := by decide +kernel
theorem dL_law_405 : decode cL_law 405 = .ok (.iaload, 1) := by decide +kernel
theorem dL_law_406 : decode cL_law 406 = .ok (.aload_n 0, 1) := by decide +kernel
theorem dL_law_407 : decode cL_law 407 = .ok (.iload_n 3, 1) := by decide +kernel
theorem dL_law_408 : decode cL_law 408 = .ok (.iconst 3, 1) := by decide +kernel
theorem dL_law_409 : decode cL_law 409 = .ok (.iadd, 1) := by decide +kernel
theorem dL_law_410 : decode cL_law 410 = .ok (.iaload, 1) := by decide +kernel
theorem dL_law_411 : decode cL_law 411 = .ok (.invokevirtual 60, 3) := by decide +kernel
theorem dL_law_414 : decode cL_law 414 = .ok (.aload_n 2, 1) := by decide +kernel
theorem dL_law_415 : decode cL_law 415 = .ok (.aload_n 0, 1) := by decide +kernel
theorem dL_law_416 : decode cL_law 416 = .ok (.iload_n 3, 1) := by decide +kernel
theorem dL_law_417 : decode cL_law 417 = .ok (.iconst 1, 1) := by decide +kernel
theorem dL_law_418 : decode cL_law 418 = .ok (.iadd, 1) := by decide +kernel
theorem dL_law_419 : decode cL_law 419 = .ok (.iaload, 1) := by decide +kernel
theorem dL_law_420 : decode cL_law 420 = .ok (.aload_n 0, 1) := by decide +kernel
theorem dL_law_421 : decode cL_law 421 = .ok (.iload_n 3, 1) := by decide +kernel
theorem dL_law_422 : decode cL_law 422 = .ok (.iconst 2, 1) := by decide +kernel
theorem dL_law_423 : decode cL_law 423 = .ok (.iadd, 1) := by decide +kernel
theorem dL_law_424 : decode cL_law 424 = .ok (.iaload, 1) := by decide +kernel
theorem dL_law_425 : decode cL_law 425 = .ok (.aload_n 0, 1) := by decide +kernel
theorem dL_law_426 : decode cL_law 426 = .ok (.iload_n 3, 1) := by decide +kernel
theorem dL_law_427 : decode cL_law 427 = .ok (.iconst 3, 1) := by decide +kernel
theorem dL_law_428 : decode cL_law 428 = .ok (.iadd, 1) := by decide +kernel
theorem dL_law_429 : decode cL_law 429 = .ok (.iaload, 1) := by decide +kernel
theorem dL_law_430 : decode cL_law 430 = .ok (.invokevirtual 64, 3) := by decide +kernel
theorem dL_law_433 : decode cL_law 433 = .ok (.if_icmp .eq 612, 3) := by decide +kernel
theorem dL_law_436 : decode cL_law 436 = .ok (.iconst 0, 1) := by decide +kernel
theorem dL_law_437 : decode cL_law 437 = .ok (.ireturn, 1) := by decide +kernel
theorem dL_law_438 : decode cL_law 438 = .ok (.aload_n 1, 1) := by decide +kernel
theorem dL_law_439 : decode cL_law 439 = .ok (.aload_n 0, 1) := by decide +kernel
theorem dL_law_440 : decode cL_law 440 = .ok (.iload_n 3, 1) := by decide +kernel
theorem dL_law_441 : decode cL_law 441 = .ok (.iconst 1, 1) := by decide +kernel
theorem dL_law_442 : decode cL_law 442 = .ok (.iadd, 1) := by decide +kernel
theorem dL_law_443 : decode cL_law 443 = .ok (.iaload, 1) := by decide +kernel
theorem dL_law_444 : decode cL_law 444 = .ok (.aload_n 0, 1) := by decide +kernel
theorem dL_law_445 : decode cL_law 445 = .ok (.iload_n 3, 1) := by decide +kernel
theorem dL_law_446 : decode cL_law 446 = .ok (.iconst 2, 1) := by decide +kernel
theorem dL_law_447 : decode cL_law 447 = .ok (.iadd, 1) := by decide +kernel
theorem dL_law_448 : decode cL_law 448 = .ok (.iaload, 1) := by decide +kernel
theorem dL_law_449 : decode cL_law 449 = .ok (.invokevirtual 65, 3) := by decide +kernel
theorem dL_law_452 : decode cL_law 452 = .ok (.aload_n 2, 1) := by decide +kernel
theorem dL_law_453 : decode cL_law 453 = .ok (.aload_n 0, 1) := by decide +kernel
theorem dL_law_454 : decode cL_law 454 = .ok (.iload_n 3, 1) := by decide +kernel
theorem dL_law_455 : decode cL_law 455 = .ok (.iconst 1, 1) := by decide +kernel
theorem dL_law_456 : decode cL_law 456 = .ok (.iadd, 1) := by decide +kernel
theorem dL_law_457 : decode cL_law 457 = .ok (.iaload, 1) := by decide +kernel
theorem dL_law_458 : decode cL_law 458 = .ok (.aload_n 0, 1) := by decide +kernel
theorem dL_law_459 : decode cL_law 459 = .ok (.iload_n 3, 1) := by decide +kernel
theorem dL_law_460 : decode cL_law 460 = .ok (.iconst 2, 1) := by decide +kernel
theorem dL_law_461 : decode cL_law 461 = .ok (.iadd, 1) := by decide +kernel
theorem dL_law_462 : decode cL_law 462 = .ok (.iaload, 1) := by decide +kernel
theorem dL_law_463 : decode cL_law 463 = .ok (.invokevirtual 68, 3) := by decide +kernel
theorem dL_law_466 : decode cL_law 466 = .ok (.if_icmp .eq 579, 3) := by decide +kernel
theorem dL_law_469 : decode cL_law 469 = .ok (.iconst 0, 1) := by decide +kernel
theorem dL_law_470 : decode cL_law 470 = .ok (.ireturn, 1) := by decide +kernel
theorem dL_law_471 : decode cL_law 471 = .ok (.aload_n 1, 1) := by decide +kernel
theorem dL_law_472 : decode cL_law 472 = .ok (.aload_n 0, 1) := by decide +kernel
theorem dL_law_473 : decode cL_law 473 = .ok (.iload_n 3, 1) := by decide +kernel
theorem dL_law_474 : decode cL_law 474 = .ok (.iconst 1, 1) := by decide +kernel
theorem dL_law_475 : decode cL_law 475 = .ok (.iadd, 1) := by decide +kernel
theorem dL_law_476 : decode cL_law 476 = .ok (.iaload, 1) := by decide +kernel
theorem dL_law_477 : decode cL_law 477 = .ok (.aload_n 0, 1) := by decide +kernel
theorem dL_law_478 : decode cL_law 478 = .ok (.iload_n 3, 1) := by decide +kernel
theorem dL_law_479 : decode cL_law 479 = .ok (.iconst 2, 1) := by decide +kernel
theorem dL_law_480 : decode cL_law 480 = .ok (.iadd, 1) := by decide +kernel
theorem dL_law_481 : decode cL_law 481 = .ok (.iaload, 1) := by decide +kernel
theorem dL_law_482 : decode cL_law 482 = .ok (.aload_n 0, 1) := by decide +kernel
theorem dL_law_483 : decode cL_law 483 = .ok (.iload_n 3, 1) := by decide +kernel
theorem dL_law_484 : decode cL_law 484 = .ok (.iconst 3, 1) := by decide +kernel
theorem dL_law_485 : decode cL_law 485 = .ok (.iadd, 1) := by decide +kernel
theorem dL_law_486 : decode cL_law 486 = .ok (.iaload, 1) := by decide +kernel
theorem dL_law_487 : decode cL_law 487 = .ok (.aload_n 0, 1) := by decide +kernel
theorem dL_law_488 : decode cL_law 488 = .ok (.iload_n 3, 1) := by decide +kernel
theorem dL_law_489 : decode cL_law 489 = .ok (.iconst 4, 1) := by decide +kernel
theorem dL_law_490 : decode cL_law 490 = .ok (.iadd, 1) := by decide +kernel
theorem dL_law_491 : decode cL_law 491 = .ok (.iaload, 1) := by decide +kernel
theorem dL_law_492 : decode cL_law 492 = .ok (.invokevirtual 69, 3) := by decide +kernel
theorem dL_law_495 : decode cL_law 495 = .ok (.aload_n 2, 1) := by decide +kernel
theorem dL_law_496 : decode cL_law 496 = .ok (.aload_n 0, 1) := by decide +kernel
theorem dL_law_497 : decode cL_law 497 = .ok (.iload_n 3, 1) := by decide +kernel
theorem dL_law_498 : decode cL_law 498 = .ok (.iconst 1, 1) := by decide +kernel
theorem dL_law_499 : decode cL_law 499 = .ok (.iadd, 1) := by decide +kernel
theorem dL_law_500 : decode cL_law 500 = .ok (.iaload, 1) := by decide +kernel
theorem dL_law_501 : decode cL_law 501 = .ok (.aload_n 0, 1) := by decide +kernel
theorem dL_law_502 : decode cL_law 502 = .ok (.iload_n 3, 1) := by decide +kernel
theorem dL_law_503 : decode cL_law 503 = .ok (.iconst 2, 1) := by decide +kernel
theorem dL_law_504 : decode cL_law 504 = .ok (.iadd, 1) := by decide +kernel
theorem dL_law_505 : decode cL_law 505 = .ok (.iaload, 1) := by decide +kernel
theorem dL_law_506 : decode cL_law 506 = .ok (.aload_n 0, 1) := by decide +kernel
theorem dL_law_507 : decode cL_law 507 = .ok (.iload_n 3, 1) := by decide +kernel
theorem dL_law_508 : decode cL_law 508 = .ok (.iconst 3, 1) := by decide +kernel
theorem dL_law_509 : decode cL_law 509 = .ok (.iadd, 1) := by decide +kernel
theorem dL_law_510 : decode cL_law 510 = .ok (.iaload, 1) := by decide +kernel
theorem dL_law_511 : decode cL_law 511 = .ok (.aload_n 0, 1) := by decide +kernel
theorem dL_law_512 : decode cL_law 512 = .ok (.iload_n 3, 1) := by decide +kernel
theorem dL_law_513 : decode cL_law 513 = .ok (.iconst 4, 1) := by decide +kernel
theorem dL_law_514 : decode cL_law 514 = .ok (.iadd, 1) := by decide +kernel
theorem dL_law_515 : decode cL_law 515 = .ok (.iaload, 1) := by decide +kernel
theorem dL_law_516 : decode cL_law 516 = .ok (.invokevirtual 73, 3) := by decide +kernel
theorem dL_law_519 : decode cL_law 519 = .ok (.if_icmp .eq 526, 3) := by decide +kernel
theorem dL_law_522 : decode cL_law 522 = .ok (.iconst 0, 1) := by decide +kernel
theorem dL_law_523 : decode cL_law 523 = .ok (.ireturn, 1) := by decide +kernel
theorem dL_law_524 : decode cL_law 524 = .ok (.aload_n 1, 1) := by decide +kernel
theorem dL_law_525 : decode cL_law 525 = .ok (.aload_n 0, 1) := by decide +kernel
theorem dL_law_526 : decode cL_law 526 = .ok (.iload_n 3, 1) := by decide +kernel
theorem dL_law_527 : decode cL_law 527 = .ok (.iconst 1, 1) := by decide +kernel
theorem dL_law_528 : decode cL_law 528 = .ok (.iadd, 1) := by decide +kernel
theorem dL_law_529 : decode cL_law 529 = .ok (.iaload, 1) := by decide +kernel
theorem dL_law_530 : decode cL_law 530 = .ok (.aload_n 0, 1) := by decide +kernel
theorem dL_law_531 : decode cL_law 531 = .ok (.iload_n 3, 1) := by decide +kernel
theorem dL_law_532 : decode cL_law 532 = .ok (.iconst 2, 1) := by decide +kernel
theorem dL_law_533 : decode cL_law 533 = .ok (.iadd, 1) := by decide +kernel
theorem dL_law_534 : decode cL_law 534 = .ok (.iaload, 1) := by decide +kernel
theorem dL_law_535 : decode cL_law 535 = .ok (.aload_n 0, 1) := by decide +kernel
theorem dL_law_536 : decode cL_law 536 = .ok (.iload_n 3, 1) := by decide +kernel
theorem dL_law_537 : decode cL_law 537 = .ok (.iconst 3, 1) := by decide +kernel
theorem dL_law_538 : decode cL_law 538 = .ok (.iadd, 1) := by decide +kernel
theorem dL_law_539 : decode cL_law 539 = .ok (.iaload, 1) := by decide +kernel
theorem dL_law_540 : decode cL_law 540 = .ok (.aload_n 0, 1) := by decide +kernel
theorem dL_law_541 : decode cL_law 541 = .ok (.iload_n 3, 1) := by decide +kernel
theorem dL_law_542 : decode cL_law 542 = .ok (.iconst 4, 1) := by decide +kernel
theorem dL_law_543 : decode cL_law 543 = .ok (.iadd, 1) := by decide +kernel
theorem dL_law_544 : decode cL_law 544 = .ok (.iaload, 1) := by decide +kernel
theorem dL_law_545 : decode cL_law 545 = .ok (.invokevirtual 74, 3) := by decide +kernel
theorem dL_law_548 : decode cL_law 548 = .ok (.aload_n 2, 1) := by decide +kernel
theorem dL_law_549 : decode cL_law 549 = .ok (.aload_n 0, 1) := by decide +kernel
theorem dL_law_550 : decode cL_law 550 = .ok (.iload_n 3, 1) := by decide +kernel
theorem dL_law_551 : decode cL_law 551 = .ok (.iconst 1, 1) := by decide +kernel
theorem dL_law_552 : decode cL_law 552 = .ok (.iadd, 1) := by decide +kernel
theorem dL_law_553 : decode cL_law 553 = .ok (.iaload, 1) := by decide +kernel
theorem dL_law_554 : decode cL_law 554 = .ok (.aload_n 0, 1) := by decide +kernel
theorem dL_law_555 : decode cL_law 555 = .ok (.iload_n 3, 1) := by decide +kernel
theorem dL_law_556 : decode cL_law 556 = .ok (.iconst 2, 1) := by decide +kernel
theorem dL_law_557 : decode cL_law 557 = .ok (.iadd, 1) := by decide +kernel
theorem dL_law_558 : decode cL_law 558 = .ok (.iaload, 1) := by decide +kernel
theorem dL_law_559 : decode cL_law 559 = .ok (.aload_n 0, 1) := by decide +kernel
theorem dL_law_560 : decode cL_law 560 = .ok (.iload_n 3, 1) := by decide +kernel
theorem dL_law_561 : decode cL_law 561 = .ok (.iconst 3, 1) := by decide +kernel
theorem dL_law_562 : decode cL_law 562 = .ok (.iadd, 1) := by decide +kernel
theorem dL_law_563 : decode cL_law 563 = .ok (.iaload, 1) := by decide +kernel
theorem dL_law_564 : decode cL_law 564 = .ok (.aload_n 0, 1) := by decide +kernel
theorem dL_law_565 : decode cL_law 565 = .ok (.iload_n 3, 1) := by decide +kernel
theorem dL_law_566 : decode cL_law 566 = .ok (.iconst 4, 1) := by decide +kernel
theorem dL_law_567 : decode cL_law 567 = .ok (.iadd, 1) := by decide +kernel
theorem dL_law_568 : decode cL_law 568 = .ok (.iaload, 1) := by decide +kernel
theorem dL_law_569 : decode cL_law 569 = .ok (.invokevirtual 78, 3) := by decide +kernel
theorem dL_law_572 : decode cL_law 572 = .ok (.lcmp, 1) := by decide +kernel
theorem dL_law_573 : decode cL_law 573 = .ok (.ifCond .eq 472, 3) := by decide +kernel
theorem dL_law_576 : decode cL_law 576 = .ok (.iconst 0, 1) := by decide +kernel
theorem dL_law_577 : decode cL_law 577 = .ok (.ireturn, 1) := by decide +kernel
theorem dL_law_578 : decode cL_law 578 = .ok (.aload_n 1, 1) := by decide +kernel
theorem dL_law_579 : decode cL_law 579 = .ok (.aload_n 0, 1) := by decide +kernel
theorem dL_law_580 : decode cL_law 580 = .ok (.iload_n 3, 1) := by decide +kernel
theorem dL_law_581 : decode cL_law 581 = .ok (.iconst 1, 1) := by decide +kernel
theorem dL_law_582 : decode cL_law 582 = .ok (.iadd, 1) := by decide +kernel
theorem dL_law_583 : decode cL_law 583 = .ok (.iaload, 1) := by decide +kernel
theorem dL_law_584 : decode cL_law 584 = .ok (.aload_n 0, 1) := by decide +kernel
theorem dL_law_585 : decode cL_law 585 = .ok (.iload_n 3, 1) := by decide +kernel
theorem dL_law_586 : decode cL_law 586 = .ok (.iconst 2, 1) := by decide +kernel
theorem dL_law_587 : decode cL_law 587 = .ok (.iadd, 1) := by decide +kernel
theorem dL_law_588 : decode cL_law 588 = .ok (.iaload, 1) := by decide +kernel
theorem dL_law_589 : decode cL_law 589 = .ok (.aload_n 0, 1) := by decide +kernel
theorem dL_law_590 : decode cL_law 590 = .ok (.iload_n 3, 1) := by decide +kernel
theorem dL_law_591 : decode cL_law 591 = .ok (.iconst 3, 1) := by decide +kernel
theorem dL_law_592 : decode cL_law 592 = .ok (.iadd, 1) := by decide +kernel
theorem dL_law_593 : decode cL_law 593 = .ok (.iaload, 1) := by decide +kernel
theorem dL_law_594 : decode cL_law 594 = .ok (.aload_n 0, 1) := by decide +kernel
theorem dL_law_595 : decode cL_law 595 = .ok (.iload_n 3, 1) := by decide +kernel
theorem dL_law_596 : decode cL_law 596 = .ok (.iconst 4, 1) := by decide +kernel
theorem dL_law_597 : decode cL_law 597 = .ok (.iadd, 1) := by decide +kernel
theorem dL_law_598 : decode cL_law 598 = .ok (.iaload, 1) := by decide +kernel
theorem dL_law_599 : decode cL_law 599 = .ok (.aload_n 0, 1) := by decide +kernel
theorem dL_law_600 : decode cL_law 600 = .ok (.iload_n 3, 1) := by decide +kernel
theorem dL_law_601 : decode cL_law 601 = .ok (.iconst 5, 1) := by decide +kernel
theorem dL_law_602 : decode cL_law 602 = .ok (.iadd, 1) := by decide +kernel
theorem dL_law_603 : decode cL_law 603 = .ok (.iaload, 1) := by decide +kernel
theorem dL_law_604 : decode cL_law 604 = .ok (.i2l, 1) := by decide +kernel
theorem dL_law_605 : decode cL_law 605 = .ok (.bipush 32, 2) := by decide +kernel
theorem dL_law_607 : decode cL_law 607 = .ok (.lshl, 1) := by decide +kernel
theorem dL_law_608 : decode cL_law 608 = .ok (.aload_n 0, 1) := by decide +kernel
theorem dL_law_609 : decode cL_law 609 = .ok (.iload_n 3, 1) := by decide +kernel
theorem dL_law_610 : decode cL_law 610 = .ok (.bipush 6, 2) := by decide +kernel
theorem dL_law_612 : decode cL_law 612 = .ok (.iadd, 1) := by decide +kernel
theorem dL_law_613 : decode cL_law 613 = .ok (.iaload, 1) := by decide +kernel
theorem dL_law_614 : decode cL_law 614 = .ok (.i2l, 1) := by decide +kernel
theorem dL_law_615 : decode cL_law 615 = .ok (.ldc2_w 79, 3) := by decide +kernel
theorem dL_law_618 : decode cL_law 618 = .ok (.land, 1) := by decide +kernel
theorem dL_law_619 : decode cL_law 619 = .ok (.lor, 1) := by decide +kernel
theorem dL_law_620 : decode cL_law 620 = .ok (.invokevirtual 81, 3) := by decide +kernel
theorem dL_law_623 : decode cL_law 623 = .ok (.aload_n 2, 1) := by decide +kernel
theorem dL_law_624 : decode cL_law 624 = .ok (.aload_n 0, 1) := by decide +kernel
theorem dL_law_625 : decode cL_law 625 = .ok (.iload_n 3, 1) := by decide +kernel
theorem dL_law_626 : decode cL_law 626 = .ok (.iconst 1, 1) := by decide +kernel
theorem dL_law_627 : decode cL_law 627 = .ok (.iadd, 1) := by decide +kernel
theorem dL_law_628 : decode cL_law 628 = .ok (.iaload, 1) := by decide +kernel
theorem dL_law_629 : decode cL_law 629 = .ok (.aload_n 0, 1) := by decide +kernel
theorem dL_law_630 : decode cL_law 630 = .ok (.iload_n 3, 1) := by decide +kernel
theorem dL_law_631 : decode cL_law 631 = .ok (.iconst 2, 1) := by decide +kernel
theorem dL_law_632 : decode cL_law 632 = .ok (.iadd, 1) := by decide +kernel
theorem dL_law_633 : decode cL_law 633 = .ok (.iaload, 1) := by decide +kernel
theorem dL_law_634 : decode cL_law 634 = .ok (.aload_n 0, 1) := by decide +kernel
theorem dL_law_635 : decode cL_law 635 = .ok (.iload_n 3, 1) := by decide +kernel
theorem dL_law_636 : decode cL_law 636 = .ok (.iconst 3, 1) := by decide +kernel
theorem dL_law_637 : decode cL_law 637 = .ok (.iadd, 1) := by decide +kernel
theorem dL_law_638 : decode cL_law 638 = .ok (.iaload, 1) := by decide +kernel
theorem dL_law_639 : decode cL_law 639 = .ok (.aload_n 0, 1) := by decide +kernel
theorem dL_law_640 : decode cL_law 640 = .ok (.iload_n 3, 1) := by decide +kernel
theorem dL_law_641 : decode cL_law 641 = .ok (.iconst 4, 1) := by decide +kernel
theorem dL_law_642 : decode cL_law 642 = .ok (.iadd, 1) := by decide +kernel
theorem dL_law_643 : decode cL_law 643 = .ok (.iaload, 1) := by decide +kernel
theorem dL_law_644 : decode cL_law 644 = .ok (.aload_n 0, 1) := by decide +kernel
theorem dL_law_645 : decode cL_law 645 = .ok (.iload_n 3, 1) := by decide +kernel
theorem dL_law_646 : decode cL_law 646 = .ok (.iconst 5, 1) := by decide +kernel
theorem dL_law_647 : decode cL_law 647 = .ok (.iadd, 1) := by decide +kernel
theorem dL_law_648 : decode cL_law 648 = .ok (.iaload, 1) := by decide +kernel
theorem dL_law_649 : decode cL_law 649 = .ok (.i2l, 1) := by decide +kernel
theorem dL_law_650 : decode cL_law 650 = .ok (.bipush 32, 2) := by decide +kernel
theorem dL_law_652 : decode cL_law 652 = .ok (.lshl, 1) := by decide +kernel
theorem dL_law_653 : decode cL_law 653 = .ok (.aload_n 0, 1) := by decide +kernel
theorem dL_law_654 : decode cL_law 654 = .ok (.iload_n 3, 1) := by decide +kernel
theorem dL_law_655 : decode cL_law 655 = .ok (.bipush 6, 2) := by decide +kernel
theorem dL_law_657 : decode cL_law 657 = .ok (.iadd, 1) := by decide +kernel
theorem dL_law_658 : decode cL_law 658 = .ok (.iaload, 1) := by decide +kernel
theorem dL_law_659 : decode cL_law 659 = .ok (.i2l, 1) := by decide +kernel
theorem dL_law_660 : decode cL_law 660 = .ok (.ldc2_w 79, 3) := by decide +kernel
theorem dL_law_663 : decode cL_law 663 = .ok (.land, 1) := by decide +kernel
theorem dL_law_664 : decode cL_law 664 = .ok (.lor, 1) := by decide +kernel
theorem dL_law_665 : decode cL_law 665 = .ok (.invokevirtual 85, 3) := by decide +kernel
theorem dL_law_668 : decode cL_law 668 = .ok (.if_icmp .eq 377, 3) := by decide +kernel
theorem dL_law_671 : decode cL_law 671 = .ok (.iconst 0, 1) := by decide +kernel
theorem dL_law_672 : decode cL_law 672 = .ok (.ireturn, 1) := by decide +kernel
theorem dL_law_673 : decode cL_law 673 = .ok (.aload_n 1, 1) := by decide +kernel
theorem dL_law_674 : decode cL_law 674 = .ok (.aload_n 0, 1) := by decide +kernel
theorem dL_law_675 : decode cL_law 675 = .ok (.iload_n 3, 1) := by decide +kernel
theorem dL_law_676 : decode cL_law 676 = .ok (.iconst 1, 1) := by decide +kernel
theorem dL_law_677 : decode cL_law 677 = .ok (.iadd, 1) := by decide +kernel
theorem dL_law_678 : decode cL_law 678 = .ok (.iaload, 1) := by decide +kernel
theorem dL_law_679 : decode cL_law 679 = .ok (.aload_n 0, 1) := by decide +kernel
theorem dL_law_680 : decode cL_law 680 = .ok (.iload_n 3, 1) := by decide +kernel
theorem dL_law_681 : decode cL_law 681 = .ok (.iconst 2, 1) := by decide +kernel
theorem dL_law_682 : decode cL_law 682 = .ok (.iadd, 1) := by decide +kernel
theorem dL_law_683 : decode cL_law 683 = .ok (.iaload, 1) := by decide +kernel
theorem dL_law_684 : decode cL_law 684 = .ok (.aload_n 0, 1) := by decide +kernel
theorem dL_law_685 : decode cL_law 685 = .ok (.iload_n 3, 1) := by decide +kernel
theorem dL_law_686 : decode cL_law 686 = .ok (.iconst 3, 1) := by decide +kernel
theorem dL_law_687 : decode cL_law 687 = .ok (.iadd, 1) := by decide +kernel
theorem dL_law_688 : decode cL_law 688 = .ok (.iaload, 1) := by decide +kernel
theorem dL_law_689 : decode cL_law 689 = .ok (.aload_n 0, 1) := by decide +kernel
theorem dL_law_690 : decode cL_law 690 = .ok (.iload_n 3, 1) := by decide +kernel
theorem dL_law_691 : decode cL_law 691 = .ok (.iconst 4, 1) := by decide +kernel
theorem dL_law_692 : decode cL_law 692 = .ok (.iadd, 1) := by decide +kernel
theorem dL_law_693 : decode cL_law 693 = .ok (.iaload, 1) := by decide +kernel
theorem dL_law_694 : decode cL_law 694 = .ok (.invokevirtual 86, 3) := by decide +kernel
theorem dL_law_697 : decode cL_law 697 = .ok (.aload_n 2, 1) := by decide +kernel
theorem dL_law_698 : decode cL_law 698 = .ok (.aload_n 0, 1) := by decide +kernel
theorem dL_law_699 : decode cL_law 699 = .ok (.iload_n 3, 1) := by decide +kernel
theorem dL_law_700 : decode cL_law 700 = .ok (.iconst 1, 1) := by decide +kernel
theorem dL_law_701 : decode cL_law 701 = .ok (.iadd, 1) := by decide +kernel
theorem dL_law_702 : decode cL_law 702 = .ok (.iaload, 1) := by decide +kernel
theorem dL_law_703 : decode cL_law 703 = .ok (.aload_n 0, 1) := by decide +kernel
theorem dL_law_704 : decode cL_law 704 = .ok (.iload_n 3, 1) := by decide +kernel
theorem dL_law_705 : decode cL_law 705 = .ok (.iconst 2, 1) := by decide +kernel
theorem dL_law_706 : decode cL_law 706 = .ok (.iadd, 1) := by decide +kernel
theorem dL_law_707 : decode cL_law 707 = .ok (.iaload, 1) := by decide +kernel
theorem dL_law_708 : decode cL_law 708 = .ok (.aload_n 0, 1) := by decide +kernel
theorem dL_law_709 : decode cL_law 709 = .ok (.iload_n 3, 1) := by decide +kernel
theorem dL_law_710 : decode cL_law 710 = .ok (.iconst 3, 1) := by decide +kernel
theorem dL_law_711 : decode cL_law 711 = .ok (.iadd, 1) := by decide +kernel
theorem dL_law_712 : decode cL_law 712 = .ok (.iaload, 1) := by decide +kernel
theorem dL_law_713 : decode cL_law 713 = .ok (.aload_n 0, 1) := by decide +kernel
theorem dL_law_714 : decode cL_law 714 = .ok (.iload_n 3, 1) := by decide +kernel
theorem dL_law_715 : decode cL_law 715 = .ok (.iconst 4, 1) := by decide +kernel
theorem dL_law_716 : decode cL_law 716 = .ok (.iadd, 1) := by decide +kernel
theorem dL_law_717 : decode cL_law 717 = .ok (.iaload, 1) := by decide +kernel
theorem dL_law_718 : decode cL_law 718 = .ok (.invokevirtual 89, 3) := by decide +kernel
theorem dL_law_721 : decode cL_law 721 = .ok (.if_icmp .eq 324, 3) := by decide +kernel
theorem dL_law_724 : decode cL_law 724 = .ok (.iconst 0, 1) := by decide +kernel
theorem dL_law_725 : decode cL_law 725 = .ok (.ireturn, 1) := by decide +kernel
theorem dL_law_726 : decode cL_law 726 = .ok (.aload_n 1, 1) := by decide +kernel
theorem dL_law_727 : decode cL_law 727 = .ok (.aload_n 0, 1) := by decide +kernel
theorem dL_law_728 : decode cL_law 728 = .ok (.iload_n 3, 1) := by decide +kernel
theorem dL_law_729 : decode cL_law 729 = .ok (.iconst 1, 1) := by decide +kernel
theorem dL_law_730 : decode cL_law 730 = .ok (.iadd, 1) := by decide +kernel
theorem dL_law_731 : decode cL_law 731 = .ok (.iaload, 1) := by decide +kernel
theorem dL_law_732 : decode cL_law 732 = .ok (.aload_n 0, 1) := by decide +kernel
theorem dL_law_733 : decode cL_law 733 = .ok (.iload_n 3, 1) := by decide +kernel
theorem dL_law_734 : decode cL_law 734 = .ok (.iconst 2, 1) := by decide +kernel
theorem dL_law_735 : decode cL_law 735 = .ok (.iadd, 1) := by decide +kernel
theorem dL_law_736 : decode cL_law 736 = .ok (.iaload, 1) := by decide +kernel
theorem dL_law_737 : decode cL_law 737 = .ok (.aload_n 0, 1) := by decide +kernel
theorem dL_law_738 : decode cL_law 738 = .ok (.iload_n 3, 1) := by decide +kernel
theorem dL_law_739 : decode cL_law 739 = .ok (.iconst 3, 1) := by decide +kernel
theorem dL_law_740 : decode cL_law 740 = .ok (.iadd, 1) := by decide +kernel
theorem dL_law_741 : decode cL_law 741 = .ok (.iaload, 1) := by decide +kernel
theorem dL_law_742 : decode cL_law 742 = .ok (.aload_n 0, 1) := by decide +kernel
theorem dL_law_743 : decode cL_law 743 = .ok (.iload_n 3, 1) := by decide +kernel
theorem dL_law_744 : decode cL_law 744 = .ok (.iconst 4, 1) := by decide +kernel
theorem dL_law_745 : decode cL_law 745 = .ok (.iadd, 1) := by decide +kernel
theorem dL_law_746 : decode cL_law 746 = .ok (.iaload, 1) := by decide +kernel
theorem dL_law_747 : decode cL_law 747 = .ok (.i2l, 1) := by decide +kernel
theorem dL_law_748 : decode cL_law 748 = .ok (.bipush 32, 2) := by decide +kernel
theorem dL_law_750 : decode cL_law 750 = .ok (.lshl, 1) := by decide +kernel
theorem dL_law_751 : decode cL_law 751 = .ok (.aload_n 0, 1) := by decide +kernel
theorem dL_law_752 : decode cL_law 752 = .ok (.iload_n 3, 1) := by decide +kernel
theorem dL_law_753 : decode cL_law 753 = .ok (.iconst 5, 1) := by decide +kernel
theorem dL_law_754 : decode cL_law 754 = .ok (.iadd, 1) := by decide +kernel
theorem dL_law_755 : decode cL_law 755 = .ok (.iaload, 1) := by decide +kernel
theorem dL_law_756 : decode cL_law 756 = .ok (.i2l, 1) := by decide +kernel
theorem dL_law_757 : decode cL_law 757 = .ok (.ldc2_w 79, 3) := by decide +kernel
theorem dL_law_760 : decode cL_law 760 = .ok (.land, 1) := by decide +kernel
theorem dL_law_761 : decode cL_law 761 = .ok (.lor, 1) := by decide +kernel
theorem dL_law_762 : decode cL_law 762 = .ok (.invokevirtual 90, 3) := by decide +kernel
theorem dL_law_765 : decode cL_law 765 = .ok (.aload_n 2, 1) := by decide +kernel
theorem dL_law_766 : decode cL_law 766 = .ok (.aload_n 0, 1) := by decide +kernel
theorem dL_law_767 : decode cL_law 767 = .ok (.iload_n 3, 1) := by decide +kernel
theorem dL_law_768 : decode cL_law 768 = .ok (.iconst 1, 1) := by decide +kernel
theorem dL_law_769 : decode cL_law 769 = .ok (.iadd, 1) := by decide +kernel
theorem dL_law_770 : decode cL_law 770 = .ok (.iaload, 1) := by decide +kernel
theorem dL_law_771 : decode cL_law 771 = .ok (.aload_n 0, 1) := by decide +kernel
theorem dL_law_772 : decode cL_law 772 = .ok (.iload_n 3, 1) := by decide +kernel
theorem dL_law_773 : decode cL_law 773 = .ok (.iconst 2, 1) := by decide +kernel
theorem dL_law_774 : decode cL_law 774 = .ok (.iadd, 1) := by decide +kernel
theorem dL_law_775 : decode cL_law 775 = .ok (.iaload, 1) := by decide +kernel
theorem dL_law_776 : decode cL_law 776 = .ok (.aload_n 0, 1) := by decide +kernel
theorem dL_law_777 : decode cL_law 777 = .ok (.iload_n 3, 1) := by decide +kernel
theorem dL_law_778 : decode cL_law 778 = .ok (.iconst 3, 1) := by decide +kernel
theorem dL_law_779 : decode cL_law 779 = .ok (.iadd, 1) := by decide +kernel
theorem dL_law_780 : decode cL_law 780 = .ok (.iaload, 1) := by decide +kernel
theorem dL_law_781 : decode cL_law 781 = .ok (.aload_n 0, 1) := by decide +kernel
theorem dL_law_782 : decode cL_law 782 = .ok (.iload_n 3, 1) := by decide +kernel
theorem dL_law_783 : decode cL_law 783 = .ok (.iconst 4, 1) := by decide +kernel
theorem dL_law_784 : decode cL_law 784 = .ok (.iadd, 1) := by decide +kernel
theorem dL_law_785 : decode cL_law 785 = .ok (.iaload, 1) := by decide +kernel
theorem dL_law_786 : decode cL_law 786 = .ok (.i2l, 1) := by decide +kernel
theorem dL_law_787 : decode cL_law 787 = .ok (.bipush 32, 2) := by decide +kernel
theorem dL_law_789 : decode cL_law 789 = .ok (.lshl, 1) := by decide +kernel
theorem dL_law_790 : decode cL_law 790 = .ok (.aload_n 0, 1) := by decide +kernel
theorem dL_law_791 : decode cL_law 791 = .ok (.iload_n 3, 1) := by decide +kernel
theorem dL_law_792 : decode cL_law 792 = .ok (.iconst 5, 1) := by decide +kernel
theorem dL_law_793 : decode cL_law 793 = .ok (.iadd, 1) := by decide +kernel
theorem dL_law_794 : decode cL_law 794 = .ok (.iaload, 1) := by decide +kernel
theorem dL_law_795 : decode cL_law 795 = .ok (.i2l, 1) := by decide +kernel
theorem dL_law_796 : decode cL_law 796 = .ok (.ldc2_w 79, 3) := by decide +kernel
theorem dL_law_799 : decode cL_law 799 = .ok (.land, 1) := by decide +kernel
theorem dL_law_800 : decode cL_law 800 = .ok (.lor, 1) := by decide +kernel
theorem dL_law_801 : decode cL_law 801 = .ok (.invokevirtual 94, 3) := by decide +kernel
theorem dL_law_804 : decode cL_law 804 = .ok (.if_icmp .eq 241, 3) := by decide +kernel
theorem dL_law_807 : decode cL_law 807 = .ok (.iconst 0, 1) := by decide +kernel
theorem dL_law_808 : decode cL_law 808 = .ok (.ireturn, 1) := by decide +kernel
theorem dL_law_809 : decode cL_law 809 = .ok (.aload_n 1, 1) := by decide +kernel
theorem dL_law_810 : decode cL_law 810 = .ok (.aload_n 0, 1) := by decide +kernel
theorem dL_law_811 : decode cL_law 811 = .ok (.iload_n 3, 1) := by decide +kernel
theorem dL_law_812 : decode cL_law 812 = .ok (.iconst 1, 1) := by decide +kernel
theorem dL_law_813 : decode cL_law 813 = .ok (.iadd, 1) := by decide +kernel
theorem dL_law_814 : decode cL_law 814 = .ok (.iaload, 1) := by decide +kernel
theorem dL_law_815 : decode cL_law 815 = .ok (.aload_n 0, 1) := by decide +kernel
theorem dL_law_816 : decode cL_law 816 = .ok (.iload_n 3, 1) := by decide +kernel
theorem dL_law_817 : decode cL_law 817 = .ok (.iconst 2, 1) := by decide +kernel
theorem dL_law_818 : decode cL_law 818 = .ok (.iadd, 1) := by decide +kernel
theorem dL_law_819 : decode cL_law 819 = .ok (.iaload, 1) := by decide +kernel
theorem dL_law_820 : decode cL_law 820 = .ok (.invokevirtual 95, 3) := by decide +kernel
theorem dL_law_823 : decode cL_law 823 = .ok (.aload_n 2, 1) := by decide +kernel
theorem dL_law_824 : decode cL_law 824 = .ok (.aload_n 0, 1) := by decide +kernel
theorem dL_law_825 : decode cL_law 825 = .ok (.iload_n 3, 1) := by decide +kernel
theorem dL_law_826 : decode cL_law 826 = .ok (.iconst 1, 1) := by decide +kernel
theorem dL_law_827 : decode cL_law 827 = .ok (.iadd, 1) := by decide +kernel
theorem dL_law_828 : decode cL_law 828 = .ok (.iaload, 1) := by decide +kernel
theorem dL_law_829 : decode cL_law 829 = .ok (.aload_n 0, 1) := by decide +kernel
theorem dL_law_830 : decode cL_law 830 = .ok (.iload_n 3, 1) := by decide +kernel
theorem dL_law_831 : decode cL_law 831 = .ok (.iconst 2, 1) := by decide +kernel
theorem dL_law_832 : decode cL_law 832 = .ok (.iadd, 1) := by decide +kernel
theorem dL_law_833 : decode cL_law 833 = .ok (.iaload, 1) := by decide +kernel
theorem dL_law_834 : decode cL_law 834 = .ok (.invokevirtual 98, 3) := by decide +kernel
theorem dL_law_837 : decode cL_law 837 = .ok (.if_icmp .eq 208, 3) := by decide +kernel
theorem dL_law_840 : decode cL_law 840 = .ok (.iconst 0, 1) := by decide +kernel
theorem dL_law_841 : decode cL_law 841 = .ok (.ireturn, 1) := by decide +kernel
theorem dL_law_842 : decode cL_law 842 = .ok (.aload_n 1, 1) := by decide +kernel
theorem dL_law_843 : decode cL_law 843 = .ok (.aload_n 0, 1) := by decide +kernel
theorem dL_law_844 : decode cL_law 844 = .ok (.iload_n 3, 1) := by decide +kernel
theorem dL_law_845 : decode cL_law 845 = .ok (.iconst 1, 1) := by decide +kernel
theorem dL_law_846 : decode cL_law 846 = .ok (.iadd, 1) := by decide +kernel
theorem dL_law_847 : decode cL_law 847 = .ok (.iaload, 1) := by decide +kernel
theorem dL_law_848 : decode cL_law 848 = .ok (.aload_n 0, 1) := by decide +kernel
theorem dL_law_849 : decode cL_law 849 = .ok (.iload_n 3, 1) := by decide +kernel
theorem dL_law_850 : decode cL_law 850 = .ok (.iconst 2, 1) := by decide +kernel
theorem dL_law_851 : decode cL_law 851 = .ok (.iadd, 1) := by decide +kernel
theorem dL_law_852 : decode cL_law 852 = .ok (.iaload, 1) := by decide +kernel
theorem dL_law_853 : decode cL_law 853 = .ok (.aload_n 0, 1) := by decide +kernel
theorem dL_law_854 : decode cL_law 854 = .ok (.iload_n 3, 1) := by decide +kernel
theorem dL_law_855 : decode cL_law 855 = .ok (.iconst 3, 1) := by decide +kernel
theorem dL_law_856 : decode cL_law 856 = .ok (.iadd, 1) := by decide +kernel
theorem dL_law_857 : decode cL_law 857 = .ok (.iaload, 1) := by decide +kernel
theorem dL_law_858 : decode cL_law 858 = .ok (.invokevirtual 99, 3) := by decide +kernel
theorem dL_law_861 : decode cL_law 861 = .ok (.aload_n 2, 1) := by decide +kernel
theorem dL_law_862 : decode cL_law 862 = .ok (.aload_n 0, 1) := by decide +kernel
theorem dL_law_863 : decode cL_law 863 = .ok (.iload_n 3, 1) := by decide +kernel
theorem dL_law_864 : decode cL_law 864 = .ok (.iconst 1, 1) := by decide +kernel
theorem dL_law_865 : decode cL_law 865 = .ok (.iadd, 1) := by decide +kernel
theorem dL_law_866 : decode cL_law 866 = .ok (.iaload, 1) := by decide +kernel
theorem dL_law_867 : decode cL_law 867 = .ok (.aload_n 0, 1) := by decide +kernel
theorem dL_law_868 : decode cL_law 868 = .ok (.iload_n 3, 1) := by decide +kernel
theorem dL_law_869 : decode cL_law 869 = .ok (.iconst 2, 1) := by decide +kernel
theorem dL_law_870 : decode cL_law 870 = .ok (.iadd, 1) := by decide +kernel
theorem dL_law_871 : decode cL_law 871 = .ok (.iaload, 1) := by decide +kernel
theorem dL_law_872 : decode cL_law 872 = .ok (.aload_n 0, 1) := by decide +kernel
theorem dL_law_873 : decode cL_law 873 = .ok (.iload_n 3, 1) := by decide +kernel
theorem dL_law_874 : decode cL_law 874 = .ok (.iconst 3, 1) := by decide +kernel
theorem dL_law_875 : decode cL_law 875 = .ok (.iadd, 1) := by decide +kernel
theorem dL_law_876 : decode cL_law 876 = .ok (.iaload, 1) := by decide +kernel
theorem dL_law_877 : decode cL_law 877 = .ok (.invokevirtual 102, 3) := by decide +kernel
theorem dL_law_880 : decode cL_law 880 = .ok (.if_icmp .eq 165, 3) := by decide +kernel
theorem dL_law_883 : decode cL_law 883 = .ok (.iconst 0, 1) := by decide +kernel
theorem dL_law_884 : decode cL_law 884 = .ok (.ireturn, 1) := by decide +kernel
theorem dL_law_885 : decode cL_law 885 = .ok (.aload_n 1, 1) := by decide +kernel
theorem dL_law_886 : decode cL_law 886 = .ok (.aload_n 0, 1) := by decide +kernel
theorem dL_law_887 : decode cL_law 887 = .ok (.iload_n 3, 1) := by decide +kernel
theorem dL_law_888 : decode cL_law 888 = .ok (.iconst 1, 1) := by decide +kernel
theorem dL_law_889 : decode cL_law 889 = .ok (.iadd, 1) := by decide +kernel
theorem dL_law_890 : decode cL_law 890 = .ok (.iaload, 1) := by decide +kernel
theorem dL_law_891 : decode cL_law 891 = .ok (.invokevirtual 103, 3) := by decide +kernel
theorem dL_law_894 : decode cL_law 894 = .ok (.aload_n 2, 1) := by decide +kernel
theorem dL_law_895 : decode cL_law 895 = .ok (.aload_n 0, 1) := by decide +kernel
theorem dL_law_896 : decode cL_law 896 = .ok (.iload_n 3, 1) := by decide +kernel
theorem dL_law_897 : decode cL_law 897 = .ok (.iconst 1, 1) := by decide +kernel
theorem dL_law_898 : decode cL_law 898 = .ok (.iadd, 1) := by decide +kernel
theorem dL_law_899 : decode cL_law 899 = .ok (.iaload, 1) := by decide +kernel
theorem dL_law_900 : decode cL_law 900 = .ok (.invokevirtual 107, 3) := by decide +kernel
theorem dL_law_903 : decode cL_law 903 = .ok (.lcmp, 1) := by decide +kernel
theorem dL_law_904 : decode cL_law 904 = .ok (.ifCond .eq 141, 3) := by decide +kernel
theorem dL_law_907 : decode cL_law 907 = .ok (.iconst 0, 1) := by decide +kernel
theorem dL_law_908 : decode cL_law 908 = .ok (.ireturn, 1) := by decide +kernel
theorem dL_law_909 : decode cL_law 909 = .ok (.aload_n 1, 1) := by decide +kernel
theorem dL_law_910 : decode cL_law 910 = .ok (.aload_n 0, 1) := by decide +kernel
theorem dL_law_911 : decode cL_law 911 = .ok (.iload_n 3, 1) := by decide +kernel
theorem dL_law_912 : decode cL_law 912 = .ok (.iconst 1, 1) := by decide +kernel
theorem dL_law_913 : decode cL_law 913 = .ok (.iadd, 1) := by decide +kernel
theorem dL_law_914 : decode cL_law 914 = .ok (.iaload, 1) := by decide +kernel
theorem dL_law_915 : decode cL_law 915 = .ok (.invokevirtual 108, 3) := by decide +kernel
theorem dL_law_918 : decode cL_law 918 = .ok (.aload_n 2, 1) := by decide +kernel
theorem dL_law_919 : decode cL_law 919 = .ok (.aload_n 0, 1) := by decide +kernel
theorem dL_law_920 : decode cL_law 920 = .ok (.iload_n 3, 1) := by decide +kernel
theorem dL_law_921 : decode cL_law 921 = .ok (.iconst 1, 1) := by decide +kernel
theorem dL_law_922 : decode cL_law 922 = .ok (.iadd, 1) := by decide +kernel
theorem dL_law_923 : decode cL_law 923 = .ok (.iaload, 1) := by decide +kernel
theorem dL_law_924 : decode cL_law 924 = .ok (.invokevirtual 111, 3) := by decide +kernel
theorem dL_law_927 : decode cL_law 927 = .ok (.lcmp, 1) := by decide +kernel
theorem dL_law_928 : decode cL_law 928 = .ok (.ifCond .eq 117, 3) := by decide +kernel
theorem dL_law_931 : decode cL_law 931 = .ok (.iconst 0, 1) := by decide +kernel
theorem dL_law_932 : decode cL_law 932 = .ok (.ireturn, 1) := by decide +kernel
theorem dL_law_933 : decode cL_law 933 = .ok (.aload_n 1, 1) := by decide +kernel
theorem dL_law_934 : decode cL_law 934 = .ok (.aload_n 0, 1) := by decide +kernel
theorem dL_law_935 : decode cL_law 935 = .ok (.iload_n 3, 1) := by decide +kernel
theorem dL_law_936 : decode cL_law 936 = .ok (.iconst 1, 1) := by decide +kernel
theorem dL_law_937 : decode cL_law 937 = .ok (.iadd, 1) := by decide +kernel
theorem dL_law_938 : decode cL_law 938 = .ok (.iaload, 1) := by decide +kernel
theorem dL_law_939 : decode cL_law 939 = .ok (.aload_n 0, 1) := by decide +kernel
theorem dL_law_940 : decode cL_law 940 = .ok (.iload_n 3, 1) := by decide +kernel
theorem dL_law_941 : decode cL_law 941 = .ok (.iconst 2, 1) := by decide +kernel
theorem dL_law_942 : decode cL_law 942 = .ok (.iadd, 1) := by decide +kernel
theorem dL_law_943 : decode cL_law 943 = .ok (.iaload, 1) := by decide +kernel
theorem dL_law_944 : decode cL_law 944 = .ok (.invokevirtual 112, 3) := by decide +kernel
theorem dL_law_947 : decode cL_law 947 = .ok (.aload_n 2, 1) := by decide +kernel
theorem dL_law_948 : decode cL_law 948 = .ok (.aload_n 0, 1) := by decide +kernel
theorem dL_law_949 : decode cL_law 949 = .ok (.iload_n 3, 1) := by decide +kernel
theorem dL_law_950 : decode cL_law 950 = .ok (.iconst 1, 1) := by decide +kernel
theorem dL_law_951 : decode cL_law 951 = .ok (.iadd, 1) := by decide +kernel
theorem dL_law_952 : decode cL_law 952 = .ok (.iaload, 1) := by decide +kernel
theorem dL_law_953 : decode cL_law 953 = .ok (.aload_n 0, 1) := by decide +kernel
theorem dL_law_954 : decode cL_law 954 = .ok (.iload_n 3, 1) := by decide +kernel
theorem dL_law_955 : decode cL_law 955 = .ok (.iconst 2, 1) := by decide +kernel
theorem dL_law_956 : decode cL_law 956 = .ok (.iadd, 1) := by decide +kernel
theorem dL_law_957 : decode cL_law 957 = .ok (.iaload, 1) := by decide +kernel
theorem dL_law_958 : decode cL_law 958 = .ok (.invokevirtual 115, 3) := by decide +kernel
theorem dL_law_961 : decode cL_law 961 = .ok (.if_icmp .eq 84, 3) := by decide +kernel
theorem dL_law_964 : decode cL_law 964 = .ok (.iconst 0, 1) := by decide +kernel
theorem dL_law_965 : decode cL_law 965 = .ok (.ireturn, 1) := by decide +kernel
theorem dL_law_966 : decode cL_law 966 = .ok (.aload_n 1, 1) := by decide +kernel
theorem dL_law_967 : decode cL_law 967 = .ok (.aload_n 0, 1) := by decide +kernel
theorem dL_law_968 : decode cL_law 968 = .ok (.iload_n 3, 1) := by decide +kernel
theorem dL_law_969 : decode cL_law 969 = .ok (.iconst 1, 1) := by decide +kernel
theorem dL_law_970 : decode cL_law 970 = .ok (.iadd, 1) := by decide +kernel
theorem dL_law_971 : decode cL_law 971 = .ok (.iaload, 1) := by decide +kernel
theorem dL_law_972 : decode cL_law 972 = .ok (.aload_n 0, 1) := by decide +kernel
theorem dL_law_973 : decode cL_law 973 = .ok (.iload_n 3, 1) := by decide +kernel
theorem dL_law_974 : decode cL_law 974 = .ok (.iconst 2, 1) := by decide +kernel
theorem dL_law_975 : decode cL_law 975 = .ok (.iadd, 1) := by decide +kernel
theorem dL_law_976 : decode cL_law 976 = .ok (.iaload, 1) := by decide +kernel
theorem dL_law_977 : decode cL_law 977 = .ok (.invokevirtual 116, 3) := by decide +kernel
theorem dL_law_980 : decode cL_law 980 = .ok (.aload_n 2, 1) := by decide +kernel
theorem dL_law_981 : decode cL_law 981 = .ok (.aload_n 0, 1) := by decide +kernel
theorem dL_law_982 : decode cL_law 982 = .ok (.iload_n 3, 1) := by decide +kernel
theorem dL_law_983 : decode cL_law 983 = .ok (.iconst 1, 1) := by decide +kernel
theorem dL_law_984 : decode cL_law 984 = .ok (.iadd, 1) := by decide +kernel
theorem dL_law_985 : decode cL_law 985 = .ok (.iaload, 1) := by decide +kernel
theorem dL_law_986 : decode cL_law 986 = .ok (.aload_n 0, 1) := by decide +kernel
theorem dL_law_987 : decode cL_law 987 = .ok (.iload_n 3, 1) := by decide +kernel
theorem dL_law_988 : decode cL_law 988 = .ok (.iconst 2, 1) := by decide +kernel
theorem dL_law_989 : decode cL_law 989 = .ok (.iadd, 1) := by decide +kernel
theorem dL_law_990 : decode cL_law 990 = .ok (.iaload, 1) := by decide +kernel
theorem dL_law_991 : decode cL_law 991 = .ok (.invokevirtual 119, 3) := by decide +kernel
theorem dL_law_994 : decode cL_law 994 = .ok (.if_icmp .eq 51, 3) := by decide +kernel
theorem dL_law_997 : decode cL_law 997 = .ok (.iconst 0, 1) := by decide +kernel
theorem dL_law_998 : decode cL_law 998 = .ok (.ireturn, 1) := by decide +kernel
theorem dL_law_999 : decode cL_law 999 = .ok (.aload_n 1, 1) := by decide +kernel
theorem dL_law_1000 : decode cL_law 1000 = .ok (.aload_n 0, 1) := by decide +kernel
theorem dL_law_1001 : decode cL_law 1001 = .ok (.iload_n 3, 1) := by decide +kernel
theorem dL_law_1002 : decode cL_law 1002 = .ok (.iconst 1, 1) := by decide +kernel
theorem dL_law_1003 : decode cL_law 1003 = .ok (.iadd, 1) := by decide +kernel
theorem dL_law_1004 : decode cL_law 1004 = .ok (.iaload, 1) := by decide +kernel
theorem dL_law_1005 : decode cL_law 1005 = .ok (.aload_n 0, 1) := by decide +kernel
theorem dL_law_1006 : decode cL_law 1006 = .ok (.iload_n 3, 1) := by decide +kernel
theorem dL_law_1007 : decode cL_law 1007 = .ok (.iconst 2, 1) := by decide +kernel
theorem dL_law_1008 : decode cL_law 1008 = .ok (.iadd, 1) := by decide +kernel
theorem dL_law_1009 : decode cL_law 1009 = .ok (.iaload, 1) := by decide +kernel
theorem dL_law_1010 : decode cL_law 1010 = .ok (.invokevirtual 120, 3) := by decide +kernel
theorem dL_law_1013 : decode cL_law 1013 = .ok (.aload_n 2, 1) := by decide +kernel
theorem dL_law_1014 : decode cL_law 1014 = .ok (.aload_n 0, 1) := by decide +kernel
theorem dL_law_1015 : decode cL_law 1015 = .ok (.iload_n 3, 1) := by decide +kernel
theorem dL_law_1016 : decode cL_law 1016 = .ok (.iconst 1, 1) := by decide +kernel
theorem dL_law_1017 : decode cL_law 1017 = .ok (.iadd, 1) := by decide +kernel
theorem dL_law_1018 : decode cL_law 1018 = .ok (.iaload, 1) := by decide +kernel
theorem dL_law_1019 : decode cL_law 1019 = .ok (.aload_n 0, 1) := by decide +kernel
theorem dL_law_1020 : decode cL_law 1020 = .ok (.iload_n 3, 1) := by decide +kernel
theorem dL_law_1021 : decode cL_law 1021 = .ok (.iconst 2, 1) := by decide +kernel
theorem dL_law_1022 : decode cL_law 1022 = .ok (.iadd, 1) := by decide +kernel
theorem dL_law_1023 : decode cL_law 1023 = .ok (.iaload, 1) := by decide +kernel
theorem dL_law_1024 : decode cL_law 1024 = .ok (.invokevirtual 123, 3) := by decide +kernel
theorem dL_law_1027 : decode cL_law 1027 = .ok (.if_icmp .eq 18, 3) := by decide +kernel
theorem dL_law_1030 : decode cL_law 1030 = .ok (.iconst 0, 1) := by decide +kernel
theorem dL_law_1031 : decode cL_law 1031 = .ok (.ireturn, 1) := by decide +kernel
theorem dL_law_1032 : decode cL_law 1032 = .ok (.aload_n 1, 1) := by decide +kernel
theorem dL_law_1033 : decode cL_law 1033 = .ok (.invokevirtual 124, 3) := by decide +kernel
theorem dL_law_1036 : decode cL_law 1036 = .ok (.aload_n 2, 1) := by decide +kernel
theorem dL_law_1037 : decode cL_law 1037 = .ok (.invokevirtual 127, 3) := by decide +kernel
theorem dL_law_1040 : decode cL_law 1040 = .ok (.if_icmp .eq 5, 3) := by decide +kernel
theorem dL_law_1043 : decode cL_law 1043 = .ok (.iconst 0, 1) := by decide +kernel
theorem dL_law_1044 : decode cL_law 1044 = .ok (.ireturn, 1) := by decide +kernel
theorem dL_law_1045 : decode cL_law 1045 = .ok (.iinc 3 7, 3) := by decide +kernel
theorem dL_law_1048 : decode cL_law 1048 = .ok (.goto (-1030), 3) := by decide +kernel
theorem dL_law_1051 : decode cL_law 1051 = .ok (.iconst 1, 1) := by decide +kernel
theorem dL_law_1052 : decode cL_law 1052 = .ok (.ireturn, 1) := by decide +kernel
end
section
theorem dX0_init_0 : decode cX0_init 0 = .ok (.aload_n 0, 1) := by decide +kernel
theorem dX0_init_1 : decode cX0_init 1 = .ok (.invokespecial 3, 3) := by decide +kernel
theorem dX0_init_4 : decode cX0_init 4 = .ok (.aload_n 0, 1) := by decide +kernel
theorem dX0_init_5 : decode cX0_init 5 = .ok (.bipush 30, 2) := by decide +kernel
theorem dX0_init_7 : decode cX0_init 7 = .ok (.newarray .int, 2) := by decide +kernel
theorem dX0_init_9 : decode cX0_init 9 = .ok (.putfield 9, 3) := by decide +kernel
theorem dX0_init_12 : decode cX0_init 12 = .ok (.aload_n 0, 1) := by decide +kernel
theorem dX0_init_13 : decode cX0_init 13 = .ok (.bipush 30, 2) := by decide +kernel
theorem dX0_init_15 : decode cX0_init 15 = .ok (.newarray .int, 2) := by decide +kernel
theorem dX0_init_17 : decode cX0_init 17 = .ok (.putfield 15, 3) := by decide +kernel
theorem dX0_init_20 : decode cX0_init 20 = .ok (.aload_n 0, 1) := by decide +kernel
theorem dX0_init_21 : decode cX0_init 21 = .ok (.bipush 30, 2) := by decide +kernel
theorem dX0_init_23 : decode cX0_init 23 = .ok (.newarray .int, 2) := by decide +kernel
theorem dX0_init_25 : decode cX0_init 25 = .ok (.putfield 18, 3) := by decide +kernel
theorem dX0_init_28 : decode cX0_init 28 = .ok (.aload_n 0, 1) := by decide +kernel
theorem dX0_init_29 : decode cX0_init 29 = .ok (.bipush 30, 2) := by decide +kernel
theorem dX0_init_31 : decode cX0_init 31 = .ok (.newarray .long, 2) := by decide +kernel
theorem dX0_init_33 : decode cX0_init 33 = .ok (.putfield 21, 3) := by decide +kernel
theorem dX0_init_36 : decode cX0_init 36 = .ok (.return_, 1) := by decide +kernel
theorem dX0_add_0 : decode cX0_add 0 = .ok (.aload_n 0, 1) := by decide +kernel
theorem dX0_add_1 : decode cX0_add 1 = .ok (.getfield 25, 3) := by decide +kernel
theorem dX0_add_4 : decode cX0_add 4 = .ok (.bipush 30, 2) := by decide +kernel
theorem dX0_add_6 : decode cX0_add 6 = .ok (.if_icmp .ge 54, 3) := by decide +kernel
theorem dX0_add_9 : decode cX0_add 9 = .ok (.aload_n 0, 1) := by decide +kernel
theorem dX0_add_10 : decode cX0_add 10 = .ok (.getfield 9, 3) := by decide +kernel
theorem dX0_add_13 : decode cX0_add 13 = .ok (.aload_n 0, 1) := by decide +kernel
theorem dX0_add_14 : decode cX0_add 14 = .ok (.getfield 25, 3) := by decide +kernel
theorem dX0_add_17 : decode cX0_add 17 = .ok (.iload_n 1, 1) := by decide +kernel
theorem dX0_add_18 : decode cX0_add 18 = .ok (.iastore, 1) := by decide +kernel
theorem dX0_add_19 : decode cX0_add 19 = .ok (.aload_n 0, 1) := by decide +kernel
theorem dX0_add_20 : decode cX0_add 20 = .ok (.getfield 15, 3) := by decide +kernel
theorem dX0_add_23 : decode cX0_add 23 = .ok (.aload_n 0, 1) := by decide +kernel
theorem dX0_add_24 : decode cX0_add 24 = .ok (.getfield 25, 3) := by decide +kernel
theorem dX0_add_27 : decode cX0_add 27 = .ok (.iload_n 2, 1) := by decide +kernel
theorem dX0_add_28 : decode cX0_add 28 = .ok (.iastore, 1) := by decide +kernel
theorem dX0_add_29 : decode cX0_add 29 = .ok (.aload_n 0, 1) := by decide +kernel
theorem dX0_add_30 : decode cX0_add 30 = .ok (.getfield 18, 3) := by decide +kernel
theorem dX0_add_33 : decode cX0_add 33 = .ok (.aload_n 0, 1) := by decide +kernel
theorem dX0_add_34 : decode cX0_add 34 = .ok (.getfield 25, 3) := by decide +kernel
theorem dX0_add_37 : decode cX0_add 37 = .ok (.iload_n 3, 1) := by decide +kernel
theorem dX0_add_38 : decode cX0_add 38 = .ok (.iastore, 1) := by decide +kernel
theorem dX0_add_39 : decode cX0_add 39 = .ok (.aload_n 0, 1) := by decide +kernel
theorem dX0_add_40 : decode cX0_add 40 = .ok (.getfield 21, 3) := by decide +kernel
theorem dX0_add_43 : decode cX0_add 43 = .ok (.aload_n 0, 1) := by decide +kernel
theorem dX0_add_44 : decode cX0_add 44 = .ok (.getfield 25, 3) := by decide +kernel
theorem dX0_add_47 : decode cX0_add 47 = .ok (.lload 4, 2) := by decide +kernel
theorem dX0_add_49 : decode cX0_add 49 = .ok (.lastore, 1) := by decide +kernel
theorem dX0_add_50 : decode cX0_add 50 = .ok (.aload_n 0, 1) := by decide +kernel
theorem dX0_add_51 : decode cX0_add 51 = .ok (.dup, 1) := by decide +kernel
theorem dX0_add_52 : decode cX0_add 52 = .ok (.getfield 25, 3) := by decide +kernel
theorem dX0_add_55 : decode cX0_add 55 = .ok (.iconst 1, 1) := by decide +kernel
theorem dX0_add_56 : decode cX0_add 56 = .ok (.iadd, 1) := by decide +kernel
theorem dX0_add_57 : decode cX0_add 57 = .ok (.putfield 25, 3) := by decide +kernel
theorem dX0_add_60 : decode cX0_add 60 = .ok (.return_, 1) := by decide +kernel
end
section
theorem dX1_init_0 : decode cX1_init 0 = .ok (.aload_n 0, 1) := by decide +kernel
theorem dX1_init_1 : decode cX1_init 1 = .ok (.invokespecial 3, 3) := by decide +kernel
theorem dX1_init_4 : decode cX1_init 4 = .ok (.aload_n 0, 1) := by decide +kernel
theorem dX1_init_5 : decode cX1_init 5 = .ok (.new 9, 3) := by decide +kernel
theorem dX1_init_8 : decode cX1_init 8 = .ok (.dup, 1) := by decide +kernel
theorem dX1_init_9 : decode cX1_init 9 = .ok (.invokespecial 11, 3) := by decide +kernel
theorem dX1_init_12 : decode cX1_init 12 = .ok (.putfield 12, 3) := by decide +kernel
theorem dX1_init_15 : decode cX1_init 15 = .ok (.aload_n 0, 1) := by decide +kernel
theorem dX1_init_16 : decode cX1_init 16 = .ok (.iconst (-1), 1) := by decide +kernel
theorem dX1_init_17 : decode cX1_init 17 = .ok (.putfield 18, 3) := by decide +kernel
theorem dX1_init_20 : decode cX1_init 20 = .ok (.aload_n 0, 1) := by decide +kernel
theorem dX1_init_21 : decode cX1_init 21 = .ok (.iconst 0, 1) := by decide +kernel
theorem dX1_init_22 : decode cX1_init 22 = .ok (.newarray .int, 2) := by decide +kernel
theorem dX1_init_24 : decode cX1_init 24 = .ok (.putfield 22, 3) := by decide +kernel
theorem dX1_init_27 : decode cX1_init 27 = .ok (.return_, 1) := by decide +kernel
theorem dX1_rowCount_0 : decode cX1_rowCount 0 = .ok (.aload_n 0, 1) := by decide +kernel
theorem dX1_rowCount_1 : decode cX1_rowCount 1 = .ok (.getfield 12, 3) := by decide +kernel
theorem dX1_rowCount_4 : decode cX1_rowCount 4 = .ok (.iconst 0, 1) := by decide +kernel
theorem dX1_rowCount_5 : decode cX1_rowCount 5 = .ok (.invokevirtual 26, 3) := by decide +kernel
theorem dX1_rowCount_8 : decode cX1_rowCount 8 = .ok (.l2i, 1) := by decide +kernel
theorem dX1_rowCount_9 : decode cX1_rowCount 9 = .ok (.ireturn, 1) := by decide +kernel
end
section
theorem dX2_init_0 : decode cX2_init 0 = .ok (.aload_n 0, 1) := by decide +kernel
theorem dX2_init_1 : decode cX2_init 1 = .ok (.invokespecial 3, 3) := by decide +kernel
theorem dX2_init_4 : decode cX2_init 4 = .ok (.aload_n 0, 1) := by decide +kernel
theorem dX2_init_5 : decode cX2_init 5 = .ok (.iconst 3, 1) := by decide +kernel
theorem dX2_init_6 : decode cX2_init 6 = .ok (.newarray .int, 2) := by decide +kernel
theorem dX2_init_8 : decode cX2_init 8 = .ok (.putfield 9, 3) := by decide +kernel
theorem dX2_init_11 : decode cX2_init 11 = .ok (.aload_n 0, 1) := by decide +kernel
theorem dX2_init_12 : decode cX2_init 12 = .ok (.iconst 3, 1) := by decide +kernel
theorem dX2_init_13 : decode cX2_init 13 = .ok (.newarray .int, 2) := by decide +kernel
theorem dX2_init_15 : decode cX2_init 15 = .ok (.putfield 15, 3) := by decide +kernel
theorem dX2_init_18 : decode cX2_init 18 = .ok (.return_, 1) := by decide +kernel
theorem dX2_add_0 : decode cX2_add 0 = .ok (.aload_n 0, 1) := by decide +kernel
theorem dX2_add_1 : decode cX2_add 1 = .ok (.getfield 18, 3) := by decide +kernel
theorem dX2_add_4 : decode cX2_add 4 = .ok (.iconst 3, 1) := by decide +kernel
theorem dX2_add_5 : decode cX2_add 5 = .ok (.if_icmp .ge 33, 3) := by decide +kernel
theorem dX2_add_8 : decode cX2_add 8 = .ok (.aload_n 0, 1) := by decide +kernel
theorem dX2_add_9 : decode cX2_add 9 = .ok (.getfield 9, 3) := by decide +kernel
theorem dX2_add_12 : decode cX2_add 12 = .ok (.aload_n 0, 1) := by decide +kernel
theorem dX2_add_13 : decode cX2_add 13 = .ok (.getfield 18, 3) := by decide +kernel
theorem dX2_add_16 : decode cX2_add 16 = .ok (.iload_n 1, 1) := by decide +kernel
theorem dX2_add_17 : decode cX2_add 17 = .ok (.iastore, 1) := by decide +kernel
theorem dX2_add_18 : decode cX2_add 18 = .ok (.aload_n 0, 1) := by decide +kernel
theorem dX2_add_19 : decode cX2_add 19 = .ok (.getfield 15, 3) := by decide +kernel
theorem dX2_add_22 : decode cX2_add 22 = .ok (.aload_n 0, 1) := by decide +kernel
theorem dX2_add_23 : decode cX2_add 23 = .ok (.getfield 18, 3) := by decide +kernel
theorem dX2_add_26 : decode cX2_add 26 = .ok (.iload_n 2, 1) := by decide +kernel
theorem dX2_add_27 : decode cX2_add 27 = .ok (.iastore, 1) := by decide +kernel
theorem dX2_add_28 : decode cX2_add 28 = .ok (.aload_n 0, 1) := by decide +kernel
theorem dX2_add_29 : decode cX2_add 29 = .ok (.dup, 1) := by decide +kernel
theorem dX2_add_30 : decode cX2_add 30 = .ok (.getfield 18, 3) := by decide +kernel
theorem dX2_add_33 : decode cX2_add 33 = .ok (.iconst 1, 1) := by decide +kernel
theorem dX2_add_34 : decode cX2_add 34 = .ok (.iadd, 1) := by decide +kernel
theorem dX2_add_35 : decode cX2_add 35 = .ok (.putfield 18, 3) := by decide +kernel
theorem dX2_add_38 : decode cX2_add 38 = .ok (.return_, 1) := by decide +kernel
theorem dX2_addAll_0 : decode cX2_addAll 0 = .ok (.iconst 0, 1) := by decide +kernel
theorem dX2_addAll_1 : decode cX2_addAll 1 = .ok (.istore_n 2, 1) := by decide +kernel
theorem dX2_addAll_2 : decode cX2_addAll 2 = .ok (.iload_n 2, 1) := by decide +kernel
theorem dX2_addAll_3 : decode cX2_addAll 3 = .ok (.aload_n 1, 1) := by decide +kernel
theorem dX2_addAll_4 : decode cX2_addAll 4 = .ok (.getfield 18, 3) := by decide +kernel
theorem dX2_addAll_7 : decode cX2_addAll 7 = .ok (.if_icmp .ge 25, 3) := by decide +kernel
theorem dX2_addAll_10 : decode cX2_addAll 10 = .ok (.aload_n 0, 1) := by decide +kernel
theorem dX2_addAll_11 : decode cX2_addAll 11 = .ok (.aload_n 1, 1) := by decide +kernel
theorem dX2_addAll_12 : decode cX2_addAll 12 = .ok (.getfield 9, 3) := by decide +kernel
theorem dX2_addAll_15 : decode cX2_addAll 15 = .ok (.iload_n 2, 1) := by decide +kernel
theorem dX2_addAll_16 : decode cX2_addAll 16 = .ok (.iaload, 1) := by decide +kernel
theorem dX2_addAll_17 : decode cX2_addAll 17 = .ok (.aload_n 1, 1) := by decide +kernel
theorem dX2_addAll_18 : decode cX2_addAll 18 = .ok (.getfield 15, 3) := by decide +kernel
theorem dX2_addAll_21 : decode cX2_addAll 21 = .ok (.iload_n 2, 1) := by decide +kernel
theorem dX2_addAll_22 : decode cX2_addAll 22 = .ok (.iaload, 1) := by decide +kernel
theorem dX2_addAll_23 : decode cX2_addAll 23 = .ok (.invokevirtual 22, 3) := by decide +kernel
theorem dX2_addAll_26 : decode cX2_addAll 26 = .ok (.iinc 2 1, 3) := by decide +kernel
theorem dX2_addAll_29 : decode cX2_addAll 29 = .ok (.goto (-27), 3) := by decide +kernel
theorem dX2_addAll_32 : decode cX2_addAll 32 = .ok (.return_, 1) := by decide +kernel
theorem dX2_swapFirstTwo_0 : decode cX2_swapFirstTwo 0 = .ok (.aload_n 0, 1) := by decide +kernel
theorem dX2_swapFirstTwo_1 : decode cX2_swapFirstTwo 1 = .ok (.getfield 9, 3) := by decide +kernel
theorem dX2_swapFirstTwo_4 : decode cX2_swapFirstTwo 4 = .ok (.iconst 0, 1) := by decide +kernel
theorem dX2_swapFirstTwo_5 : decode cX2_swapFirstTwo 5 = .ok (.iaload, 1) := by decide +kernel
theorem dX2_swapFirstTwo_6 : decode cX2_swapFirstTwo 6 = .ok (.istore_n 1, 1) := by decide +kernel
theorem dX2_swapFirstTwo_7 : decode cX2_swapFirstTwo 7 = .ok (.aload_n 0, 1) := by decide +kernel
theorem dX2_swapFirstTwo_8 : decode cX2_swapFirstTwo 8 = .ok (.getfield 15, 3) := by decide +kernel
theorem dX2_swapFirstTwo_11 : decode cX2_swapFirstTwo 11 = .ok (.iconst 0, 1) := by decide +kernel
theorem dX2_swapFirstTwo_12 : decode cX2_swapFirstTwo 12 = .ok (.iaload, 1) := by decide +kernel
theorem dX2_swapFirstTwo_13 : decode cX2_swapFirstTwo 13 = .ok (.istore_n 2, 1) := by decide +kernel
theorem dX2_swapFirstTwo_14 : decode cX2_swapFirstTwo 14 = .ok (.aload_n 0, 1) := by decide +kernel
theorem dX2_swapFirstTwo_15 : decode cX2_swapFirstTwo 15 = .ok (.getfield 9, 3) := by decide +kernel
theorem dX2_swapFirstTwo_18 : decode cX2_swapFirstTwo 18 = .ok (.iconst 0, 1) := by decide +kernel
theorem dX2_swapFirstTwo_19 : decode cX2_swapFirstTwo 19 = .ok (.aload_n 0, 1) := by decide +kernel
theorem dX2_swapFirstTwo_20 : decode cX2_swapFirstTwo 20 = .ok (.getfield 9, 3) := by decide +kernel
theorem dX2_swapFirstTwo_23 : decode cX2_swapFirstTwo 23 = .ok (.iconst 1, 1) := by decide +kernel
theorem dX2_swapFirstTwo_24 : decode cX2_swapFirstTwo 24 = .ok (.iaload, 1) := by decide +kernel
theorem dX2_swapFirstTwo_25 : decode cX2_swapFirstTwo 25 = .ok (.iastore, 1) := by decide +kernel
theorem dX2_swapFirstTwo_26 : decode cX2_swapFirstTwo 26 = .ok (.aload_n 0, 1) := by decide +kernel
theorem dX2_swapFirstTwo_27 : decode cX2_swapFirstTwo 27 = .ok (.getfield 15, 3) := by decide +kernel
theorem dX2_swapFirstTwo_30 : decode cX2_swapFirstTwo 30 = .ok (.iconst 0, 1) := by decide +kernel
theorem dX2_swapFirstTwo_31 : decode cX2_swapFirstTwo 31 = .ok (.aload_n 0, 1) := by decide +kernel
theorem dX2_swapFirstTwo_32 : decode cX2_swapFirstTwo 32 = .ok (.getfield 15, 3) := by decide +kernel
theorem dX2_swapFirstTwo_35 : decode cX2_swapFirstTwo 35 = .ok (.iconst 1, 1) := by decide +kernel
theorem dX2_swapFirstTwo_36 : decode cX2_swapFirstTwo 36 = .ok (.iaload, 1) := by decide +kernel
theorem dX2_swapFirstTwo_37 : decode cX2_swapFirstTwo 37 = .ok (.iastore, 1) := by decide +kernel
theorem dX2_swapFirstTwo_38 : decode cX2_swapFirstTwo 38 = .ok (.aload_n 0, 1) := by decide +kernel
theorem dX2_swapFirstTwo_39 : decode cX2_swapFirstTwo 39 = .ok (.getfield 9, 3) := by decide +kernel
theorem dX2_swapFirstTwo_42 : decode cX2_swapFirstTwo 42 = .ok (.iconst 1, 1) := by decide +kernel
theorem dX2_swapFirstTwo_43 : decode cX2_swapFirstTwo 43 = .ok (.iload_n 1, 1) := by decide +kernel
theorem dX2_swapFirstTwo_44 : decode cX2_swapFirstTwo 44 = .ok (.iastore, 1) := by decide +kernel
theorem dX2_swapFirstTwo_45 : decode cX2_swapFirstTwo 45 = .ok (.aload_n 0, 1) := by decide +kernel
theorem dX2_swapFirstTwo_46 : decode cX2_swapFirstTwo 46 = .ok (.getfield 15, 3) := by decide +kernel
theorem dX2_swapFirstTwo_49 : decode cX2_swapFirstTwo 49 = .ok (.iconst 1, 1) := by decide +kernel
theorem dX2_swapFirstTwo_50 : decode cX2_swapFirstTwo 50 = .ok (.iload_n 2, 1) := by decide +kernel
theorem dX2_swapFirstTwo_51 : decode cX2_swapFirstTwo 51 = .ok (.iastore, 1) := by decide +kernel
theorem dX2_swapFirstTwo_52 : decode cX2_swapFirstTwo 52 = .ok (.return_, 1) := by decide +kernel
theorem dX2_length_0 : decode cX2_length 0 = .ok (.iload_n 1, 1) := by decide +kernel
theorem dX2_length_1 : decode cX2_length 1 = .ok (.aload_n 0, 1) := by decide +kernel
theorem dX2_length_2 : decode cX2_length 2 = .ok (.getfield 18, 3) := by decide +kernel
theorem dX2_length_5 : decode cX2_length 5 = .ok (.if_icmp .lt 5, 3) := by decide +kernel
theorem dX2_length_8 : decode cX2_length 8 = .ok (.lconst 1, 1) := by decide +kernel
theorem dX2_length_9 : decode cX2_length 9 = .ok (.lreturn, 1) := by decide +kernel
theorem dX2_length_10 : decode cX2_length 10 = .ok (.lconst 0, 1) := by decide +kernel
theorem dX2_length_11 : decode cX2_length 11 = .ok (.aload_n 0, 1) := by decide +kernel
theorem dX2_length_12 : decode cX2_length 12 = .ok (.getfield 15, 3) := by decide +kernel
theorem dX2_length_15 : decode cX2_length 15 = .ok (.iload_n 1, 1) := by decide +kernel
theorem dX2_length_16 : decode cX2_length 16 = .ok (.iaload, 1) := by decide +kernel
theorem dX2_length_17 : decode cX2_length 17 = .ok (.i2l, 1) := by decide +kernel
theorem dX2_length_18 : decode cX2_length 18 = .ok (.aload_n 0, 1) := by decide +kernel
theorem dX2_length_19 : decode cX2_length 19 = .ok (.getfield 9, 3) := by decide +kernel
theorem dX2_length_22 : decode cX2_length 22 = .ok (.iload_n 1, 1) := by decide +kernel
theorem dX2_length_23 : decode cX2_length 23 = .ok (.iaload, 1) := by decide +kernel
theorem dX2_length_24 : decode cX2_length 24 = .ok (.i2l, 1) := by decide +kernel
theorem dX2_length_25 : decode cX2_length 25 = .ok (.lsub, 1) := by decide +kernel
theorem dX2_length_26 : decode cX2_length 26 = .ok (.lconst 1, 1) := by decide +kernel
theorem dX2_length_27 : decode cX2_length 27 = .ok (.ladd, 1) := by decide +kernel
theorem dX2_length_28 : decode cX2_length 28 = .ok (.invokestatic 26, 3) := by decide +kernel
theorem dX2_length_31 : decode cX2_length 31 = .ok (.lreturn, 1) := by decide +kernel
theorem dX2_items_0 : decode cX2_items 0 = .ok (.lconst 1, 1) := by decide +kernel
theorem dX2_items_1 : decode cX2_items 1 = .ok (.lstore_n 1, 1) := by decide +kernel
theorem dX2_items_2 : decode cX2_items 2 = .ok (.iconst 0, 1) := by decide +kernel
theorem dX2_items_3 : decode cX2_items 3 = .ok (.istore_n 3, 1) := by decide +kernel
theorem dX2_items_4 : decode cX2_items 4 = .ok (.iload_n 3, 1) := by decide +kernel
theorem dX2_items_5 : decode cX2_items 5 = .ok (.aload_n 0, 1) := by decide +kernel
theorem dX2_items_6 : decode cX2_items 6 = .ok (.getfield 18, 3) := by decide +kernel
theorem dX2_items_9 : decode cX2_items 9 = .ok (.if_icmp .ge 23, 3) := by decide +kernel
theorem dX2_items_12 : decode cX2_items 12 = .ok (.lload_n 1, 1) := by decide +kernel
theorem dX2_items_13 : decode cX2_items 13 = .ok (.ldc2_w 32, 3) := by decide +kernel
theorem dX2_items_16 : decode cX2_items 16 = .ok (.invokestatic 34, 3) := by decide +kernel
theorem dX2_items_19 : decode cX2_items 19 = .ok (.aload_n 0, 1) := by decide +kernel
theorem dX2_items_20 : decode cX2_items 20 = .ok (.iload_n 3, 1) := by decide +kernel
theorem dX2_items_21 : decode cX2_items 21 = .ok (.invokevirtual 37, 3) := by decide +kernel
theorem dX2_items_24 : decode cX2_items 24 = .ok (.lmul, 1) := by decide +kernel
theorem dX2_items_25 : decode cX2_items 25 = .ok (.lstore_n 1, 1) := by decide +kernel
theorem dX2_items_26 : decode cX2_items 26 = .ok (.iinc 3 1, 3) := by decide +kernel
theorem dX2_items_29 : decode cX2_items 29 = .ok (.goto (-25), 3) := by decide +kernel
theorem dX2_items_32 : decode cX2_items 32 = .ok (.lload_n 1, 1) := by decide +kernel
theorem dX2_items_33 : decode cX2_items 33 = .ok (.ldc2_w 32, 3) := by decide +kernel
theorem dX2_items_36 : decode cX2_items 36 = .ok (.invokestatic 34, 3) := by decide +kernel
theorem dX2_items_39 : decode cX2_items 39 = .ok (.l2i, 1) := by decide +kernel
theorem dX2_items_40 : decode cX2_items 40 = .ok (.ireturn, 1) := by decide +kernel
theorem dX2_holds_0 : decode cX2_holds 0 = .ok (.aload_n 0, 1) := by decide +kernel
theorem dX2_holds_1 : decode cX2_holds 1 = .ok (.getfield 9, 3) := by decide +kernel
theorem dX2_holds_4 : decode cX2_holds 4 = .ok (.iload_n 1, 1) := by decide +kernel
theorem dX2_holds_5 : decode cX2_holds 5 = .ok (.iaload, 1) := by decide +kernel
theorem dX2_holds_6 : decode cX2_holds 6 = .ok (.iload_n 2, 1) := by decide +kernel
theorem dX2_holds_7 : decode cX2_holds 7 = .ok (.if_icmp .gt 17, 3) := by decide +kernel
theorem dX2_holds_10 : decode cX2_holds 10 = .ok (.iload_n 2, 1) := by decide +kernel
theorem dX2_holds_11 : decode cX2_holds 11 = .ok (.aload_n 0, 1) := by decide +kernel
theorem dX2_holds_12 : decode cX2_holds 12 = .ok (.getfield 15, 3) := by decide +kernel
theorem dX2_holds_15 : decode cX2_holds 15 = .ok (.iload_n 1, 1) := by decide +kernel
theorem dX2_holds_16 : decode cX2_holds 16 = .ok (.iaload, 1) := by decide +kernel
theorem dX2_holds_17 : decode cX2_holds 17 = .ok (.if_icmp .gt 7, 3) := by decide +kernel
theorem dX2_holds_20 : decode cX2_holds 20 = .ok (.iconst 1, 1) := by decide +kernel
theorem dX2_holds_21 : decode cX2_holds 21 = .ok (.goto 4, 3) := by decide +kernel
theorem dX2_holds_24 : decode cX2_holds 24 = .ok (.iconst 0, 1) := by decide +kernel
theorem dX2_holds_25 : decode cX2_holds 25 = .ok (.ireturn, 1) := by decide +kernel
theorem dX2_offset_0 : decode cX2_offset 0 = .ok (.iload_n 2, 1) := by decide +kernel
theorem dX2_offset_1 : decode cX2_offset 1 = .ok (.aload_n 0, 1) := by decide +kernel
theorem dX2_offset_2 : decode cX2_offset 2 = .ok (.getfield 9, 3) := by decide +kernel
theorem dX2_offset_5 : decode cX2_offset 5 = .ok (.iload_n 1, 1) := by decide +kernel
theorem dX2_offset_6 : decode cX2_offset 6 = .ok (.iaload, 1) := by decide +kernel
theorem dX2_offset_7 : decode cX2_offset 7 = .ok (.isub, 1) := by decide +kernel
theorem dX2_offset_8 : decode cX2_offset 8 = .ok (.ireturn, 1) := by decide +kernel
theorem dX2_firstBeyond_0 : decode cX2_firstBeyond 0 = .ok (.iconst 0, 1) := by decide +kernel
theorem dX2_firstBeyond_1 : decode cX2_firstBeyond 1 = .ok (.istore 4, 2) := by decide +kernel
theorem dX2_firstBeyond_3 : decode cX2_firstBeyond 3 = .ok (.iload 4, 2) := by decide +kernel
theorem dX2_firstBeyond_5 : decode cX2_firstBeyond 5 = .ok (.aload_n 0, 1) := by decide +kernel
theorem dX2_firstBeyond_6 : decode cX2_firstBeyond 6 = .ok (.getfield 18, 3) := by decide +kernel
theorem dX2_firstBeyond_9 : decode cX2_firstBeyond 9 = .ok (.if_icmp .ge 29, 3) := by decide +kernel
theorem dX2_firstBeyond_12 : decode cX2_firstBeyond 12 = .ok (.aload_n 0, 1) := by decide +kernel
theorem dX2_firstBeyond_13 : decode cX2_firstBeyond 13 = .ok (.iload 4, 2) := by decide +kernel
theorem dX2_firstBeyond_15 : decode cX2_firstBeyond 15 = .ok (.iload 4, 2) := by decide +kernel
theorem dX2_firstBeyond_17 : decode cX2_firstBeyond 17 = .ok (.iload_n 1, 1) := by decide +kernel
theorem dX2_firstBeyond_18 : decode cX2_firstBeyond 18 = .ok (.iload_n 2, 1) := by decide +kernel
theorem dX2_firstBeyond_19 : decode cX2_firstBeyond 19 = .ok (.iload_n 3, 1) := by decide +kernel
theorem dX2_firstBeyond_20 : decode cX2_firstBeyond 20 = .ok (.invokestatic 41, 3) := by decide +kernel
theorem dX2_firstBeyond_23 : decode cX2_firstBeyond 23 = .ok (.invokevirtual 45, 3) := by decide +kernel
theorem dX2_firstBeyond_26 : decode cX2_firstBeyond 26 = .ok (.ifCond .ne 6, 3) := by decide +kernel
theorem dX2_firstBeyond_29 : decode cX2_firstBeyond 29 = .ok (.iload 4, 2) := by decide +kernel
theorem dX2_firstBeyond_31 : decode cX2_firstBeyond 31 = .ok (.ireturn, 1) := by decide +kernel
theorem dX2_firstBeyond_32 : decode cX2_firstBeyond 32 = .ok (.iinc 4 1, 3) := by decide +kernel
theorem dX2_firstBeyond_35 : decode cX2_firstBeyond 35 = .ok (.goto (-32), 3) := by decide +kernel
theorem dX2_firstBeyond_38 : decode cX2_firstBeyond 38 = .ok (.iconst (-1), 1) := by decide +kernel
theorem dX2_firstBeyond_39 : decode cX2_firstBeyond 39 = .ok (.ireturn, 1) := by decide +kernel
theorem dX2_place_0 : decode cX2_place 0 = .ok (.iconst 0, 1) := by decide +kernel
theorem dX2_place_1 : decode cX2_place 1 = .ok (.istore 4, 2) := by decide +kernel
theorem dX2_place_3 : decode cX2_place 3 = .ok (.iconst 0, 1) := by decide +kernel
theorem dX2_place_4 : decode cX2_place 4 = .ok (.istore 5, 2) := by decide +kernel
theorem dX2_place_6 : decode cX2_place 6 = .ok (.iload 5, 2) := by decide +kernel
theorem dX2_place_8 : decode cX2_place 8 = .ok (.aload_n 0, 1) := by decide +kernel
theorem dX2_place_9 : decode cX2_place 9 = .ok (.getfield 18, 3) := by decide +kernel
theorem dX2_place_12 : decode cX2_place 12 = .ok (.if_icmp .ge 36, 3) := by decide +kernel
theorem dX2_place_15 : decode cX2_place 15 = .ok (.iload 4, 2) := by decide +kernel
theorem dX2_place_17 : decode cX2_place 17 = .ok (.aload_n 0, 1) := by decide +kernel
theorem dX2_place_18 : decode cX2_place 18 = .ok (.iload 5, 2) := by decide +kernel
theorem dX2_place_20 : decode cX2_place 20 = .ok (.invokevirtual 37, 3) := by decide +kernel
theorem dX2_place_23 : decode cX2_place 23 = .ok (.l2i, 1) := by decide +kernel
theorem dX2_place_24 : decode cX2_place 24 = .ok (.imul, 1) := by decide +kernel
theorem dX2_place_25 : decode cX2_place 25 = .ok (.aload_n 0, 1) := by decide +kernel
theorem dX2_place_26 : decode cX2_place 26 = .ok (.iload 5, 2) := by decide +kernel
theorem dX2_place_28 : decode cX2_place 28 = .ok (.iload 5, 2) := by decide +kernel
theorem dX2_place_30 : decode cX2_place 30 = .ok (.iload_n 1, 1) := by decide +kernel
theorem dX2_place_31 : decode cX2_place 31 = .ok (.iload_n 2, 1) := by decide +kernel
theorem dX2_place_32 : decode cX2_place 32 = .ok (.iload_n 3, 1) := by decide +kernel
theorem dX2_place_33 : decode cX2_place 33 = .ok (.invokestatic 41, 3) := by decide +kernel
theorem dX2_place_36 : decode cX2_place 36 = .ok (.invokevirtual 49, 3) := by decide +kernel
theorem dX2_place_39 : decode cX2_place 39 = .ok (.iadd, 1) := by decide +kernel
theorem dX2_place_40 : decode cX2_place 40 = .ok (.istore 4, 2) := by decide +kernel
theorem dX2_place_42 : decode cX2_place 42 = .ok (.iinc 5 1, 3) := by decide +kernel
theorem dX2_place_45 : decode cX2_place 45 = .ok (.goto (-39), 3) := by decide +kernel
theorem dX2_place_48 : decode cX2_place 48 = .ok (.iload 4, 2) := by decide +kernel
theorem dX2_place_50 : decode cX2_place 50 = .ok (.ireturn, 1) := by decide +kernel
theorem dX2_indexOf_0 : decode cX2_indexOf 0 = .ok (.iload_n 0, 1) := by decide +kernel
theorem dX2_indexOf_1 : decode cX2_indexOf 1 = .ok (.ifCond .ne 5, 3) := by decide +kernel
theorem dX2_indexOf_4 : decode cX2_indexOf 4 = .ok (.iload_n 1, 1) := by decide +kernel
theorem dX2_indexOf_5 : decode cX2_indexOf 5 = .ok (.ireturn, 1) := by decide +kernel
theorem dX2_indexOf_6 : decode cX2_indexOf 6 = .ok (.iload_n 0, 1) := by decide +kernel
theorem dX2_indexOf_7 : decode cX2_indexOf 7 = .ok (.iconst 1, 1) := by decide +kernel
theorem dX2_indexOf_8 : decode cX2_indexOf 8 = .ok (.if_icmp .ne 7, 3) := by decide +kernel
theorem dX2_indexOf_11 : decode cX2_indexOf 11 = .ok (.iload_n 2, 1) := by decide +kernel
theorem dX2_indexOf_12 : decode cX2_indexOf 12 = .ok (.goto 4, 3) := by decide +kernel
theorem dX2_indexOf_15 : decode cX2_indexOf 15 = .ok (.iload_n 3, 1) := by decide +kernel
theorem dX2_indexOf_16 : decode cX2_indexOf 16 = .ok (.ireturn, 1) := by decide +kernel
end
section
theorem dX3_init_0 : decode cX3_init 0 = .ok (.aload_n 0, 1) := by decide +kernel
theorem dX3_init_1 : decode cX3_init 1 = .ok (.invokespecial 3, 3) := by decide +kernel
theorem dX3_init_4 : decode cX3_init 4 = .ok (.aload_n 0, 1) := by decide +kernel
theorem dX3_init_5 : decode cX3_init 5 = .ok (.bipush 64, 2) := by decide +kernel
theorem dX3_init_7 : decode cX3_init 7 = .ok (.newarray .long, 2) := by decide +kernel
theorem dX3_init_9 : decode cX3_init 9 = .ok (.putfield 9, 3) := by decide +kernel
theorem dX3_init_12 : decode cX3_init 12 = .ok (.aload_n 0, 1) := by decide +kernel
theorem dX3_init_13 : decode cX3_init 13 = .ok (.bipush 64, 2) := by decide +kernel
theorem dX3_init_15 : decode cX3_init 15 = .ok (.newarray .boolean, 2) := by decide +kernel
theorem dX3_init_17 : decode cX3_init 17 = .ok (.putfield 15, 3) := by decide +kernel
theorem dX3_init_20 : decode cX3_init 20 = .ok (.aload_n 0, 1) := by decide +kernel
theorem dX3_init_21 : decode cX3_init 21 = .ok (.bipush 32, 2) := by decide +kernel
theorem dX3_init_23 : decode cX3_init 23 = .ok (.newarray .int, 2) := by decide +kernel
theorem dX3_init_25 : decode cX3_init 25 = .ok (.putfield 19, 3) := by decide +kernel
theorem dX3_init_28 : decode cX3_init 28 = .ok (.aload_n 0, 1) := by decide +kernel
theorem dX3_init_29 : decode cX3_init 29 = .ok (.bipush 32, 2) := by decide +kernel
theorem dX3_init_31 : decode cX3_init 31 = .ok (.newarray .int, 2) := by decide +kernel
theorem dX3_init_33 : decode cX3_init 33 = .ok (.putfield 23, 3) := by decide +kernel
theorem dX3_init_36 : decode cX3_init 36 = .ok (.return_, 1) := by decide +kernel
theorem dX3_reserve_0 : decode cX3_reserve 0 = .ok (.iload_n 1, 1) := by decide +kernel
theorem dX3_reserve_1 : decode cX3_reserve 1 = .ok (.sipush 12512, 3) := by decide +kernel
theorem dX3_reserve_4 : decode cX3_reserve 4 = .ok (.aload_n 0, 1) := by decide +kernel
theorem dX3_reserve_5 : decode cX3_reserve 5 = .ok (.getfield 26, 3) := by decide +kernel
theorem dX3_reserve_8 : decode cX3_reserve 8 = .ok (.isub, 1) := by decide +kernel
theorem dX3_reserve_9 : decode cX3_reserve 9 = .ok (.if_icmp .gt 14, 3) := by decide +kernel
theorem dX3_reserve_12 : decode cX3_reserve 12 = .ok (.iload_n 2, 1) := by decide +kernel
theorem dX3_reserve_13 : decode cX3_reserve 13 = .ok (.ldc 30, 2) := by decide +kernel
theorem dX3_reserve_15 : decode cX3_reserve 15 = .ok (.aload_n 0, 1) := by decide +kernel
theorem dX3_reserve_16 : decode cX3_reserve 16 = .ok (.getfield 31, 3) := by decide +kernel
theorem dX3_reserve_19 : decode cX3_reserve 19 = .ok (.isub, 1) := by decide +kernel
theorem dX3_reserve_20 : decode cX3_reserve 20 = .ok (.if_icmp .le 5, 3) := by decide +kernel
theorem dX3_reserve_23 : decode cX3_reserve 23 = .ok (.iconst 0, 1) := by decide +kernel
theorem dX3_reserve_24 : decode cX3_reserve 24 = .ok (.ireturn, 1) := by decide +kernel
theorem dX3_reserve_25 : decode cX3_reserve 25 = .ok (.aload_n 0, 1) := by decide +kernel
theorem dX3_reserve_26 : decode cX3_reserve 26 = .ok (.aload_n 0, 1) := by decide +kernel
theorem dX3_reserve_27 : decode cX3_reserve 27 = .ok (.getfield 26, 3) := by decide +kernel
theorem dX3_reserve_30 : decode cX3_reserve 30 = .ok (.iload_n 1, 1) := by decide +kernel
theorem dX3_reserve_31 : decode cX3_reserve 31 = .ok (.iadd, 1) := by decide +kernel
theorem dX3_reserve_32 : decode cX3_reserve 32 = .ok (.invokevirtual 34, 3) := by decide +kernel
theorem dX3_reserve_35 : decode cX3_reserve 35 = .ok (.aload_n 0, 1) := by decide +kernel
theorem dX3_reserve_36 : decode cX3_reserve 36 = .ok (.aload_n 0, 1) := by decide +kernel
theorem dX3_reserve_37 : decode cX3_reserve 37 = .ok (.getfield 31, 3) := by decide +kernel
theorem dX3_reserve_40 : decode cX3_reserve 40 = .ok (.iload_n 2, 1) := by decide +kernel
theorem dX3_reserve_41 : decode cX3_reserve 41 = .ok (.iadd, 1) := by decide +kernel
theorem dX3_reserve_42 : decode cX3_reserve 42 = .ok (.invokevirtual 38, 3) := by decide +kernel
theorem dX3_reserve_45 : decode cX3_reserve 45 = .ok (.iconst 1, 1) := by decide +kernel
theorem dX3_reserve_46 : decode cX3_reserve 46 = .ok (.ireturn, 1) := by decide +kernel
theorem dX3_growRows_0 : decode cX3_growRows 0 = .ok (.iload_n 1, 1) := by decide +kernel
theorem dX3_growRows_1 : decode cX3_growRows 1 = .ok (.aload_n 0, 1) := by decide +kernel
theorem dX3_growRows_2 : decode cX3_growRows 2 = .ok (.getfield 19, 3) := by decide +kernel
theorem dX3_growRows_5 : decode cX3_growRows 5 = .ok (.arraylength, 1) := by decide +kernel
theorem dX3_growRows_6 : decode cX3_growRows 6 = .ok (.if_icmp .le 39, 3) := by decide +kernel
theorem dX3_growRows_9 : decode cX3_growRows 9 = .ok (.iload_n 1, 1) := by decide +kernel
theorem dX3_growRows_10 : decode cX3_growRows 10 = .ok (.iconst 2, 1) := by decide +kernel
theorem dX3_growRows_11 : decode cX3_growRows 11 = .ok (.aload_n 0, 1) := by decide +kernel
theorem dX3_growRows_12 : decode cX3_growRows 12 = .ok (.getfield 19, 3) := by decide +kernel
theorem dX3_growRows_15 : decode cX3_growRows 15 = .ok (.arraylength, 1) := by decide +kernel
theorem dX3_growRows_16 : decode cX3_growRows 16 = .ok (.imul, 1) := by decide +kernel
theorem dX3_growRows_17 : decode cX3_growRows 17 = .ok (.invokestatic 41, 3) := by decide +kernel
theorem dX3_growRows_20 : decode cX3_growRows 20 = .ok (.istore_n 2, 1) := by decide +kernel
theorem dX3_growRows_21 : decode cX3_growRows 21 = .ok (.aload_n 0, 1) := by decide +kernel
theorem dX3_growRows_22 : decode cX3_growRows 22 = .ok (.aload_n 0, 1) := by decide +kernel
theorem dX3_growRows_23 : decode cX3_growRows 23 = .ok (.getfield 19, 3) := by decide +kernel
theorem dX3_growRows_26 : decode cX3_growRows 26 = .ok (.iload_n 2, 1) := by decide +kernel
theorem dX3_growRows_27 : decode cX3_growRows 27 = .ok (.invokestatic 47, 3) := by decide +kernel
theorem dX3_growRows_30 : decode cX3_growRows 30 = .ok (.putfield 19, 3) := by decide +kernel
theorem dX3_growRows_33 : decode cX3_growRows 33 = .ok (.aload_n 0, 1) := by decide +kernel
theorem dX3_growRows_34 : decode cX3_growRows 34 = .ok (.aload_n 0, 1) := by decide +kernel
theorem dX3_growRows_35 : decode cX3_growRows 35 = .ok (.getfield 23, 3) := by decide +kernel
theorem dX3_growRows_38 : decode cX3_growRows 38 = .ok (.iload_n 2, 1) := by decide +kernel
theorem dX3_growRows_39 : decode cX3_growRows 39 = .ok (.invokestatic 47, 3) := by decide +kernel
theorem dX3_growRows_42 : decode cX3_growRows 42 = .ok (.putfield 23, 3) := by decide +kernel
theorem dX3_growRows_45 : decode cX3_growRows 45 = .ok (.return_, 1) := by decide +kernel
theorem dX3_growCells_0 : decode cX3_growCells 0 = .ok (.iload_n 1, 1) := by decide +kernel
theorem dX3_growCells_1 : decode cX3_growCells 1 = .ok (.aload_n 0, 1) := by decide +kernel
theorem dX3_growCells_2 : decode cX3_growCells 2 = .ok (.getfield 9, 3) := by decide +kernel
theorem dX3_growCells_5 : decode cX3_growCells 5 = .ok (.arraylength, 1) := by decide +kernel
theorem dX3_growCells_6 : decode cX3_growCells 6 = .ok (.if_icmp .le 50, 3) := by decide +kernel
theorem dX3_growCells_9 : decode cX3_growCells 9 = .ok (.iload_n 1, 1) := by decide +kernel
theorem dX3_growCells_10 : decode cX3_growCells 10 = .ok (.iconst 2, 1) := by decide +kernel
theorem dX3_growCells_11 : decode cX3_growCells 11 = .ok (.aload_n 0, 1) := by decide +kernel
theorem dX3_growCells_12 : decode cX3_growCells 12 = .ok (.getfield 9, 3) := by decide +kernel
theorem dX3_growCells_15 : decode cX3_growCells 15 = .ok (.arraylength, 1) := by decide +kernel
theorem dX3_growCells_16 : decode cX3_growCells 16 = .ok (.imul, 1) := by decide +kernel
theorem dX3_growCells_17 : decode cX3_growCells 17 = .ok (.invokestatic 41, 3) := by decide +kernel
theorem dX3_growCells_20 : decode cX3_growCells 20 = .ok (.istore_n 2, 1) := by decide +kernel
theorem dX3_growCells_21 : decode cX3_growCells 21 = .ok (.aload_n 0, 1) := by decide +kernel
theorem dX3_growCells_22 : decode cX3_growCells 22 = .ok (.aload_n 0, 1) := by decide +kernel
theorem dX3_growCells_23 : decode cX3_growCells 23 = .ok (.getfield 9, 3) := by decide +kernel
theorem dX3_growCells_26 : decode cX3_growCells 26 = .ok (.iload_n 2, 1) := by decide +kernel
theorem dX3_growCells_27 : decode cX3_growCells 27 = .ok (.invokestatic 53, 3) := by decide +kernel
theorem dX3_growCells_30 : decode cX3_growCells 30 = .ok (.putfield 9, 3) := by decide +kernel
theorem dX3_growCells_33 : decode cX3_growCells 33 = .ok (.iload_n 2, 1) := by decide +kernel
theorem dX3_growCells_34 : decode cX3_growCells 34 = .ok (.newarray .boolean, 2) := by decide +kernel
theorem dX3_growCells_36 : decode cX3_growCells 36 = .ok (.astore_n 3, 1) := by decide +kernel
theorem dX3_growCells_37 : decode cX3_growCells 37 = .ok (.aload_n 0, 1) := by decide +kernel
theorem dX3_growCells_38 : decode cX3_growCells 38 = .ok (.getfield 15, 3) := by decide +kernel
theorem dX3_growCells_41 : decode cX3_growCells 41 = .ok (.iconst 0, 1) := by decide +kernel
theorem dX3_growCells_42 : decode cX3_growCells 42 = .ok (.aload_n 3, 1) := by decide +kernel
theorem dX3_growCells_43 : decode cX3_growCells 43 = .ok (.iconst 0, 1) := by decide +kernel
theorem dX3_growCells_44 : decode cX3_growCells 44 = .ok (.aload_n 0, 1) := by decide +kernel
theorem dX3_growCells_45 : decode cX3_growCells 45 = .ok (.getfield 31, 3) := by decide +kernel
theorem dX3_growCells_48 : decode cX3_growCells 48 = .ok (.invokestatic 56, 3) := by decide +kernel
theorem dX3_growCells_51 : decode cX3_growCells 51 = .ok (.aload_n 0, 1) := by decide +kernel
theorem dX3_growCells_52 : decode cX3_growCells 52 = .ok (.aload_n 3, 1) := by decide +kernel
theorem dX3_growCells_53 : decode cX3_growCells 53 = .ok (.putfield 15, 3) := by decide +kernel
theorem dX3_growCells_56 : decode cX3_growCells 56 = .ok (.return_, 1) := by decide +kernel
theorem dX3_addRow_0 : decode cX3_addRow 0 = .ok (.aload_n 0, 1) := by decide +kernel
theorem dX3_addRow_1 : decode cX3_addRow 1 = .ok (.getfield 26, 3) := by decide +kernel
theorem dX3_addRow_4 : decode cX3_addRow 4 = .ok (.istore_n 3, 1) := by decide +kernel
theorem dX3_addRow_5 : decode cX3_addRow 5 = .ok (.aload_n 0, 1) := by decide +kernel
theorem dX3_addRow_6 : decode cX3_addRow 6 = .ok (.getfield 19, 3) := by decide +kernel
theorem dX3_addRow_9 : decode cX3_addRow 9 = .ok (.iload_n 3, 1) := by decide +kernel
theorem dX3_addRow_10 : decode cX3_addRow 10 = .ok (.aload_n 0, 1) := by decide +kernel
theorem dX3_addRow_11 : decode cX3_addRow 11 = .ok (.getfield 31, 3) := by decide +kernel
theorem dX3_addRow_14 : decode cX3_addRow 14 = .ok (.iastore, 1) := by decide +kernel
theorem dX3_addRow_15 : decode cX3_addRow 15 = .ok (.aload_n 0, 1) := by decide +kernel
theorem dX3_addRow_16 : decode cX3_addRow 16 = .ok (.getfield 23, 3) := by decide +kernel
theorem dX3_addRow_19 : decode cX3_addRow 19 = .ok (.iload_n 3, 1) := by decide +kernel
theorem dX3_addRow_20 : decode cX3_addRow 20 = .ok (.iload_n 1, 1) := by decide +kernel
theorem dX3_addRow_21 : decode cX3_addRow 21 = .ok (.iastore, 1) := by decide +kernel
theorem dX3_addRow_22 : decode cX3_addRow 22 = .ok (.aload_n 0, 1) := by decide +kernel
theorem dX3_addRow_23 : decode cX3_addRow 23 = .ok (.getfield 31, 3) := by decide +kernel
theorem dX3_addRow_26 : decode cX3_addRow 26 = .ok (.istore 4, 2) := by decide +kernel
theorem dX3_addRow_28 : decode cX3_addRow 28 = .ok (.iload 4, 2) := by decide +kernel
theorem dX3_addRow_30 : decode cX3_addRow 30 = .ok (.aload_n 0, 1) := by decide +kernel
theorem dX3_addRow_31 : decode cX3_addRow 31 = .ok (.getfield 31, 3) := by decide +kernel
theorem dX3_addRow_34 : decode cX3_addRow 34 = .ok (.iload_n 1, 1) := by decide +kernel
theorem dX3_addRow_35 : decode cX3_addRow 35 = .ok (.iadd, 1) := by decide +kernel
theorem dX3_addRow_36 : decode cX3_addRow 36 = .ok (.if_icmp .ge 25, 3) := by decide +kernel
theorem dX3_addRow_39 : decode cX3_addRow 39 = .ok (.aload_n 0, 1) := by decide +kernel
theorem dX3_addRow_40 : decode cX3_addRow 40 = .ok (.getfield 9, 3) := by decide +kernel
theorem dX3_addRow_43 : decode cX3_addRow 43 = .ok (.iload 4, 2) := by decide +kernel
theorem dX3_addRow_45 : decode cX3_addRow 45 = .ok (.lconst 0, 1) := by decide +kernel
theorem dX3_addRow_46 : decode cX3_addRow 46 = .ok (.lastore, 1) := by decide +kernel
theorem dX3_addRow_47 : decode cX3_addRow 47 = .ok (.aload_n 0, 1) := by decide +kernel
theorem dX3_addRow_48 : decode cX3_addRow 48 = .ok (.getfield 15, 3) := by decide +kernel
theorem dX3_addRow_51 : decode cX3_addRow 51 = .ok (.iload 4, 2) := by decide +kernel
theorem dX3_addRow_53 : decode cX3_addRow 53 = .ok (.iload_n 2, 1) := by decide +kernel
theorem dX3_addRow_54 : decode cX3_addRow 54 = .ok (.bastore, 1) := by decide +kernel
theorem dX3_addRow_55 : decode cX3_addRow 55 = .ok (.iinc 4 1, 3) := by decide +kernel
theorem dX3_addRow_58 : decode cX3_addRow 58 = .ok (.goto (-30), 3) := by decide +kernel
theorem dX3_addRow_61 : decode cX3_addRow 61 = .ok (.aload_n 0, 1) := by decide +kernel
theorem dX3_addRow_62 : decode cX3_addRow 62 = .ok (.dup, 1) := by decide +kernel
theorem dX3_addRow_63 : decode cX3_addRow 63 = .ok (.getfield 26, 3) := by decide +kernel
theorem dX3_addRow_66 : decode cX3_addRow 66 = .ok (.iconst 1, 1) := by decide +kernel
theorem dX3_addRow_67 : decode cX3_addRow 67 = .ok (.iadd, 1) := by decide +kernel
theorem dX3_addRow_68 : decode cX3_addRow 68 = .ok (.putfield 26, 3) := by decide +kernel
theorem dX3_addRow_71 : decode cX3_addRow 71 = .ok (.aload_n 0, 1) := by decide +kernel
theorem dX3_addRow_72 : decode cX3_addRow 72 = .ok (.dup, 1) := by decide +kernel
theorem dX3_addRow_73 : decode cX3_addRow 73 = .ok (.getfield 31, 3) := by decide +kernel
theorem dX3_addRow_76 : decode cX3_addRow 76 = .ok (.iload_n 1, 1) := by decide +kernel
theorem dX3_addRow_77 : decode cX3_addRow 77 = .ok (.iadd, 1) := by decide +kernel
theorem dX3_addRow_78 : decode cX3_addRow 78 = .ok (.putfield 31, 3) := by decide +kernel
theorem dX3_addRow_81 : decode cX3_addRow 81 = .ok (.iload_n 3, 1) := by decide +kernel
theorem dX3_addRow_82 : decode cX3_addRow 82 = .ok (.ireturn, 1) := by decide +kernel
theorem dX3_forget_0 : decode cX3_forget 0 = .ok (.aload_n 0, 1) := by decide +kernel
theorem dX3_forget_1 : decode cX3_forget 1 = .ok (.iconst 0, 1) := by decide +kernel
theorem dX3_forget_2 : decode cX3_forget 2 = .ok (.putfield 31, 3) := by decide +kernel
theorem dX3_forget_5 : decode cX3_forget 5 = .ok (.aload_n 0, 1) := by decide +kernel
theorem dX3_forget_6 : decode cX3_forget 6 = .ok (.iconst 0, 1) := by decide +kernel
theorem dX3_forget_7 : decode cX3_forget 7 = .ok (.putfield 26, 3) := by decide +kernel
theorem dX3_forget_10 : decode cX3_forget 10 = .ok (.return_, 1) := by decide +kernel
theorem dX3_startOf_0 : decode cX3_startOf 0 = .ok (.iload_n 1, 1) := by decide +kernel
theorem dX3_startOf_1 : decode cX3_startOf 1 = .ok (.iconst (-1), 1) := by decide +kernel
theorem dX3_startOf_2 : decode cX3_startOf 2 = .ok (.if_icmp .ne 7, 3) := by decide +kernel
theorem dX3_startOf_5 : decode cX3_startOf 5 = .ok (.iconst 0, 1) := by decide +kernel
theorem dX3_startOf_6 : decode cX3_startOf 6 = .ok (.goto 9, 3) := by decide +kernel
theorem dX3_startOf_9 : decode cX3_startOf 9 = .ok (.aload_n 0, 1) := by decide +kernel
theorem dX3_startOf_10 : decode cX3_startOf 10 = .ok (.getfield 19, 3) := by decide +kernel
theorem dX3_startOf_13 : decode cX3_startOf 13 = .ok (.iload_n 1, 1) := by decide +kernel
theorem dX3_startOf_14 : decode cX3_startOf 14 = .ok (.iaload, 1) := by decide +kernel
theorem dX3_startOf_15 : decode cX3_startOf 15 = .ok (.ireturn, 1) := by decide +kernel
theorem dX3_lengthOf_0 : decode cX3_lengthOf 0 = .ok (.iload_n 1, 1) := by decide +kernel
theorem dX3_lengthOf_1 : decode cX3_lengthOf 1 = .ok (.iconst (-1), 1) := by decide +kernel
theorem dX3_lengthOf_2 : decode cX3_lengthOf 2 = .ok (.if_icmp .ne 7, 3) := by decide +kernel
theorem dX3_lengthOf_5 : decode cX3_lengthOf 5 = .ok (.iconst 0, 1) := by decide +kernel
theorem dX3_lengthOf_6 : decode cX3_lengthOf 6 = .ok (.goto 9, 3) := by decide +kernel
theorem dX3_lengthOf_9 : decode cX3_lengthOf 9 = .ok (.aload_n 0, 1) := by decide +kernel
theorem dX3_lengthOf_10 : decode cX3_lengthOf 10 = .ok (.getfield 23, 3) := by decide +kernel
theorem dX3_lengthOf_13 : decode cX3_lengthOf 13 = .ok (.iload_n 1, 1) := by decide +kernel
theorem dX3_lengthOf_14 : decode cX3_lengthOf 14 = .ok (.iaload, 1) := by decide +kernel
theorem dX3_lengthOf_15 : decode cX3_lengthOf 15 = .ok (.ireturn, 1) := by decide +kernel
theorem dX3_fill_0 : decode cX3_fill 0 = .ok (.aload_n 0, 1) := by decide +kernel
theorem dX3_fill_1 : decode cX3_fill 1 = .ok (.getfield 9, 3) := by decide +kernel
theorem dX3_fill_4 : decode cX3_fill 4 = .ok (.iload_n 1, 1) := by decide +kernel
theorem dX3_fill_5 : decode cX3_fill 5 = .ok (.lload_n 2, 1) := by decide +kernel
theorem dX3_fill_6 : decode cX3_fill 6 = .ok (.lastore, 1) := by decide +kernel
theorem dX3_fill_7 : decode cX3_fill 7 = .ok (.aload_n 0, 1) := by decide +kernel
theorem dX3_fill_8 : decode cX3_fill 8 = .ok (.getfield 15, 3) := by decide +kernel
theorem dX3_fill_11 : decode cX3_fill 11 = .ok (.iload_n 1, 1) := by decide +kernel
theorem dX3_fill_12 : decode cX3_fill 12 = .ok (.iconst 1, 1) := by decide +kernel
theorem dX3_fill_13 : decode cX3_fill 13 = .ok (.bastore, 1) := by decide +kernel
theorem dX3_fill_14 : decode cX3_fill 14 = .ok (.return_, 1) := by decide +kernel
theorem dX3_drain_0 : decode cX3_drain 0 = .ok (.aload_n 0, 1) := by decide +kernel
theorem dX3_drain_1 : decode cX3_drain 1 = .ok (.getfield 9, 3) := by decide +kernel
theorem dX3_drain_4 : decode cX3_drain 4 = .ok (.iload_n 1, 1) := by decide +kernel
theorem dX3_drain_5 : decode cX3_drain 5 = .ok (.lconst 0, 1) := by decide +kernel
theorem dX3_drain_6 : decode cX3_drain 6 = .ok (.lastore, 1) := by decide +kernel
theorem dX3_drain_7 : decode cX3_drain 7 = .ok (.aload_n 0, 1) := by decide +kernel
theorem dX3_drain_8 : decode cX3_drain 8 = .ok (.getfield 15, 3) := by decide +kernel
theorem dX3_drain_11 : decode cX3_drain 11 = .ok (.iload_n 1, 1) := by decide +kernel
theorem dX3_drain_12 : decode cX3_drain 12 = .ok (.iconst 0, 1) := by decide +kernel
theorem dX3_drain_13 : decode cX3_drain 13 = .ok (.bastore, 1) := by decide +kernel
theorem dX3_drain_14 : decode cX3_drain 14 = .ok (.return_, 1) := by decide +kernel
theorem dX3_copyCells_0 : decode cX3_copyCells 0 = .ok (.iconst 0, 1) := by decide +kernel
theorem dX3_copyCells_1 : decode cX3_copyCells 1 = .ok (.istore 4, 2) := by decide +kernel
theorem dX3_copyCells_3 : decode cX3_copyCells 3 = .ok (.iload 4, 2) := by decide +kernel
theorem dX3_copyCells_5 : decode cX3_copyCells 5 = .ok (.iload_n 3, 1) := by decide +kernel
theorem dX3_copyCells_6 : decode cX3_copyCells 6 = .ok (.if_icmp .ge 45, 3) := by decide +kernel
theorem dX3_copyCells_9 : decode cX3_copyCells 9 = .ok (.aload_n 0, 1) := by decide +kernel
theorem dX3_copyCells_10 : decode cX3_copyCells 10 = .ok (.getfield 9, 3) := by decide +kernel
theorem dX3_copyCells_13 : decode cX3_copyCells 13 = .ok (.iload_n 2, 1) := by decide +kernel
theorem dX3_copyCells_14 : decode cX3_copyCells 14 = .ok (.iload 4, 2) := by decide +kernel
theorem dX3_copyCells_16 : decode cX3_copyCells 16 = .ok (.iadd, 1) := by decide +kernel
theorem dX3_copyCells_17 : decode cX3_copyCells 17 = .ok (.aload_n 0, 1) := by decide +kernel
theorem dX3_copyCells_18 : decode cX3_copyCells 18 = .ok (.getfield 9, 3) := by decide +kernel
theorem dX3_copyCells_21 : decode cX3_copyCells 21 = .ok (.iload_n 1, 1) := by decide +kernel
theorem dX3_copyCells_22 : decode cX3_copyCells 22 = .ok (.iload 4, 2) := by decide +kernel
theorem dX3_copyCells_24 : decode cX3_copyCells 24 = .ok (.iadd, 1) := by decide +kernel
theorem dX3_copyCells_25 : decode cX3_copyCells 25 = .ok (.laload, 1) := by decide +kernel
theorem dX3_copyCells_26 : decode cX3_copyCells 26 = .ok (.lastore, 1) := by decide +kernel
theorem dX3_copyCells_27 : decode cX3_copyCells 27 = .ok (.aload_n 0, 1) := by decide +kernel
theorem dX3_copyCells_28 : decode cX3_copyCells 28 = .ok (.getfield 15, 3) := by decide +kernel
theorem dX3_copyCells_31 : decode cX3_copyCells 31 = .ok (.iload_n 2, 1) := by decide +kernel
theorem dX3_copyCells_32 : decode cX3_copyCells 32 = .ok (.iload 4, 2) := by decide +kernel
theorem dX3_copyCells_34 : decode cX3_copyCells 34 = .ok (.iadd, 1) := by decide +kernel
theorem dX3_copyCells_35 : decode cX3_copyCells 35 = .ok (.aload_n 0, 1) := by decide +kernel
theorem dX3_copyCells_36 : decode cX3_copyCells 36 = .ok (.getfield 15, 3) := by decide +kernel
theorem dX3_copyCells_39 : decode cX3_copyCells 39 = .ok (.iload_n 1, 1) := by decide +kernel
theorem dX3_copyCells_40 : decode cX3_copyCells 40 = .ok (.iload 4, 2) := by decide +kernel
theorem dX3_copyCells_42 : decode cX3_copyCells 42 = .ok (.iadd, 1) := by decide +kernel
theorem dX3_copyCells_43 : decode cX3_copyCells 43 = .ok (.baload, 1) := by decide +kernel
theorem dX3_copyCells_44 : decode cX3_copyCells 44 = .ok (.bastore, 1) := by decide +kernel
theorem dX3_copyCells_45 : decode cX3_copyCells 45 = .ok (.iinc 4 1, 3) := by decide +kernel
theorem dX3_copyCells_48 : decode cX3_copyCells 48 = .ok (.goto (-45), 3) := by decide +kernel
theorem dX3_copyCells_51 : decode cX3_copyCells 51 = .ok (.return_, 1) := by decide +kernel
theorem dX3_totalOf_0 : decode cX3_totalOf 0 = .ok (.lconst 0, 1) := by decide +kernel
theorem dX3_totalOf_1 : decode cX3_totalOf 1 = .ok (.lstore_n 2, 1) := by decide +kernel
theorem dX3_totalOf_2 : decode cX3_totalOf 2 = .ok (.iconst 0, 1) := by decide +kernel
theorem dX3_totalOf_3 : decode cX3_totalOf 3 = .ok (.istore 4, 2) := by decide +kernel
theorem dX3_totalOf_5 : decode cX3_totalOf 5 = .ok (.iload 4, 2) := by decide +kernel
theorem dX3_totalOf_7 : decode cX3_totalOf 7 = .ok (.aload_n 0, 1) := by decide +kernel
theorem dX3_totalOf_8 : decode cX3_totalOf 8 = .ok (.iload_n 1, 1) := by decide +kernel
theorem dX3_totalOf_9 : decode cX3_totalOf 9 = .ok (.invokevirtual 62, 3) := by decide +kernel
theorem dX3_totalOf_12 : decode cX3_totalOf 12 = .ok (.if_icmp .ge 25, 3) := by decide +kernel
theorem dX3_totalOf_15 : decode cX3_totalOf 15 = .ok (.lload_n 2, 1) := by decide +kernel
theorem dX3_totalOf_16 : decode cX3_totalOf 16 = .ok (.aload_n 0, 1) := by decide +kernel
theorem dX3_totalOf_17 : decode cX3_totalOf 17 = .ok (.getfield 9, 3) := by decide +kernel
theorem dX3_totalOf_20 : decode cX3_totalOf 20 = .ok (.aload_n 0, 1) := by decide +kernel
theorem dX3_totalOf_21 : decode cX3_totalOf 21 = .ok (.iload_n 1, 1) := by decide +kernel
theorem dX3_totalOf_22 : decode cX3_totalOf 22 = .ok (.invokevirtual 66, 3) := by decide +kernel
theorem dX3_totalOf_25 : decode cX3_totalOf 25 = .ok (.iload 4, 2) := by decide +kernel
theorem dX3_totalOf_27 : decode cX3_totalOf 27 = .ok (.iadd, 1) := by decide +kernel
theorem dX3_totalOf_28 : decode cX3_totalOf 28 = .ok (.laload, 1) := by decide +kernel
theorem dX3_totalOf_29 : decode cX3_totalOf 29 = .ok (.ladd, 1) := by decide +kernel
theorem dX3_totalOf_30 : decode cX3_totalOf 30 = .ok (.lstore_n 2, 1) := by decide +kernel
theorem dX3_totalOf_31 : decode cX3_totalOf 31 = .ok (.iinc 4 1, 3) := by decide +kernel
theorem dX3_totalOf_34 : decode cX3_totalOf 34 = .ok (.goto (-29), 3) := by decide +kernel
theorem dX3_totalOf_37 : decode cX3_totalOf 37 = .ok (.lload_n 2, 1) := by decide +kernel
theorem dX3_totalOf_38 : decode cX3_totalOf 38 = .ok (.lreturn, 1) := by decide +kernel
theorem dX3_orderOf_0 : decode cX3_orderOf 0 = .ok (.aload_n 0, 1) := by decide +kernel
theorem dX3_orderOf_1 : decode cX3_orderOf 1 = .ok (.iload_n 1, 1) := by decide +kernel
theorem dX3_orderOf_2 : decode cX3_orderOf 2 = .ok (.invokevirtual 62, 3) := by decide +kernel
theorem dX3_orderOf_5 : decode cX3_orderOf 5 = .ok (.aload_n 0, 1) := by decide +kernel
theorem dX3_orderOf_6 : decode cX3_orderOf 6 = .ok (.iload_n 2, 1) := by decide +kernel
theorem dX3_orderOf_7 : decode cX3_orderOf 7 = .ok (.invokevirtual 62, 3) := by decide +kernel
theorem dX3_orderOf_10 : decode cX3_orderOf 10 = .ok (.invokestatic 69, 3) := by decide +kernel
theorem dX3_orderOf_13 : decode cX3_orderOf 13 = .ok (.istore_n 3, 1) := by decide +kernel
theorem dX3_orderOf_14 : decode cX3_orderOf 14 = .ok (.iconst 0, 1) := by decide +kernel
theorem dX3_orderOf_15 : decode cX3_orderOf 15 = .ok (.istore 4, 2) := by decide +kernel
theorem dX3_orderOf_17 : decode cX3_orderOf 17 = .ok (.iload 4, 2) := by decide +kernel
theorem dX3_orderOf_19 : decode cX3_orderOf 19 = .ok (.iload_n 3, 1) := by decide +kernel
theorem dX3_orderOf_20 : decode cX3_orderOf 20 = .ok (.if_icmp .ge 48, 3) := by decide +kernel
theorem dX3_orderOf_23 : decode cX3_orderOf 23 = .ok (.aload_n 0, 1) := by decide +kernel
theorem dX3_orderOf_24 : decode cX3_orderOf 24 = .ok (.getfield 9, 3) := by decide +kernel
theorem dX3_orderOf_27 : decode cX3_orderOf 27 = .ok (.aload_n 0, 1) := by decide +kernel
theorem dX3_orderOf_28 : decode cX3_orderOf 28 = .ok (.iload_n 1, 1) := by decide +kernel
theorem dX3_orderOf_29 : decode cX3_orderOf 29 = .ok (.invokevirtual 66, 3) := by decide +kernel
theorem dX3_orderOf_32 : decode cX3_orderOf 32 = .ok (.iload 4, 2) := by decide +kernel
theorem dX3_orderOf_34 : decode cX3_orderOf 34 = .ok (.iadd, 1) := by decide +kernel
theorem dX3_orderOf_35 : decode cX3_orderOf 35 = .ok (.laload, 1) := by decide +kernel
theorem dX3_orderOf_36 : decode cX3_orderOf 36 = .ok (.aload_n 0, 1) := by decide +kernel
theorem dX3_orderOf_37 : decode cX3_orderOf 37 = .ok (.getfield 9, 3) := by decide +kernel
theorem dX3_orderOf_40 : decode cX3_orderOf 40 = .ok (.aload_n 0, 1) := by decide +kernel
theorem dX3_orderOf_41 : decode cX3_orderOf 41 = .ok (.iload_n 2, 1) := by decide +kernel
theorem dX3_orderOf_42 : decode cX3_orderOf 42 = .ok (.invokevirtual 66, 3) := by decide +kernel
theorem dX3_orderOf_45 : decode cX3_orderOf 45 = .ok (.iload 4, 2) := by decide +kernel
theorem dX3_orderOf_47 : decode cX3_orderOf 47 = .ok (.iadd, 1) := by decide +kernel
theorem dX3_orderOf_48 : decode cX3_orderOf 48 = .ok (.laload, 1) := by decide +kernel
theorem dX3_orderOf_49 : decode cX3_orderOf 49 = .ok (.invokestatic 72, 3) := by decide +kernel
theorem dX3_orderOf_52 : decode cX3_orderOf 52 = .ok (.istore 5, 2) := by decide +kernel
theorem dX3_orderOf_54 : decode cX3_orderOf 54 = .ok (.iload 5, 2) := by decide +kernel
theorem dX3_orderOf_56 : decode cX3_orderOf 56 = .ok (.ifCond .eq 6, 3) := by decide +kernel
theorem dX3_orderOf_59 : decode cX3_orderOf 59 = .ok (.iload 5, 2) := by decide +kernel
theorem dX3_orderOf_61 : decode cX3_orderOf 61 = .ok (.ireturn, 1) := by decide +kernel
theorem dX3_orderOf_62 : decode cX3_orderOf 62 = .ok (.iinc 4 1, 3) := by decide +kernel
theorem dX3_orderOf_65 : decode cX3_orderOf 65 = .ok (.goto (-48), 3) := by decide +kernel
theorem dX3_orderOf_68 : decode cX3_orderOf 68 = .ok (.aload_n 0, 1) := by decide +kernel
theorem dX3_orderOf_69 : decode cX3_orderOf 69 = .ok (.iload_n 1, 1) := by decide +kernel
theorem dX3_orderOf_70 : decode cX3_orderOf 70 = .ok (.invokevirtual 62, 3) := by decide +kernel
theorem dX3_orderOf_73 : decode cX3_orderOf 73 = .ok (.aload_n 0, 1) := by decide +kernel
theorem dX3_orderOf_74 : decode cX3_orderOf 74 = .ok (.iload_n 2, 1) := by decide +kernel
theorem dX3_orderOf_75 : decode cX3_orderOf 75 = .ok (.invokevirtual 62, 3) := by decide +kernel
theorem dX3_orderOf_78 : decode cX3_orderOf 78 = .ok (.invokestatic 78, 3) := by decide +kernel
theorem dX3_orderOf_81 : decode cX3_orderOf 81 = .ok (.ireturn, 1) := by decide +kernel
end
section
theorem dX4_init_0 : decode cX4_init 0 = .ok (.aload_n 0, 1) := by decide +kernel
theorem dX4_init_1 : decode cX4_init 1 = .ok (.invokespecial 3, 3) := by decide +kernel
theorem dX4_init_4 : decode cX4_init 4 = .ok (.aload_n 0, 1) := by decide +kernel
theorem dX4_init_5 : decode cX4_init 5 = .ok (.new 9, 3) := by decide +kernel
theorem dX4_init_8 : decode cX4_init 8 = .ok (.dup, 1) := by decide +kernel
theorem dX4_init_9 : decode cX4_init 9 = .ok (.invokespecial 11, 3) := by decide +kernel
theorem dX4_init_12 : decode cX4_init 12 = .ok (.putfield 12, 3) := by decide +kernel
theorem dX4_init_15 : decode cX4_init 15 = .ok (.aload_n 0, 1) := by decide +kernel
theorem dX4_init_16 : decode cX4_init 16 = .ok (.new 16, 3) := by decide +kernel
theorem dX4_init_19 : decode cX4_init 19 = .ok (.dup, 1) := by decide +kernel
theorem dX4_init_20 : decode cX4_init 20 = .ok (.invokespecial 18, 3) := by decide +kernel
theorem dX4_init_23 : decode cX4_init 23 = .ok (.putfield 19, 3) := by decide +kernel
theorem dX4_init_26 : decode cX4_init 26 = .ok (.aload_n 0, 1) := by decide +kernel
theorem dX4_init_27 : decode cX4_init 27 = .ok (.new 23, 3) := by decide +kernel
theorem dX4_init_30 : decode cX4_init 30 = .ok (.dup, 1) := by decide +kernel
theorem dX4_init_31 : decode cX4_init 31 = .ok (.invokespecial 25, 3) := by decide +kernel
theorem dX4_init_34 : decode cX4_init 34 = .ok (.putfield 26, 3) := by decide +kernel
theorem dX4_init_37 : decode cX4_init 37 = .ok (.aload_n 0, 1) := by decide +kernel
theorem dX4_init_38 : decode cX4_init 38 = .ok (.bipush 24, 2) := by decide +kernel
theorem dX4_init_40 : decode cX4_init 40 = .ok (.anewarray 30, 3) := by decide +kernel
theorem dX4_init_43 : decode cX4_init 43 = .ok (.putfield 32, 3) := by decide +kernel
theorem dX4_init_46 : decode cX4_init 46 = .ok (.aload_n 0, 1) := by decide +kernel
theorem dX4_init_47 : decode cX4_init 47 = .ok (.sipush 500, 3) := by decide +kernel
theorem dX4_init_50 : decode cX4_init 50 = .ok (.newarray .int, 2) := by decide +kernel
theorem dX4_init_52 : decode cX4_init 52 = .ok (.putfield 36, 3) := by decide +kernel
theorem dX4_init_55 : decode cX4_init 55 = .ok (.aload_n 0, 1) := by decide +kernel
theorem dX4_init_56 : decode cX4_init 56 = .ok (.iconst 0, 1) := by decide +kernel
theorem dX4_init_57 : decode cX4_init 57 = .ok (.putfield 40, 3) := by decide +kernel
theorem dX4_init_60 : decode cX4_init 60 = .ok (.aload_n 0, 1) := by decide +kernel
theorem dX4_init_61 : decode cX4_init 61 = .ok (.iconst 0, 1) := by decide +kernel
theorem dX4_init_62 : decode cX4_init 62 = .ok (.putfield 44, 3) := by decide +kernel
theorem dX4_init_65 : decode cX4_init 65 = .ok (.aload_n 0, 1) := by decide +kernel
theorem dX4_init_66 : decode cX4_init 66 = .ok (.iconst (-1), 1) := by decide +kernel
theorem dX4_init_67 : decode cX4_init 67 = .ok (.putfield 47, 3) := by decide +kernel
theorem dX4_init_70 : decode cX4_init 70 = .ok (.iconst 0, 1) := by decide +kernel
theorem dX4_init_71 : decode cX4_init 71 = .ok (.istore_n 1, 1) := by decide +kernel
theorem dX4_init_72 : decode cX4_init 72 = .ok (.iload_n 1, 1) := by decide +kernel
theorem dX4_init_73 : decode cX4_init 73 = .ok (.bipush 24, 2) := by decide +kernel
theorem dX4_init_75 : decode cX4_init 75 = .ok (.if_icmp .ge 22, 3) := by decide +kernel
theorem dX4_init_78 : decode cX4_init 78 = .ok (.aload_n 0, 1) := by decide +kernel
theorem dX4_init_79 : decode cX4_init 79 = .ok (.getfield 32, 3) := by decide +kernel
theorem dX4_init_82 : decode cX4_init 82 = .ok (.iload_n 1, 1) := by decide +kernel
theorem dX4_init_83 : decode cX4_init 83 = .ok (.new 30, 3) := by decide +kernel
theorem dX4_init_86 : decode cX4_init 86 = .ok (.dup, 1) := by decide +kernel
theorem dX4_init_87 : decode cX4_init 87 = .ok (.invokespecial 50, 3) := by decide +kernel
theorem dX4_init_90 : decode cX4_init 90 = .ok (.aastore, 1) := by decide +kernel
theorem dX4_init_91 : decode cX4_init 91 = .ok (.iinc 1 1, 3) := by decide +kernel
theorem dX4_init_94 : decode cX4_init 94 = .ok (.goto (-22), 3) := by decide +kernel
theorem dX4_init_97 : decode cX4_init 97 = .ok (.return_, 1) := by decide +kernel
theorem dX4_code_0 : decode cX4_code 0 = .ok (.aload_n 0, 1) := by decide +kernel
theorem dX4_code_1 : decode cX4_code 1 = .ok (.getfield 44, 3) := by decide +kernel
theorem dX4_code_4 : decode cX4_code 4 = .ok (.ireturn, 1) := by decide +kernel
theorem dX4_which_0 : decode cX4_which 0 = .ok (.aload_n 0, 1) := by decide +kernel
theorem dX4_which_1 : decode cX4_which 1 = .ok (.getfield 47, 3) := by decide +kernel
theorem dX4_which_4 : decode cX4_which 4 = .ok (.ireturn, 1) := by decide +kernel
theorem dX4_range_0 : decode cX4_range 0 = .ok (.aload_n 0, 1) := by decide +kernel
theorem dX4_range_1 : decode cX4_range 1 = .ok (.getfield 12, 3) := by decide +kernel
theorem dX4_range_4 : decode cX4_range 4 = .ok (.getfield 51, 3) := by decide +kernel
theorem dX4_range_7 : decode cX4_range 7 = .ok (.iconst 3, 1) := by decide +kernel
theorem dX4_range_8 : decode cX4_range 8 = .ok (.if_icmp .lt 10, 3) := by decide +kernel
theorem dX4_range_11 : decode cX4_range 11 = .ok (.aload_n 0, 1) := by decide +kernel
theorem dX4_range_12 : decode cX4_range 12 = .ok (.bipush 8, 2) := by decide +kernel
theorem dX4_range_14 : decode cX4_range 14 = .ok (.invokevirtual 54, 3) := by decide +kernel
theorem dX4_range_17 : decode cX4_range 17 = .ok (.ireturn, 1) := by decide +kernel
theorem dX4_range_18 : decode cX4_range 18 = .ok (.aload_n 0, 1) := by decide +kernel
theorem dX4_range_19 : decode cX4_range 19 = .ok (.getfield 12, 3) := by decide +kernel
theorem dX4_range_22 : decode cX4_range 22 = .ok (.iload_n 1, 1) := by decide +kernel
theorem dX4_range_23 : decode cX4_range 23 = .ok (.iload_n 2, 1) := by decide +kernel
theorem dX4_range_24 : decode cX4_range 24 = .ok (.invokevirtual 58, 3) := by decide +kernel
theorem dX4_range_27 : decode cX4_range 27 = .ok (.aload_n 0, 1) := by decide +kernel
theorem dX4_range_28 : decode cX4_range 28 = .ok (.aload_n 0, 1) := by decide +kernel
theorem dX4_range_29 : decode cX4_range 29 = .ok (.getfield 12, 3) := by decide +kernel
theorem dX4_range_32 : decode cX4_range 32 = .ok (.getfield 51, 3) := by decide +kernel
theorem dX4_range_35 : decode cX4_range 35 = .ok (.invokevirtual 62, 3) := by decide +kernel
theorem dX4_range_38 : decode cX4_range 38 = .ok (.ireturn, 1) := by decide +kernel
theorem dX4_shapeless_0 : decode cX4_shapeless 0 = .ok (.aload_n 0, 1) := by decide +kernel
theorem dX4_shapeless_1 : decode cX4_shapeless 1 = .ok (.getfield 12, 3) := by decide +kernel
theorem dX4_shapeless_4 : decode cX4_shapeless 4 = .ok (.getfield 51, 3) := by decide +kernel
theorem dX4_shapeless_7 : decode cX4_shapeless 7 = .ok (.istore_n 1, 1) := by decide +kernel
theorem dX4_shapeless_8 : decode cX4_shapeless 8 = .ok (.aload_n 0, 1) := by decide +kernel
theorem dX4_shapeless_9 : decode cX4_shapeless 9 = .ok (.getfield 12, 3) := by decide +kernel
theorem dX4_shapeless_12 : decode cX4_shapeless 12 = .ok (.iconst 0, 1) := by decide +kernel
theorem dX4_shapeless_13 : decode cX4_shapeless 13 = .ok (.putfield 51, 3) := by decide +kernel
theorem dX4_shapeless_16 : decode cX4_shapeless 16 = .ok (.aload_n 0, 1) := by decide +kernel
theorem dX4_shapeless_17 : decode cX4_shapeless 17 = .ok (.iload_n 1, 1) := by decide +kernel
theorem dX4_shapeless_18 : decode cX4_shapeless 18 = .ok (.invokevirtual 62, 3) := by decide +kernel
theorem dX4_shapeless_21 : decode cX4_shapeless 21 = .ok (.ireturn, 1) := by decide +kernel
theorem dX4_make_0 : decode cX4_make 0 = .ok (.iload_n 1, 1) := by decide +kernel
theorem dX4_make_1 : decode cX4_make 1 = .ok (.ifCond .lt 8, 3) := by decide +kernel
theorem dX4_make_4 : decode cX4_make 4 = .ok (.iload_n 1, 1) := by decide +kernel
theorem dX4_make_5 : decode cX4_make 5 = .ok (.iconst 4, 1) := by decide +kernel
theorem dX4_make_6 : decode cX4_make 6 = .ok (.if_icmp .le 6, 3) := by decide +kernel
theorem dX4_make_9 : decode cX4_make 9 = .ok (.ldc 65, 2) := by decide +kernel
theorem dX4_make_11 : decode cX4_make 11 = .ok (.ireturn, 1) := by decide +kernel
theorem dX4_make_12 : decode cX4_make 12 = .ok (.aload_n 0, 1) := by decide +kernel
theorem dX4_make_13 : decode cX4_make 13 = .ok (.iload_n 1, 1) := by decide +kernel
theorem dX4_make_14 : decode cX4_make 14 = .ok (.invokevirtual 66, 3) := by decide +kernel
theorem dX4_make_17 : decode cX4_make 17 = .ok (.istore_n 2, 1) := by decide +kernel
theorem dX4_make_18 : decode cX4_make 18 = .ok (.iload_n 2, 1) := by decide +kernel
theorem dX4_make_19 : decode cX4_make 19 = .ok (.ifCond .eq 9, 3) := by decide +kernel
theorem dX4_make_22 : decode cX4_make 22 = .ok (.aload_n 0, 1) := by decide +kernel
theorem dX4_make_23 : decode cX4_make 23 = .ok (.iload_n 2, 1) := by decide +kernel
theorem dX4_make_24 : decode cX4_make 24 = .ok (.invokevirtual 54, 3) := by decide +kernel
theorem dX4_make_27 : decode cX4_make 27 = .ok (.ireturn, 1) := by decide +kernel
theorem dX4_make_28 : decode cX4_make 28 = .ok (.aload_n 0, 1) := by decide +kernel
theorem dX4_make_29 : decode cX4_make 29 = .ok (.aload_n 0, 1) := by decide +kernel
theorem dX4_make_30 : decode cX4_make 30 = .ok (.getfield 12, 3) := by decide +kernel
theorem dX4_make_33 : decode cX4_make 33 = .ok (.iload_n 1, 1) := by decide +kernel
theorem dX4_make_34 : decode cX4_make 34 = .ok (.invokevirtual 69, 3) := by decide +kernel
theorem dX4_make_37 : decode cX4_make 37 = .ok (.astore_n 3, 1) := by decide +kernel
theorem dX4_make_38 : decode cX4_make 38 = .ok (.iload_n 1, 1) := by decide +kernel
theorem dX4_make_39 : decode cX4_make 39 = .ok (.iconst 4, 1) := by decide +kernel
theorem dX4_make_40 : decode cX4_make 40 = .ok (.if_icmp .ne 11, 3) := by decide +kernel
theorem dX4_make_43 : decode cX4_make 43 = .ok (.aload_n 0, 1) := by decide +kernel
theorem dX4_make_44 : decode cX4_make 44 = .ok (.aload_n 3, 1) := by decide +kernel
theorem dX4_make_45 : decode cX4_make 45 = .ok (.invokevirtual 73, 3) := by decide +kernel
theorem dX4_make_48 : decode cX4_make 48 = .ok (.goto 8, 3) := by decide +kernel
theorem dX4_make_51 : decode cX4_make 51 = .ok (.aload_n 0, 1) := by decide +kernel
theorem dX4_make_52 : decode cX4_make 52 = .ok (.aload_n 3, 1) := by decide +kernel
theorem dX4_make_53 : decode cX4_make 53 = .ok (.invokevirtual 77, 3) := by decide +kernel
theorem dX4_make_56 : decode cX4_make 56 = .ok (.aload_n 0, 1) := by decide +kernel
theorem dX4_make_57 : decode cX4_make 57 = .ok (.getfield 12, 3) := by decide +kernel
theorem dX4_make_60 : decode cX4_make 60 = .ok (.iconst 0, 1) := by decide +kernel
theorem dX4_make_61 : decode cX4_make 61 = .ok (.putfield 51, 3) := by decide +kernel
theorem dX4_make_64 : decode cX4_make 64 = .ok (.aload_n 0, 1) := by decide +kernel
theorem dX4_make_65 : decode cX4_make 65 = .ok (.aload_n 0, 1) := by decide +kernel
theorem dX4_make_66 : decode cX4_make 66 = .ok (.getfield 40, 3) := by decide +kernel
theorem dX4_make_69 : decode cX4_make 69 = .ok (.iconst 1, 1) := by decide +kernel
theorem dX4_make_70 : decode cX4_make 70 = .ok (.isub, 1) := by decide +kernel
theorem dX4_make_71 : decode cX4_make 71 = .ok (.invokevirtual 62, 3) := by decide +kernel
theorem dX4_make_74 : decode cX4_make 74 = .ok (.ireturn, 1) := by decide +kernel
theorem dX4_raw_0 : decode cX4_raw 0 = .ok (.iload_n 1, 1) := by decide +kernel
theorem dX4_raw_1 : decode cX4_raw 1 = .ok (.ifCond .lt 8, 3) := by decide +kernel
theorem dX4_raw_4 : decode cX4_raw 4 = .ok (.iload_n 1, 1) := by decide +kernel
theorem dX4_raw_5 : decode cX4_raw 5 = .ok (.iconst 3, 1) := by decide +kernel
theorem dX4_raw_6 : decode cX4_raw 6 = .ok (.if_icmp .le 6, 3) := by decide +kernel
theorem dX4_raw_9 : decode cX4_raw 9 = .ok (.ldc 65, 2) := by decide +kernel
theorem dX4_raw_11 : decode cX4_raw 11 = .ok (.ireturn, 1) := by decide +kernel
theorem dX4_raw_12 : decode cX4_raw 12 = .ok (.iload_n 2, 1) := by decide +kernel
theorem dX4_raw_13 : decode cX4_raw 13 = .ok (.ifCond .ge 9, 3) := by decide +kernel
theorem dX4_raw_16 : decode cX4_raw 16 = .ok (.aload_n 0, 1) := by decide +kernel
theorem dX4_raw_17 : decode cX4_raw 17 = .ok (.iconst 4, 1) := by decide +kernel
theorem dX4_raw_18 : decode cX4_raw 18 = .ok (.invokevirtual 54, 3) := by decide +kernel
theorem dX4_raw_21 : decode cX4_raw 21 = .ok (.ireturn, 1) := by decide +kernel
theorem dX4_raw_22 : decode cX4_raw 22 = .ok (.iload_n 2, 1) := by decide +kernel
theorem dX4_raw_23 : decode cX4_raw 23 = .ok (.sipush 500, 3) := by decide +kernel
theorem dX4_raw_26 : decode cX4_raw 26 = .ok (.if_icmp .le 9, 3) := by decide +kernel
theorem dX4_raw_29 : decode cX4_raw 29 = .ok (.aload_n 0, 1) := by decide +kernel
theorem dX4_raw_30 : decode cX4_raw 30 = .ok (.iconst 5, 1) := by decide +kernel
theorem dX4_raw_31 : decode cX4_raw 31 = .ok (.invokevirtual 54, 3) := by decide +kernel
theorem dX4_raw_34 : decode cX4_raw 34 = .ok (.ireturn, 1) := by decide +kernel
theorem dX4_raw_35 : decode cX4_raw 35 = .ok (.aload_n 0, 1) := by decide +kernel
theorem dX4_raw_36 : decode cX4_raw 36 = .ok (.iconst 1, 1) := by decide +kernel
theorem dX4_raw_37 : decode cX4_raw 37 = .ok (.iload_n 2, 1) := by decide +kernel
theorem dX4_raw_38 : decode cX4_raw 38 = .ok (.invokevirtual 80, 3) := by decide +kernel
theorem dX4_raw_41 : decode cX4_raw 41 = .ok (.ifCond .ne 10, 3) := by decide +kernel
theorem dX4_raw_44 : decode cX4_raw 44 = .ok (.aload_n 0, 1) := by decide +kernel
theorem dX4_raw_45 : decode cX4_raw 45 = .ok (.bipush 8, 2) := by decide +kernel
theorem dX4_raw_47 : decode cX4_raw 47 = .ok (.invokevirtual 54, 3) := by decide +kernel
theorem dX4_raw_50 : decode cX4_raw 50 = .ok (.ireturn, 1) := by decide +kernel
theorem dX4_raw_51 : decode cX4_raw 51 = .ok (.aload_n 0, 1) := by decide +kernel
theorem dX4_raw_52 : decode cX4_raw 52 = .ok (.iload_n 1, 1) := by decide +kernel
theorem dX4_raw_53 : decode cX4_raw 53 = .ok (.invokevirtual 84, 3) := by decide +kernel
theorem dX4_raw_56 : decode cX4_raw 56 = .ok (.astore_n 3, 1) := by decide +kernel
theorem dX4_raw_57 : decode cX4_raw 57 = .ok (.aload_n 3, 1) := by decide +kernel
theorem dX4_raw_58 : decode cX4_raw 58 = .ok (.getfield 88, 3) := by decide +kernel
theorem dX4_raw_61 : decode cX4_raw 61 = .ok (.iconst 0, 1) := by decide +kernel
theorem dX4_raw_62 : decode cX4_raw 62 = .ok (.iload_n 2, 1) := by decide +kernel
theorem dX4_raw_63 : decode cX4_raw 63 = .ok (.iconst 1, 1) := by decide +kernel
theorem dX4_raw_64 : decode cX4_raw 64 = .ok (.isub, 1) := by decide +kernel
theorem dX4_raw_65 : decode cX4_raw 65 = .ok (.invokevirtual 58, 3) := by decide +kernel
theorem dX4_raw_68 : decode cX4_raw 68 = .ok (.aload_n 0, 1) := by decide +kernel
theorem dX4_raw_69 : decode cX4_raw 69 = .ok (.aload_n 3, 1) := by decide +kernel
theorem dX4_raw_70 : decode cX4_raw 70 = .ok (.invokevirtual 77, 3) := by decide +kernel
theorem dX4_raw_73 : decode cX4_raw 73 = .ok (.aload_n 0, 1) := by decide +kernel
theorem dX4_raw_74 : decode cX4_raw 74 = .ok (.aload_n 0, 1) := by decide +kernel
theorem dX4_raw_75 : decode cX4_raw 75 = .ok (.getfield 40, 3) := by decide +kernel
theorem dX4_raw_78 : decode cX4_raw 78 = .ok (.iconst 1, 1) := by decide +kernel
theorem dX4_raw_79 : decode cX4_raw 79 = .ok (.isub, 1) := by decide +kernel
theorem dX4_raw_80 : decode cX4_raw 80 = .ok (.invokevirtual 62, 3) := by decide +kernel
theorem dX4_raw_83 : decode cX4_raw 83 = .ok (.ireturn, 1) := by decide +kernel
theorem dX4_see_0 : decode cX4_see 0 = .ok (.aload_n 0, 1) := by decide +kernel
theorem dX4_see_1 : decode cX4_see 1 = .ok (.iload_n 1, 1) := by decide +kernel
theorem dX4_see_2 : decode cX4_see 2 = .ok (.invokevirtual 89, 3) := by decide +kernel
theorem dX4_see_5 : decode cX4_see 5 = .ok (.astore_n 2, 1) := by decide +kernel
theorem dX4_see_6 : decode cX4_see 6 = .ok (.aload_n 0, 1) := by decide +kernel
theorem dX4_see_7 : decode cX4_see 7 = .ok (.aload_n 2, 1) := by decide +kernel
theorem dX4_see_8 : decode cX4_see 8 = .ok (.invokevirtual 92, 3) := by decide +kernel
theorem dX4_see_11 : decode cX4_see 11 = .ok (.istore_n 3, 1) := by decide +kernel
theorem dX4_see_12 : decode cX4_see 12 = .ok (.iload_n 3, 1) := by decide +kernel
theorem dX4_see_13 : decode cX4_see 13 = .ok (.ifCond .eq 9, 3) := by decide +kernel
theorem dX4_see_16 : decode cX4_see 16 = .ok (.aload_n 0, 1) := by decide +kernel
theorem dX4_see_17 : decode cX4_see 17 = .ok (.iload_n 3, 1) := by decide +kernel
theorem dX4_see_18 : decode cX4_see 18 = .ok (.invokevirtual 54, 3) := by decide +kernel
theorem dX4_see_21 : decode cX4_see 21 = .ok (.ireturn, 1) := by decide +kernel
theorem dX4_see_22 : decode cX4_see 22 = .ok (.aload_n 0, 1) := by decide +kernel
theorem dX4_see_23 : decode cX4_see 23 = .ok (.getfield 12, 3) := by decide +kernel
theorem dX4_see_26 : decode cX4_see 26 = .ok (.getfield 51, 3) := by decide +kernel
theorem dX4_see_29 : decode cX4_see 29 = .ok (.ifCond .ne 10, 3) := by decide +kernel
theorem dX4_see_32 : decode cX4_see 32 = .ok (.aload_n 0, 1) := by decide +kernel
theorem dX4_see_33 : decode cX4_see 33 = .ok (.bipush 9, 2) := by decide +kernel
theorem dX4_see_35 : decode cX4_see 35 = .ok (.invokevirtual 54, 3) := by decide +kernel
theorem dX4_see_38 : decode cX4_see 38 = .ok (.ireturn, 1) := by decide +kernel
theorem dX4_see_39 : decode cX4_see 39 = .ok (.aload_n 0, 1) := by decide +kernel
theorem dX4_see_40 : decode cX4_see 40 = .ok (.getfield 12, 3) := by decide +kernel
theorem dX4_see_43 : decode cX4_see 43 = .ok (.invokevirtual 96, 3) := by decide +kernel
theorem dX4_see_46 : decode cX4_see 46 = .ok (.aload_n 0, 1) := by decide +kernel
theorem dX4_see_47 : decode cX4_see 47 = .ok (.getfield 26, 3) := by decide +kernel
theorem dX4_see_50 : decode cX4_see 50 = .ok (.aload_n 2, 1) := by decide +kernel
theorem dX4_see_51 : decode cX4_see 51 = .ok (.getfield 100, 3) := by decide +kernel
theorem dX4_see_54 : decode cX4_see 54 = .ok (.invokevirtual 103, 3) := by decide +kernel
theorem dX4_see_57 : decode cX4_see 57 = .ok (.if_icmp .eq 10, 3) := by decide +kernel
theorem dX4_see_60 : decode cX4_see 60 = .ok (.aload_n 0, 1) := by decide +kernel
theorem dX4_see_61 : decode cX4_see 61 = .ok (.bipush 10, 2) := by decide +kernel
theorem dX4_see_63 : decode cX4_see 63 = .ok (.invokevirtual 54, 3) := by decide +kernel
theorem dX4_see_66 : decode cX4_see 66 = .ok (.ireturn, 1) := by decide +kernel
theorem dX4_see_67 : decode cX4_see 67 = .ok (.aload_n 0, 1) := by decide +kernel
theorem dX4_see_68 : decode cX4_see 68 = .ok (.iconst 0, 1) := by decide +kernel
theorem dX4_see_69 : decode cX4_see 69 = .ok (.iconst 0, 1) := by decide +kernel
theorem dX4_see_70 : decode cX4_see 70 = .ok (.invokevirtual 80, 3) := by decide +kernel
theorem dX4_see_73 : decode cX4_see 73 = .ok (.ifCond .ne 10, 3) := by decide +kernel
theorem dX4_see_76 : decode cX4_see 76 = .ok (.aload_n 0, 1) := by decide +kernel
theorem dX4_see_77 : decode cX4_see 77 = .ok (.bipush 8, 2) := by decide +kernel
theorem dX4_see_79 : decode cX4_see 79 = .ok (.invokevirtual 54, 3) := by decide +kernel
theorem dX4_see_82 : decode cX4_see 82 = .ok (.ireturn, 1) := by decide +kernel
theorem dX4_see_83 : decode cX4_see 83 = .ok (.aload_n 0, 1) := by decide +kernel
theorem dX4_see_84 : decode cX4_see 84 = .ok (.aload_n 0, 1) := by decide +kernel
theorem dX4_see_85 : decode cX4_see 85 = .ok (.getfield 12, 3) := by decide +kernel
theorem dX4_see_88 : decode cX4_see 88 = .ok (.aload_n 2, 1) := by decide +kernel
theorem dX4_see_89 : decode cX4_see 89 = .ok (.getfield 106, 3) := by decide +kernel
theorem dX4_see_92 : decode cX4_see 92 = .ok (.invokevirtual 69, 3) := by decide +kernel
theorem dX4_see_95 : decode cX4_see 95 = .ok (.aload_n 2, 1) := by decide +kernel
theorem dX4_see_96 : decode cX4_see 96 = .ok (.getfield 100, 3) := by decide +kernel
theorem dX4_see_99 : decode cX4_see 99 = .ok (.putfield 100, 3) := by decide +kernel
theorem dX4_see_102 : decode cX4_see 102 = .ok (.aload_n 0, 1) := by decide +kernel
theorem dX4_see_103 : decode cX4_see 103 = .ok (.getfield 12, 3) := by decide +kernel
theorem dX4_see_106 : decode cX4_see 106 = .ok (.iconst 0, 1) := by decide +kernel
theorem dX4_see_107 : decode cX4_see 107 = .ok (.putfield 51, 3) := by decide +kernel
theorem dX4_see_110 : decode cX4_see 110 = .ok (.aload_n 0, 1) := by decide +kernel
theorem dX4_see_111 : decode cX4_see 111 = .ok (.aload_n 0, 1) := by decide +kernel
theorem dX4_see_112 : decode cX4_see 112 = .ok (.getfield 40, 3) := by decide +kernel
theorem dX4_see_115 : decode cX4_see 115 = .ok (.iconst 1, 1) := by decide +kernel
theorem dX4_see_116 : decode cX4_see 116 = .ok (.isub, 1) := by decide +kernel
theorem dX4_see_117 : decode cX4_see 117 = .ok (.invokevirtual 62, 3) := by decide +kernel
theorem dX4_see_120 : decode cX4_see 120 = .ok (.ireturn, 1) := by decide +kernel
theorem dX4_turn_0 : decode cX4_turn 0 = .ok (.aload_n 0, 1) := by decide +kernel
theorem dX4_turn_1 : decode cX4_turn 1 = .ok (.iload_n 1, 1) := by decide +kernel
theorem dX4_turn_2 : decode cX4_turn 2 = .ok (.invokevirtual 89, 3) := by decide +kernel
theorem dX4_turn_5 : decode cX4_turn 5 = .ok (.astore_n 2, 1) := by decide +kernel
theorem dX4_turn_6 : decode cX4_turn 6 = .ok (.aload_n 0, 1) := by decide +kernel
theorem dX4_turn_7 : decode cX4_turn 7 = .ok (.aload_n 2, 1) := by decide +kernel
theorem dX4_turn_8 : decode cX4_turn 8 = .ok (.invokevirtual 92, 3) := by decide +kernel
theorem dX4_turn_11 : decode cX4_turn 11 = .ok (.istore_n 3, 1) := by decide +kernel
theorem dX4_turn_12 : decode cX4_turn 12 = .ok (.iload_n 3, 1) := by decide +kernel
theorem dX4_turn_13 : decode cX4_turn 13 = .ok (.ifCond .eq 9, 3) := by decide +kernel
theorem dX4_turn_16 : decode cX4_turn 16 = .ok (.aload_n 0, 1) := by decide +kernel
theorem dX4_turn_17 : decode cX4_turn 17 = .ok (.iload_n 3, 1) := by decide +kernel
theorem dX4_turn_18 : decode cX4_turn 18 = .ok (.invokevirtual 54, 3) := by decide +kernel
theorem dX4_turn_21 : decode cX4_turn 21 = .ok (.ireturn, 1) := by decide +kernel
theorem dX4_turn_22 : decode cX4_turn 22 = .ok (.aload_n 2, 1) := by decide +kernel
theorem dX4_turn_23 : decode cX4_turn 23 = .ok (.getfield 88, 3) := by decide +kernel
theorem dX4_turn_26 : decode cX4_turn 26 = .ok (.getfield 51, 3) := by decide +kernel
theorem dX4_turn_29 : decode cX4_turn 29 = .ok (.iconst 2, 1) := by decide +kernel
theorem dX4_turn_30 : decode cX4_turn 30 = .ok (.if_icmp .ge 10, 3) := by decide +kernel
theorem dX4_turn_33 : decode cX4_turn 33 = .ok (.aload_n 0, 1) := by decide +kernel
theorem dX4_turn_34 : decode cX4_turn 34 = .ok (.bipush 9, 2) := by decide +kernel
theorem dX4_turn_36 : decode cX4_turn 36 = .ok (.invokevirtual 54, 3) := by decide +kernel
theorem dX4_turn_39 : decode cX4_turn 39 = .ok (.ireturn, 1) := by decide +kernel
theorem dX4_turn_40 : decode cX4_turn 40 = .ok (.aload_n 0, 1) := by decide +kernel
theorem dX4_turn_41 : decode cX4_turn 41 = .ok (.iconst 1, 1) := by decide +kernel
theorem dX4_turn_42 : decode cX4_turn 42 = .ok (.aload_n 0, 1) := by decide +kernel
theorem dX4_turn_43 : decode cX4_turn 43 = .ok (.getfield 26, 3) := by decide +kernel
theorem dX4_turn_46 : decode cX4_turn 46 = .ok (.aload_n 2, 1) := by decide +kernel
theorem dX4_turn_47 : decode cX4_turn 47 = .ok (.getfield 100, 3) := by decide +kernel
theorem dX4_turn_50 : decode cX4_turn 50 = .ok (.invokevirtual 103, 3) := by decide +kernel
theorem dX4_turn_53 : decode cX4_turn 53 = .ok (.invokevirtual 80, 3) := by decide +kernel
theorem dX4_turn_56 : decode cX4_turn 56 = .ok (.ifCond .ne 10, 3) := by decide +kernel
theorem dX4_turn_59 : decode cX4_turn 59 = .ok (.aload_n 0, 1) := by decide +kernel
theorem dX4_turn_60 : decode cX4_turn 60 = .ok (.bipush 8, 2) := by decide +kernel
theorem dX4_turn_62 : decode cX4_turn 62 = .ok (.invokevirtual 54, 3) := by decide +kernel
theorem dX4_turn_65 : decode cX4_turn 65 = .ok (.ireturn, 1) := by decide +kernel
theorem dX4_turn_66 : decode cX4_turn 66 = .ok (.aload_n 0, 1) := by decide +kernel
theorem dX4_turn_67 : decode cX4_turn 67 = .ok (.aload_n 2, 1) := by decide +kernel
theorem dX4_turn_68 : decode cX4_turn 68 = .ok (.invokevirtual 109, 3) := by decide +kernel
theorem dX4_turn_71 : decode cX4_turn 71 = .ok (.aload_n 0, 1) := by decide +kernel
theorem dX4_turn_72 : decode cX4_turn 72 = .ok (.aload_n 2, 1) := by decide +kernel
theorem dX4_turn_73 : decode cX4_turn 73 = .ok (.getfield 88, 3) := by decide +kernel
theorem dX4_turn_76 : decode cX4_turn 76 = .ok (.aload_n 2, 1) := by decide +kernel
theorem dX4_turn_77 : decode cX4_turn 77 = .ok (.getfield 106, 3) := by decide +kernel
theorem dX4_turn_80 : decode cX4_turn 80 = .ok (.invokevirtual 69, 3) := by decide +kernel
theorem dX4_turn_83 : decode cX4_turn 83 = .ok (.astore 4, 2) := by decide +kernel
theorem dX4_turn_85 : decode cX4_turn 85 = .ok (.aload 4, 2) := by decide +kernel
theorem dX4_turn_87 : decode cX4_turn 87 = .ok (.getfield 88, 3) := by decide +kernel
theorem dX4_turn_90 : decode cX4_turn 90 = .ok (.invokevirtual 112, 3) := by decide +kernel
theorem dX4_turn_93 : decode cX4_turn 93 = .ok (.aload_n 0, 1) := by decide +kernel
theorem dX4_turn_94 : decode cX4_turn 94 = .ok (.aload 4, 2) := by decide +kernel
theorem dX4_turn_96 : decode cX4_turn 96 = .ok (.invokevirtual 77, 3) := by decide +kernel
theorem dX4_turn_99 : decode cX4_turn 99 = .ok (.aload_n 0, 1) := by decide +kernel
theorem dX4_turn_100 : decode cX4_turn 100 = .ok (.aload 4, 2) := by decide +kernel
theorem dX4_turn_102 : decode cX4_turn 102 = .ok (.invokevirtual 115, 3) := by decide +kernel
theorem dX4_turn_105 : decode cX4_turn 105 = .ok (.aload_n 0, 1) := by decide +kernel
theorem dX4_turn_106 : decode cX4_turn 106 = .ok (.aload_n 0, 1) := by decide +kernel
theorem dX4_turn_107 : decode cX4_turn 107 = .ok (.getfield 40, 3) := by decide +kernel
theorem dX4_turn_110 : decode cX4_turn 110 = .ok (.iconst 1, 1) := by decide +kernel
theorem dX4_turn_111 : decode cX4_turn 111 = .ok (.isub, 1) := by decide +kernel
theorem dX4_turn_112 : decode cX4_turn 112 = .ok (.invokevirtual 62, 3) := by decide +kernel
theorem dX4_turn_115 : decode cX4_turn 115 = .ok (.ireturn, 1) := by decide +kernel
theorem dX4_cut_0 : decode cX4_cut 0 = .ok (.aload_n 0, 1) := by decide +kernel
theorem dX4_cut_1 : decode cX4_cut 1 = .ok (.iload_n 1, 1) := by decide +kernel
theorem dX4_cut_2 : decode cX4_cut 2 = .ok (.invokevirtual 89, 3) := by decide +kernel
theorem dX4_cut_5 : decode cX4_cut 5 = .ok (.astore_n 2, 1) := by decide +kernel
theorem dX4_cut_6 : decode cX4_cut 6 = .ok (.aload_n 0, 1) := by decide +kernel
theorem dX4_cut_7 : decode cX4_cut 7 = .ok (.aload_n 2, 1) := by decide +kernel
theorem dX4_cut_8 : decode cX4_cut 8 = .ok (.invokevirtual 92, 3) := by decide +kernel
theorem dX4_cut_11 : decode cX4_cut 11 = .ok (.istore_n 3, 1) := by decide +kernel
theorem dX4_cut_12 : decode cX4_cut 12 = .ok (.iload_n 3, 1) := by decide +kernel
theorem dX4_cut_13 : decode cX4_cut 13 = .ok (.ifCond .eq 9, 3) := by decide +kernel
theorem dX4_cut_16 : decode cX4_cut 16 = .ok (.aload_n 0, 1) := by decide +kernel
theorem dX4_cut_17 : decode cX4_cut 17 = .ok (.iload_n 3, 1) := by decide +kernel
theorem dX4_cut_18 : decode cX4_cut 18 = .ok (.invokevirtual 54, 3) := by decide +kernel
theorem dX4_cut_21 : decode cX4_cut 21 = .ok (.ireturn, 1) := by decide +kernel
theorem dX4_cut_22 : decode cX4_cut 22 = .ok (.aload_n 0, 1) := by decide +kernel
theorem dX4_cut_23 : decode cX4_cut 23 = .ok (.getfield 12, 3) := by decide +kernel
theorem dX4_cut_26 : decode cX4_cut 26 = .ok (.getfield 51, 3) := by decide +kernel
theorem dX4_cut_29 : decode cX4_cut 29 = .ok (.aload_n 2, 1) := by decide +kernel
theorem dX4_cut_30 : decode cX4_cut 30 = .ok (.getfield 88, 3) := by decide +kernel
theorem dX4_cut_33 : decode cX4_cut 33 = .ok (.getfield 51, 3) := by decide +kernel
theorem dX4_cut_36 : decode cX4_cut 36 = .ok (.if_icmp .eq 10, 3) := by decide +kernel
theorem dX4_cut_39 : decode cX4_cut 39 = .ok (.aload_n 0, 1) := by decide +kernel
theorem dX4_cut_40 : decode cX4_cut 40 = .ok (.bipush 9, 2) := by decide +kernel
theorem dX4_cut_42 : decode cX4_cut 42 = .ok (.invokevirtual 54, 3) := by decide +kernel
theorem dX4_cut_45 : decode cX4_cut 45 = .ok (.ireturn, 1) := by decide +kernel
theorem dX4_cut_46 : decode cX4_cut 46 = .ok (.aload_n 0, 1) := by decide +kernel
theorem dX4_cut_47 : decode cX4_cut 47 = .ok (.getfield 12, 3) := by decide +kernel
theorem dX4_cut_50 : decode cX4_cut 50 = .ok (.invokevirtual 96, 3) := by decide +kernel
theorem dX4_cut_53 : decode cX4_cut 53 = .ok (.istore 4, 2) := by decide +kernel
theorem dX4_cut_55 : decode cX4_cut 55 = .ok (.iload 4, 2) := by decide +kernel
theorem dX4_cut_57 : decode cX4_cut 57 = .ok (.sipush 500, 3) := by decide +kernel
theorem dX4_cut_60 : decode cX4_cut 60 = .ok (.if_icmp .le 9, 3) := by decide +kernel
theorem dX4_cut_63 : decode cX4_cut 63 = .ok (.aload_n 0, 1) := by decide +kernel
theorem dX4_cut_64 : decode cX4_cut 64 = .ok (.iconst 5, 1) := by decide +kernel
theorem dX4_cut_65 : decode cX4_cut 65 = .ok (.invokevirtual 54, 3) := by decide +kernel
theorem dX4_cut_68 : decode cX4_cut 68 = .ok (.ireturn, 1) := by decide +kernel
theorem dX4_cut_69 : decode cX4_cut 69 = .ok (.aload_n 0, 1) := by decide +kernel
theorem dX4_cut_70 : decode cX4_cut 70 = .ok (.aload_n 2, 1) := by decide +kernel
theorem dX4_cut_71 : decode cX4_cut 71 = .ok (.invokevirtual 118, 3) := by decide +kernel
theorem dX4_cut_74 : decode cX4_cut 74 = .ok (.istore 5, 2) := by decide +kernel
theorem dX4_cut_76 : decode cX4_cut 76 = .ok (.iload 5, 2) := by decide +kernel
theorem dX4_cut_78 : decode cX4_cut 78 = .ok (.iconst (-1), 1) := by decide +kernel
theorem dX4_cut_79 : decode cX4_cut 79 = .ok (.if_icmp .eq 10, 3) := by decide +kernel
theorem dX4_cut_82 : decode cX4_cut 82 = .ok (.aload_n 0, 1) := by decide +kernel
theorem dX4_cut_83 : decode cX4_cut 83 = .ok (.iload 5, 2) := by decide +kernel
theorem dX4_cut_85 : decode cX4_cut 85 = .ok (.invokevirtual 121, 3) := by decide +kernel
theorem dX4_cut_88 : decode cX4_cut 88 = .ok (.ireturn, 1) := by decide +kernel
theorem dX4_cut_89 : decode cX4_cut 89 = .ok (.aload_n 0, 1) := by decide +kernel
theorem dX4_cut_90 : decode cX4_cut 90 = .ok (.iconst 1, 1) := by decide +kernel
theorem dX4_cut_91 : decode cX4_cut 91 = .ok (.iload 4, 2) := by decide +kernel
theorem dX4_cut_93 : decode cX4_cut 93 = .ok (.invokevirtual 80, 3) := by decide +kernel
theorem dX4_cut_96 : decode cX4_cut 96 = .ok (.ifCond .ne 10, 3) := by decide +kernel
theorem dX4_cut_99 : decode cX4_cut 99 = .ok (.aload_n 0, 1) := by decide +kernel
theorem dX4_cut_100 : decode cX4_cut 100 = .ok (.bipush 8, 2) := by decide +kernel
theorem dX4_cut_102 : decode cX4_cut 102 = .ok (.invokevirtual 54, 3) := by decide +kernel
theorem dX4_cut_105 : decode cX4_cut 105 = .ok (.ireturn, 1) := by decide +kernel
theorem dX4_cut_106 : decode cX4_cut 106 = .ok (.aload_n 0, 1) := by decide +kernel
theorem dX4_cut_107 : decode cX4_cut 107 = .ok (.aload_n 0, 1) := by decide +kernel
theorem dX4_cut_108 : decode cX4_cut 108 = .ok (.getfield 12, 3) := by decide +kernel
theorem dX4_cut_111 : decode cX4_cut 111 = .ok (.aload_n 2, 1) := by decide +kernel
theorem dX4_cut_112 : decode cX4_cut 112 = .ok (.getfield 106, 3) := by decide +kernel
theorem dX4_cut_115 : decode cX4_cut 115 = .ok (.invokevirtual 69, 3) := by decide +kernel
theorem dX4_cut_118 : decode cX4_cut 118 = .ok (.astore 6, 2) := by decide +kernel
theorem dX4_cut_120 : decode cX4_cut 120 = .ok (.aload_n 0, 1) := by decide +kernel
theorem dX4_cut_121 : decode cX4_cut 121 = .ok (.aload 6, 2) := by decide +kernel
theorem dX4_cut_123 : decode cX4_cut 123 = .ok (.invokevirtual 77, 3) := by decide +kernel
theorem dX4_cut_126 : decode cX4_cut 126 = .ok (.aload_n 0, 1) := by decide +kernel
theorem dX4_cut_127 : decode cX4_cut 127 = .ok (.aload 6, 2) := by decide +kernel
theorem dX4_cut_129 : decode cX4_cut 129 = .ok (.invokevirtual 115, 3) := by decide +kernel
theorem dX4_cut_132 : decode cX4_cut 132 = .ok (.aload_n 0, 1) := by decide +kernel
theorem dX4_cut_133 : decode cX4_cut 133 = .ok (.getfield 12, 3) := by decide +kernel
theorem dX4_cut_136 : decode cX4_cut 136 = .ok (.iconst 0, 1) := by decide +kernel
theorem dX4_cut_137 : decode cX4_cut 137 = .ok (.putfield 51, 3) := by decide +kernel
theorem dX4_cut_140 : decode cX4_cut 140 = .ok (.aload_n 0, 1) := by decide +kernel
theorem dX4_cut_141 : decode cX4_cut 141 = .ok (.aload_n 0, 1) := by decide +kernel
theorem dX4_cut_142 : decode cX4_cut 142 = .ok (.getfield 40, 3) := by decide +kernel
theorem dX4_cut_145 : decode cX4_cut 145 = .ok (.iconst 1, 1) := by decide +kernel
theorem dX4_cut_146 : decode cX4_cut 146 = .ok (.isub, 1) := by decide +kernel
theorem dX4_cut_147 : decode cX4_cut 147 = .ok (.invokevirtual 62, 3) := by decide +kernel
theorem dX4_cut_150 : decode cX4_cut 150 = .ok (.ireturn, 1) := by decide +kernel
theorem dX4_deep_0 : decode cX4_deep 0 = .ok (.aload_n 0, 1) := by decide +kernel
theorem dX4_deep_1 : decode cX4_deep 1 = .ok (.iload_n 1, 1) := by decide +kernel
theorem dX4_deep_2 : decode cX4_deep 2 = .ok (.invokevirtual 89, 3) := by decide +kernel
theorem dX4_deep_5 : decode cX4_deep 5 = .ok (.astore_n 2, 1) := by decide +kernel
theorem dX4_deep_6 : decode cX4_deep 6 = .ok (.aload_n 0, 1) := by decide +kernel
theorem dX4_deep_7 : decode cX4_deep 7 = .ok (.aload_n 2, 1) := by decide +kernel
theorem dX4_deep_8 : decode cX4_deep 8 = .ok (.invokevirtual 124, 3) := by decide +kernel
theorem dX4_deep_11 : decode cX4_deep 11 = .ok (.istore_n 3, 1) := by decide +kernel
theorem dX4_deep_12 : decode cX4_deep 12 = .ok (.iload_n 3, 1) := by decide +kernel
theorem dX4_deep_13 : decode cX4_deep 13 = .ok (.ifCond .eq 9, 3) := by decide +kernel
theorem dX4_deep_16 : decode cX4_deep 16 = .ok (.aload_n 0, 1) := by decide +kernel
theorem dX4_deep_17 : decode cX4_deep 17 = .ok (.iload_n 3, 1) := by decide +kernel
theorem dX4_deep_18 : decode cX4_deep 18 = .ok (.invokevirtual 54, 3) := by decide +kernel
theorem dX4_deep_21 : decode cX4_deep 21 = .ok (.ireturn, 1) := by decide +kernel
theorem dX4_deep_22 : decode cX4_deep 22 = .ok (.aload_n 0, 1) := by decide +kernel
theorem dX4_deep_23 : decode cX4_deep 23 = .ok (.aload_n 2, 1) := by decide +kernel
theorem dX4_deep_24 : decode cX4_deep 24 = .ok (.getfield 88, 3) := by decide +kernel
theorem dX4_deep_27 : decode cX4_deep 27 = .ok (.iconst 4, 1) := by decide +kernel
theorem dX4_deep_28 : decode cX4_deep 28 = .ok (.invokevirtual 69, 3) := by decide +kernel
theorem dX4_deep_31 : decode cX4_deep 31 = .ok (.astore 4, 2) := by decide +kernel
theorem dX4_deep_33 : decode cX4_deep 33 = .ok (.aload_n 0, 1) := by decide +kernel
theorem dX4_deep_34 : decode cX4_deep 34 = .ok (.aload 4, 2) := by decide +kernel
theorem dX4_deep_36 : decode cX4_deep 36 = .ok (.invokevirtual 73, 3) := by decide +kernel
theorem dX4_deep_39 : decode cX4_deep 39 = .ok (.aload_n 0, 1) := by decide +kernel
theorem dX4_deep_40 : decode cX4_deep 40 = .ok (.getfield 26, 3) := by decide +kernel
theorem dX4_deep_43 : decode cX4_deep 43 = .ok (.aload_n 2, 1) := by decide +kernel
theorem dX4_deep_44 : decode cX4_deep 44 = .ok (.getfield 100, 3) := by decide +kernel
theorem dX4_deep_47 : decode cX4_deep 47 = .ok (.invokevirtual 127, 3) := by decide +kernel
theorem dX4_deep_50 : decode cX4_deep 50 = .ok (.istore 5, 2) := by decide +kernel
theorem dX4_deep_52 : decode cX4_deep 52 = .ok (.iconst 0, 1) := by decide +kernel
theorem dX4_deep_53 : decode cX4_deep 53 = .ok (.istore 6, 2) := by decide +kernel
theorem dX4_deep_55 : decode cX4_deep 55 = .ok (.iload 6, 2) := by decide +kernel
theorem dX4_deep_57 : decode cX4_deep 57 = .ok (.aload 4, 2) := by decide +kernel
theorem dX4_deep_59 : decode cX4_deep 59 = .ok (.invokevirtual 130, 3) := by decide +kernel
theorem dX4_deep_62 : decode cX4_deep 62 = .ok (.if_icmp .ge 60, 3) := by decide +kernel
theorem dX4_deep_65 : decode cX4_deep 65 = .ok (.aload 4, 2) := by decide +kernel
theorem dX4_deep_67 : decode cX4_deep 67 = .ok (.getfield 133, 3) := by decide +kernel
theorem dX4_deep_70 : decode cX4_deep 70 = .ok (.iload 6, 2) := by decide +kernel
theorem dX4_deep_72 : decode cX4_deep 72 = .ok (.iaload, 1) := by decide +kernel
theorem dX4_deep_73 : decode cX4_deep 73 = .ok (.istore 7, 2) := by decide +kernel
theorem dX4_deep_75 : decode cX4_deep 75 = .ok (.aload_n 0, 1) := by decide +kernel
theorem dX4_deep_76 : decode cX4_deep 76 = .ok (.getfield 26, 3) := by decide +kernel
theorem dX4_deep_79 : decode cX4_deep 79 = .ok (.iload 5, 2) := by decide +kernel
theorem dX4_deep_81 : decode cX4_deep 81 = .ok (.aload_n 0, 1) := by decide +kernel
theorem dX4_deep_82 : decode cX4_deep 82 = .ok (.getfield 26, 3) := by decide +kernel
theorem dX4_deep_85 : decode cX4_deep 85 = .ok (.iload 7, 2) := by decide +kernel
theorem dX4_deep_87 : decode cX4_deep 87 = .ok (.invokevirtual 127, 3) := by decide +kernel
theorem dX4_deep_90 : decode cX4_deep 90 = .ok (.aload_n 0, 1) := by decide +kernel
theorem dX4_deep_91 : decode cX4_deep 91 = .ok (.getfield 26, 3) := by decide +kernel
theorem dX4_deep_94 : decode cX4_deep 94 = .ok (.iload 7, 2) := by decide +kernel
theorem dX4_deep_96 : decode cX4_deep 96 = .ok (.invokevirtual 103, 3) := by decide +kernel
theorem dX4_deep_99 : decode cX4_deep 99 = .ok (.invokevirtual 136, 3) := by decide +kernel
theorem dX4_deep_102 : decode cX4_deep 102 = .ok (.iload 5, 2) := by decide +kernel
theorem dX4_deep_104 : decode cX4_deep 104 = .ok (.aload_n 0, 1) := by decide +kernel
theorem dX4_deep_105 : decode cX4_deep 105 = .ok (.getfield 26, 3) := by decide +kernel
theorem dX4_deep_108 : decode cX4_deep 108 = .ok (.iload 7, 2) := by decide +kernel
theorem dX4_deep_110 : decode cX4_deep 110 = .ok (.invokevirtual 103, 3) := by decide +kernel
theorem dX4_deep_113 : decode cX4_deep 113 = .ok (.iadd, 1) := by decide +kernel
theorem dX4_deep_114 : decode cX4_deep 114 = .ok (.istore 5, 2) := by decide +kernel
theorem dX4_deep_116 : decode cX4_deep 116 = .ok (.iinc 6 1, 3) := by decide +kernel
theorem dX4_deep_119 : decode cX4_deep 119 = .ok (.goto (-64), 3) := by decide +kernel
theorem dX4_deep_122 : decode cX4_deep 122 = .ok (.aload_n 0, 1) := by decide +kernel
theorem dX4_deep_123 : decode cX4_deep 123 = .ok (.aload_n 0, 1) := by decide +kernel
theorem dX4_deep_124 : decode cX4_deep 124 = .ok (.getfield 40, 3) := by decide +kernel
theorem dX4_deep_127 : decode cX4_deep 127 = .ok (.iconst 1, 1) := by decide +kernel
theorem dX4_deep_128 : decode cX4_deep 128 = .ok (.isub, 1) := by decide +kernel
theorem dX4_deep_129 : decode cX4_deep 129 = .ok (.invokevirtual 62, 3) := by decide +kernel
theorem dX4_deep_132 : decode cX4_deep 132 = .ok (.ireturn, 1) := by decide +kernel
theorem dX4_flat_0 : decode cX4_flat 0 = .ok (.aload_n 0, 1) := by decide +kernel
theorem dX4_flat_1 : decode cX4_flat 1 = .ok (.iload_n 1, 1) := by decide +kernel
theorem dX4_flat_2 : decode cX4_flat 2 = .ok (.invokevirtual 89, 3) := by decide +kernel
theorem dX4_flat_5 : decode cX4_flat 5 = .ok (.astore_n 2, 1) := by decide +kernel
theorem dX4_flat_6 : decode cX4_flat 6 = .ok (.aload_n 0, 1) := by decide +kernel
theorem dX4_flat_7 : decode cX4_flat 7 = .ok (.aload_n 2, 1) := by decide +kernel
theorem dX4_flat_8 : decode cX4_flat 8 = .ok (.invokevirtual 140, 3) := by decide +kernel
theorem dX4_flat_11 : decode cX4_flat 11 = .ok (.istore_n 3, 1) := by decide +kernel
theorem dX4_flat_12 : decode cX4_flat 12 = .ok (.iload_n 3, 1) := by decide +kernel
theorem dX4_flat_13 : decode cX4_flat 13 = .ok (.ifCond .eq 9, 3) := by decide +kernel
theorem dX4_flat_16 : decode cX4_flat 16 = .ok (.aload_n 0, 1) := by decide +kernel
theorem dX4_flat_17 : decode cX4_flat 17 = .ok (.iload_n 3, 1) := by decide +kernel
theorem dX4_flat_18 : decode cX4_flat 18 = .ok (.invokevirtual 54, 3) := by decide +kernel
theorem dX4_flat_21 : decode cX4_flat 21 = .ok (.ireturn, 1) := by decide +kernel
theorem dX4_flat_22 : decode cX4_flat 22 = .ok (.aload_n 0, 1) := by decide +kernel
theorem dX4_flat_23 : decode cX4_flat 23 = .ok (.aload_n 2, 1) := by decide +kernel
theorem dX4_flat_24 : decode cX4_flat 24 = .ok (.getfield 88, 3) := by decide +kernel
theorem dX4_flat_27 : decode cX4_flat 27 = .ok (.iconst 1, 1) := by decide +kernel
theorem dX4_flat_28 : decode cX4_flat 28 = .ok (.invokevirtual 69, 3) := by decide +kernel
theorem dX4_flat_31 : decode cX4_flat 31 = .ok (.astore 4, 2) := by decide +kernel
theorem dX4_flat_33 : decode cX4_flat 33 = .ok (.aload_n 0, 1) := by decide +kernel
theorem dX4_flat_34 : decode cX4_flat 34 = .ok (.aload 4, 2) := by decide +kernel
theorem dX4_flat_36 : decode cX4_flat 36 = .ok (.invokevirtual 77, 3) := by decide +kernel
theorem dX4_flat_39 : decode cX4_flat 39 = .ok (.aload_n 0, 1) := by decide +kernel
theorem dX4_flat_40 : decode cX4_flat 40 = .ok (.getfield 26, 3) := by decide +kernel
theorem dX4_flat_43 : decode cX4_flat 43 = .ok (.aload 4, 2) := by decide +kernel
theorem dX4_flat_45 : decode cX4_flat 45 = .ok (.getfield 100, 3) := by decide +kernel
theorem dX4_flat_48 : decode cX4_flat 48 = .ok (.invokevirtual 127, 3) := by decide +kernel
theorem dX4_flat_51 : decode cX4_flat 51 = .ok (.istore 5, 2) := by decide +kernel
theorem dX4_flat_53 : decode cX4_flat 53 = .ok (.iconst 0, 1) := by decide +kernel
theorem dX4_flat_54 : decode cX4_flat 54 = .ok (.istore 6, 2) := by decide +kernel
theorem dX4_flat_56 : decode cX4_flat 56 = .ok (.iload 6, 2) := by decide +kernel
theorem dX4_flat_58 : decode cX4_flat 58 = .ok (.aload_n 2, 1) := by decide +kernel
theorem dX4_flat_59 : decode cX4_flat 59 = .ok (.invokevirtual 130, 3) := by decide +kernel
theorem dX4_flat_62 : decode cX4_flat 62 = .ok (.if_icmp .ge 59, 3) := by decide +kernel
theorem dX4_flat_65 : decode cX4_flat 65 = .ok (.aload_n 2, 1) := by decide +kernel
theorem dX4_flat_66 : decode cX4_flat 66 = .ok (.getfield 133, 3) := by decide +kernel
theorem dX4_flat_69 : decode cX4_flat 69 = .ok (.iload 6, 2) := by decide +kernel
theorem dX4_flat_71 : decode cX4_flat 71 = .ok (.iaload, 1) := by decide +kernel
theorem dX4_flat_72 : decode cX4_flat 72 = .ok (.istore 7, 2) := by decide +kernel
theorem dX4_flat_74 : decode cX4_flat 74 = .ok (.aload_n 0, 1) := by decide +kernel
theorem dX4_flat_75 : decode cX4_flat 75 = .ok (.getfield 26, 3) := by decide +kernel
theorem dX4_flat_78 : decode cX4_flat 78 = .ok (.aload_n 0, 1) := by decide +kernel
theorem dX4_flat_79 : decode cX4_flat 79 = .ok (.getfield 26, 3) := by decide +kernel
theorem dX4_flat_82 : decode cX4_flat 82 = .ok (.iload 7, 2) := by decide +kernel
theorem dX4_flat_84 : decode cX4_flat 84 = .ok (.invokevirtual 127, 3) := by decide +kernel
theorem dX4_flat_87 : decode cX4_flat 87 = .ok (.iload 5, 2) := by decide +kernel
theorem dX4_flat_89 : decode cX4_flat 89 = .ok (.aload_n 0, 1) := by decide +kernel
theorem dX4_flat_90 : decode cX4_flat 90 = .ok (.getfield 26, 3) := by decide +kernel
theorem dX4_flat_93 : decode cX4_flat 93 = .ok (.iload 7, 2) := by decide +kernel
theorem dX4_flat_95 : decode cX4_flat 95 = .ok (.invokevirtual 103, 3) := by decide +kernel
theorem dX4_flat_98 : decode cX4_flat 98 = .ok (.invokevirtual 136, 3) := by decide +kernel
theorem dX4_flat_101 : decode cX4_flat 101 = .ok (.iload 5, 2) := by decide +kernel
theorem dX4_flat_103 : decode cX4_flat 103 = .ok (.aload_n 0, 1) := by decide +kernel
theorem dX4_flat_104 : decode cX4_flat 104 = .ok (.getfield 26, 3) := by decide +kernel
theorem dX4_flat_107 : decode cX4_flat 107 = .ok (.iload 7, 2) := by decide +kernel
theorem dX4_flat_109 : decode cX4_flat 109 = .ok (.invokevirtual 103, 3) := by decide +kernel
theorem dX4_flat_112 : decode cX4_flat 112 = .ok (.iadd, 1) := by decide +kernel
theorem dX4_flat_113 : decode cX4_flat 113 = .ok (.istore 5, 2) := by decide +kernel
theorem dX4_flat_115 : decode cX4_flat 115 = .ok (.iinc 6 1, 3) := by decide +kernel
theorem dX4_flat_118 : decode cX4_flat 118 = .ok (.goto (-62), 3) := by decide +kernel
theorem dX4_flat_121 : decode cX4_flat 121 = .ok (.aload_n 0, 1) := by decide +kernel
theorem dX4_flat_122 : decode cX4_flat 122 = .ok (.aload_n 0, 1) := by decide +kernel
theorem dX4_flat_123 : decode cX4_flat 123 = .ok (.getfield 40, 3) := by decide +kernel
theorem dX4_flat_126 : decode cX4_flat 126 = .ok (.iconst 1, 1) := by decide +kernel
theorem dX4_flat_127 : decode cX4_flat 127 = .ok (.isub, 1) := by decide +kernel
theorem dX4_flat_128 : decode cX4_flat 128 = .ok (.invokevirtual 62, 3) := by decide +kernel
theorem dX4_flat_131 : decode cX4_flat 131 = .ok (.ireturn, 1) := by decide +kernel
theorem dX4_ragged_0 : decode cX4_ragged 0 = .ok (.aload_n 0, 1) := by decide +kernel
theorem dX4_ragged_1 : decode cX4_ragged 1 = .ok (.iload_n 1, 1) := by decide +kernel
theorem dX4_ragged_2 : decode cX4_ragged 2 = .ok (.invokevirtual 89, 3) := by decide +kernel
theorem dX4_ragged_5 : decode cX4_ragged 5 = .ok (.astore 4, 2) := by decide +kernel
theorem dX4_ragged_7 : decode cX4_ragged 7 = .ok (.aload_n 0, 1) := by decide +kernel
theorem dX4_ragged_8 : decode cX4_ragged 8 = .ok (.aload 4, 2) := by decide +kernel
theorem dX4_ragged_10 : decode cX4_ragged 10 = .ok (.iload_n 2, 1) := by decide +kernel
theorem dX4_ragged_11 : decode cX4_ragged 11 = .ok (.invokevirtual 143, 3) := by decide +kernel
theorem dX4_ragged_14 : decode cX4_ragged 14 = .ok (.istore 5, 2) := by decide +kernel
theorem dX4_ragged_16 : decode cX4_ragged 16 = .ok (.iload 5, 2) := by decide +kernel
theorem dX4_ragged_18 : decode cX4_ragged 18 = .ok (.ifCond .eq 10, 3) := by decide +kernel
theorem dX4_ragged_21 : decode cX4_ragged 21 = .ok (.aload_n 0, 1) := by decide +kernel
theorem dX4_ragged_22 : decode cX4_ragged 22 = .ok (.iload 5, 2) := by decide +kernel
theorem dX4_ragged_24 : decode cX4_ragged 24 = .ok (.invokevirtual 54, 3) := by decide +kernel
theorem dX4_ragged_27 : decode cX4_ragged 27 = .ok (.ireturn, 1) := by decide +kernel
theorem dX4_ragged_28 : decode cX4_ragged 28 = .ok (.iload_n 3, 1) := by decide +kernel
theorem dX4_ragged_29 : decode cX4_ragged 29 = .ok (.ifCond .ge 9, 3) := by decide +kernel
theorem dX4_ragged_32 : decode cX4_ragged 32 = .ok (.aload_n 0, 1) := by decide +kernel
theorem dX4_ragged_33 : decode cX4_ragged 33 = .ok (.iconst 4, 1) := by decide +kernel
theorem dX4_ragged_34 : decode cX4_ragged 34 = .ok (.invokevirtual 54, 3) := by decide +kernel
theorem dX4_ragged_37 : decode cX4_ragged 37 = .ok (.ireturn, 1) := by decide +kernel
theorem dX4_ragged_38 : decode cX4_ragged 38 = .ok (.iload_n 3, 1) := by decide +kernel
theorem dX4_ragged_39 : decode cX4_ragged 39 = .ok (.bipush 100, 2) := by decide +kernel
theorem dX4_ragged_41 : decode cX4_ragged 41 = .ok (.if_icmp .le 9, 3) := by decide +kernel
theorem dX4_ragged_44 : decode cX4_ragged 44 = .ok (.aload_n 0, 1) := by decide +kernel
theorem dX4_ragged_45 : decode cX4_ragged 45 = .ok (.iconst 5, 1) := by decide +kernel
theorem dX4_ragged_46 : decode cX4_ragged 46 = .ok (.invokevirtual 54, 3) := by decide +kernel
theorem dX4_ragged_49 : decode cX4_ragged 49 = .ok (.ireturn, 1) := by decide +kernel
theorem dX4_ragged_50 : decode cX4_ragged 50 = .ok (.aload_n 0, 1) := by decide +kernel
theorem dX4_ragged_51 : decode cX4_ragged 51 = .ok (.getfield 26, 3) := by decide +kernel
theorem dX4_ragged_54 : decode cX4_ragged 54 = .ok (.iconst 1, 1) := by decide +kernel
theorem dX4_ragged_55 : decode cX4_ragged 55 = .ok (.iload_n 3, 1) := by decide +kernel
theorem dX4_ragged_56 : decode cX4_ragged 56 = .ok (.invokevirtual 147, 3) := by decide +kernel
theorem dX4_ragged_59 : decode cX4_ragged 59 = .ok (.ifCond .ne 10, 3) := by decide +kernel
theorem dX4_ragged_62 : decode cX4_ragged 62 = .ok (.aload_n 0, 1) := by decide +kernel
theorem dX4_ragged_63 : decode cX4_ragged 63 = .ok (.bipush 8, 2) := by decide +kernel
theorem dX4_ragged_65 : decode cX4_ragged 65 = .ok (.invokevirtual 54, 3) := by decide +kernel
theorem dX4_ragged_68 : decode cX4_ragged 68 = .ok (.ireturn, 1) := by decide +kernel
theorem dX4_ragged_69 : decode cX4_ragged 69 = .ok (.aload 4, 2) := by decide +kernel
theorem dX4_ragged_71 : decode cX4_ragged 71 = .ok (.getfield 133, 3) := by decide +kernel
theorem dX4_ragged_74 : decode cX4_ragged 74 = .ok (.aload 4, 2) := by decide +kernel
theorem dX4_ragged_76 : decode cX4_ragged 76 = .ok (.getfield 88, 3) := by decide +kernel
theorem dX4_ragged_79 : decode cX4_ragged 79 = .ok (.iconst 0, 1) := by decide +kernel
theorem dX4_ragged_80 : decode cX4_ragged 80 = .ok (.iload_n 2, 1) := by decide +kernel
theorem dX4_ragged_81 : decode cX4_ragged 81 = .ok (.invokevirtual 150, 3) := by decide +kernel
theorem dX4_ragged_84 : decode cX4_ragged 84 = .ok (.aload_n 0, 1) := by decide +kernel
theorem dX4_ragged_85 : decode cX4_ragged 85 = .ok (.getfield 26, 3) := by decide +kernel
theorem dX4_ragged_88 : decode cX4_ragged 88 = .ok (.iload_n 3, 1) := by decide +kernel
theorem dX4_ragged_89 : decode cX4_ragged 89 = .ok (.iconst 1, 1) := by decide +kernel
theorem dX4_ragged_90 : decode cX4_ragged 90 = .ok (.invokevirtual 154, 3) := by decide +kernel
theorem dX4_ragged_93 : decode cX4_ragged 93 = .ok (.iastore, 1) := by decide +kernel
theorem dX4_ragged_94 : decode cX4_ragged 94 = .ok (.aload_n 0, 1) := by decide +kernel
theorem dX4_ragged_95 : decode cX4_ragged 95 = .ok (.iconst 1, 1) := by decide +kernel
theorem dX4_ragged_96 : decode cX4_ragged 96 = .ok (.invokevirtual 62, 3) := by decide +kernel
theorem dX4_ragged_99 : decode cX4_ragged 99 = .ok (.ireturn, 1) := by decide +kernel
theorem dX4_without_0 : decode cX4_without 0 = .ok (.aload_n 0, 1) := by decide +kernel
theorem dX4_without_1 : decode cX4_without 1 = .ok (.iload_n 1, 1) := by decide +kernel
theorem dX4_without_2 : decode cX4_without 2 = .ok (.invokevirtual 89, 3) := by decide +kernel
theorem dX4_without_5 : decode cX4_without 5 = .ok (.astore_n 3, 1) := by decide +kernel
theorem dX4_without_6 : decode cX4_without 6 = .ok (.aload_n 0, 1) := by decide +kernel
theorem dX4_without_7 : decode cX4_without 7 = .ok (.aload_n 3, 1) := by decide +kernel
theorem dX4_without_8 : decode cX4_without 8 = .ok (.iload_n 2, 1) := by decide +kernel
theorem dX4_without_9 : decode cX4_without 9 = .ok (.invokevirtual 143, 3) := by decide +kernel
theorem dX4_without_12 : decode cX4_without 12 = .ok (.istore 4, 2) := by decide +kernel
theorem dX4_without_14 : decode cX4_without 14 = .ok (.iload 4, 2) := by decide +kernel
theorem dX4_without_16 : decode cX4_without 16 = .ok (.ifCond .eq 10, 3) := by decide +kernel
theorem dX4_without_19 : decode cX4_without 19 = .ok (.aload_n 0, 1) := by decide +kernel
theorem dX4_without_20 : decode cX4_without 20 = .ok (.iload 4, 2) := by decide +kernel
theorem dX4_without_22 : decode cX4_without 22 = .ok (.invokevirtual 54, 3) := by decide +kernel
theorem dX4_without_25 : decode cX4_without 25 = .ok (.ireturn, 1) := by decide +kernel
theorem dX4_without_26 : decode cX4_without 26 = .ok (.aload_n 3, 1) := by decide +kernel
theorem dX4_without_27 : decode cX4_without 27 = .ok (.getfield 133, 3) := by decide +kernel
theorem dX4_without_30 : decode cX4_without 30 = .ok (.aload_n 3, 1) := by decide +kernel
theorem dX4_without_31 : decode cX4_without 31 = .ok (.getfield 88, 3) := by decide +kernel
theorem dX4_without_34 : decode cX4_without 34 = .ok (.iconst 0, 1) := by decide +kernel
theorem dX4_without_35 : decode cX4_without 35 = .ok (.iload_n 2, 1) := by decide +kernel
theorem dX4_without_36 : decode cX4_without 36 = .ok (.invokevirtual 150, 3) := by decide +kernel
theorem dX4_without_39 : decode cX4_without 39 = .ok (.iconst (-1), 1) := by decide +kernel
theorem dX4_without_40 : decode cX4_without 40 = .ok (.iastore, 1) := by decide +kernel
theorem dX4_without_41 : decode cX4_without 41 = .ok (.aload_n 0, 1) := by decide +kernel
theorem dX4_without_42 : decode cX4_without 42 = .ok (.iconst 1, 1) := by decide +kernel
theorem dX4_without_43 : decode cX4_without 43 = .ok (.invokevirtual 62, 3) := by decide +kernel
theorem dX4_without_46 : decode cX4_without 46 = .ok (.ireturn, 1) := by decide +kernel
theorem dX4_tie_0 : decode cX4_tie 0 = .ok (.aload_n 0, 1) := by decide +kernel
theorem dX4_tie_1 : decode cX4_tie 1 = .ok (.iload_n 1, 1) := by decide +kernel
theorem dX4_tie_2 : decode cX4_tie 2 = .ok (.invokevirtual 89, 3) := by decide +kernel
theorem dX4_tie_5 : decode cX4_tie 5 = .ok (.astore 5, 2) := by decide +kernel
theorem dX4_tie_7 : decode cX4_tie 7 = .ok (.aload_n 0, 1) := by decide +kernel
theorem dX4_tie_8 : decode cX4_tie 8 = .ok (.iload_n 3, 1) := by decide +kernel
theorem dX4_tie_9 : decode cX4_tie 9 = .ok (.invokevirtual 89, 3) := by decide +kernel
theorem dX4_tie_12 : decode cX4_tie 12 = .ok (.astore 6, 2) := by decide +kernel
theorem dX4_tie_14 : decode cX4_tie 14 = .ok (.aload 5, 2) := by decide +kernel
theorem dX4_tie_16 : decode cX4_tie 16 = .ok (.ifnull 8, 3) := by decide +kernel
theorem dX4_tie_19 : decode cX4_tie 19 = .ok (.aload 6, 2) := by decide +kernel
theorem dX4_tie_21 : decode cX4_tie 21 = .ok (.ifnonnull 10, 3) := by decide +kernel
theorem dX4_tie_24 : decode cX4_tie 24 = .ok (.aload_n 0, 1) := by decide +kernel
theorem dX4_tie_25 : decode cX4_tie 25 = .ok (.bipush 7, 2) := by decide +kernel
theorem dX4_tie_27 : decode cX4_tie 27 = .ok (.invokevirtual 54, 3) := by decide +kernel
theorem dX4_tie_30 : decode cX4_tie 30 = .ok (.ireturn, 1) := by decide +kernel
theorem dX4_tie_31 : decode cX4_tie 31 = .ok (.aload 5, 2) := by decide +kernel
theorem dX4_tie_33 : decode cX4_tie 33 = .ok (.getfield 106, 3) := by decide +kernel
theorem dX4_tie_36 : decode cX4_tie 36 = .ok (.iconst 4, 1) := by decide +kernel
theorem dX4_tie_37 : decode cX4_tie 37 = .ok (.if_icmp .ne 12, 3) := by decide +kernel
theorem dX4_tie_40 : decode cX4_tie 40 = .ok (.aload 6, 2) := by decide +kernel
theorem dX4_tie_42 : decode cX4_tie 42 = .ok (.getfield 106, 3) := by decide +kernel
theorem dX4_tie_45 : decode cX4_tie 45 = .ok (.iconst 4, 1) := by decide +kernel
theorem dX4_tie_46 : decode cX4_tie 46 = .ok (.if_icmp .eq 9, 3) := by decide +kernel
theorem dX4_tie_49 : decode cX4_tie 49 = .ok (.aload_n 0, 1) := by decide +kernel
theorem dX4_tie_50 : decode cX4_tie 50 = .ok (.iconst 2, 1) := by decide +kernel
theorem dX4_tie_51 : decode cX4_tie 51 = .ok (.invokevirtual 54, 3) := by decide +kernel
theorem dX4_tie_54 : decode cX4_tie 54 = .ok (.ireturn, 1) := by decide +kernel
theorem dX4_tie_55 : decode cX4_tie 55 = .ok (.aload 5, 2) := by decide +kernel
theorem dX4_tie_57 : decode cX4_tie 57 = .ok (.getfield 88, 3) := by decide +kernel
theorem dX4_tie_60 : decode cX4_tie 60 = .ok (.iconst 0, 1) := by decide +kernel
theorem dX4_tie_61 : decode cX4_tie 61 = .ok (.iload_n 2, 1) := by decide +kernel
theorem dX4_tie_62 : decode cX4_tie 62 = .ok (.invokevirtual 158, 3) := by decide +kernel
theorem dX4_tie_65 : decode cX4_tie 65 = .ok (.ifCond .ne 9, 3) := by decide +kernel
theorem dX4_tie_68 : decode cX4_tie 68 = .ok (.aload_n 0, 1) := by decide +kernel
theorem dX4_tie_69 : decode cX4_tie 69 = .ok (.iconst 0, 1) := by decide +kernel
theorem dX4_tie_70 : decode cX4_tie 70 = .ok (.invokevirtual 121, 3) := by decide +kernel
theorem dX4_tie_73 : decode cX4_tie 73 = .ok (.ireturn, 1) := by decide +kernel
theorem dX4_tie_74 : decode cX4_tie 74 = .ok (.aload 6, 2) := by decide +kernel
theorem dX4_tie_76 : decode cX4_tie 76 = .ok (.getfield 88, 3) := by decide +kernel
theorem dX4_tie_79 : decode cX4_tie 79 = .ok (.iconst 0, 1) := by decide +kernel
theorem dX4_tie_80 : decode cX4_tie 80 = .ok (.iload 4, 2) := by decide +kernel
theorem dX4_tie_82 : decode cX4_tie 82 = .ok (.invokevirtual 158, 3) := by decide +kernel
theorem dX4_tie_85 : decode cX4_tie 85 = .ok (.ifCond .ne 9, 3) := by decide +kernel
theorem dX4_tie_88 : decode cX4_tie 88 = .ok (.aload_n 0, 1) := by decide +kernel
theorem dX4_tie_89 : decode cX4_tie 89 = .ok (.iconst 1, 1) := by decide +kernel
theorem dX4_tie_90 : decode cX4_tie 90 = .ok (.invokevirtual 121, 3) := by decide +kernel
theorem dX4_tie_93 : decode cX4_tie 93 = .ok (.ireturn, 1) := by decide +kernel
theorem dX4_tie_94 : decode cX4_tie 94 = .ok (.aload 5, 2) := by decide +kernel
theorem dX4_tie_96 : decode cX4_tie 96 = .ok (.getfield 133, 3) := by decide +kernel
theorem dX4_tie_99 : decode cX4_tie 99 = .ok (.aload 5, 2) := by decide +kernel
theorem dX4_tie_101 : decode cX4_tie 101 = .ok (.getfield 88, 3) := by decide +kernel
theorem dX4_tie_104 : decode cX4_tie 104 = .ok (.iconst 0, 1) := by decide +kernel
theorem dX4_tie_105 : decode cX4_tie 105 = .ok (.iload_n 2, 1) := by decide +kernel
theorem dX4_tie_106 : decode cX4_tie 106 = .ok (.invokevirtual 150, 3) := by decide +kernel
theorem dX4_tie_109 : decode cX4_tie 109 = .ok (.aload 6, 2) := by decide +kernel
theorem dX4_tie_111 : decode cX4_tie 111 = .ok (.getfield 133, 3) := by decide +kernel
theorem dX4_tie_114 : decode cX4_tie 114 = .ok (.aload 6, 2) := by decide +kernel
theorem dX4_tie_116 : decode cX4_tie 116 = .ok (.getfield 88, 3) := by decide +kernel
theorem dX4_tie_119 : decode cX4_tie 119 = .ok (.iconst 0, 1) := by decide +kernel
theorem dX4_tie_120 : decode cX4_tie 120 = .ok (.iload 4, 2) := by decide +kernel
theorem dX4_tie_122 : decode cX4_tie 122 = .ok (.invokevirtual 150, 3) := by decide +kernel
theorem dX4_tie_125 : decode cX4_tie 125 = .ok (.iaload, 1) := by decide +kernel
theorem dX4_tie_126 : decode cX4_tie 126 = .ok (.iastore, 1) := by decide +kernel
theorem dX4_tie_127 : decode cX4_tie 127 = .ok (.aload_n 0, 1) := by decide +kernel
theorem dX4_tie_128 : decode cX4_tie 128 = .ok (.iconst 1, 1) := by decide +kernel
theorem dX4_tie_129 : decode cX4_tie 129 = .ok (.invokevirtual 62, 3) := by decide +kernel
theorem dX4_tie_132 : decode cX4_tie 132 = .ok (.ireturn, 1) := by decide +kernel
theorem dX4_get_0 : decode cX4_get 0 = .ok (.aload_n 0, 1) := by decide +kernel
theorem dX4_get_1 : decode cX4_get 1 = .ok (.aload_n 0, 1) := by decide +kernel
theorem dX4_get_2 : decode cX4_get 2 = .ok (.iload_n 1, 1) := by decide +kernel
theorem dX4_get_3 : decode cX4_get 3 = .ok (.invokevirtual 89, 3) := by decide +kernel
theorem dX4_get_6 : decode cX4_get 6 = .ok (.iload_n 2, 1) := by decide +kernel
theorem dX4_get_7 : decode cX4_get 7 = .ok (.iload_n 3, 1) := by decide +kernel
theorem dX4_get_8 : decode cX4_get 8 = .ok (.iload 4, 2) := by decide +kernel
theorem dX4_get_10 : decode cX4_get 10 = .ok (.invokevirtual 161, 3) := by decide +kernel
theorem dX4_get_13 : decode cX4_get 13 = .ok (.istore 5, 2) := by decide +kernel
theorem dX4_get_15 : decode cX4_get 15 = .ok (.iload 5, 2) := by decide +kernel
theorem dX4_get_17 : decode cX4_get 17 = .ok (.iconst (-1), 1) := by decide +kernel
theorem dX4_get_18 : decode cX4_get 18 = .ok (.if_icmp .ne 5, 3) := by decide +kernel
theorem dX4_get_21 : decode cX4_get 21 = .ok (.lconst 0, 1) := by decide +kernel
theorem dX4_get_22 : decode cX4_get 22 = .ok (.lreturn, 1) := by decide +kernel
theorem dX4_get_23 : decode cX4_get 23 = .ok (.aload_n 0, 1) := by decide +kernel
theorem dX4_get_24 : decode cX4_get 24 = .ok (.getfield 26, 3) := by decide +kernel
theorem dX4_get_27 : decode cX4_get 27 = .ok (.getfield 165, 3) := by decide +kernel
theorem dX4_get_30 : decode cX4_get 30 = .ok (.iload 5, 2) := by decide +kernel
theorem dX4_get_32 : decode cX4_get 32 = .ok (.baload, 1) := by decide +kernel
theorem dX4_get_33 : decode cX4_get 33 = .ok (.ifCond .ne 10, 3) := by decide +kernel
theorem dX4_get_36 : decode cX4_get 36 = .ok (.aload_n 0, 1) := by decide +kernel
theorem dX4_get_37 : decode cX4_get 37 = .ok (.iconst 1, 1) := by decide +kernel
theorem dX4_get_38 : decode cX4_get 38 = .ok (.invokevirtual 54, 3) := by decide +kernel
theorem dX4_get_41 : decode cX4_get 41 = .ok (.i2l, 1) := by decide +kernel
theorem dX4_get_42 : decode cX4_get 42 = .ok (.lreturn, 1) := by decide +kernel
theorem dX4_get_43 : decode cX4_get 43 = .ok (.aload_n 0, 1) := by decide +kernel
theorem dX4_get_44 : decode cX4_get 44 = .ok (.iconst 0, 1) := by decide +kernel
theorem dX4_get_45 : decode cX4_get 45 = .ok (.putfield 44, 3) := by decide +kernel
theorem dX4_get_48 : decode cX4_get 48 = .ok (.aload_n 0, 1) := by decide +kernel
theorem dX4_get_49 : decode cX4_get 49 = .ok (.getfield 26, 3) := by decide +kernel
theorem dX4_get_52 : decode cX4_get 52 = .ok (.getfield 169, 3) := by decide +kernel
theorem dX4_get_55 : decode cX4_get 55 = .ok (.iload 5, 2) := by decide +kernel
theorem dX4_get_57 : decode cX4_get 57 = .ok (.laload, 1) := by decide +kernel
theorem dX4_get_58 : decode cX4_get 58 = .ok (.lreturn, 1) := by decide +kernel
theorem dX4_put_0 : decode cX4_put 0 = .ok (.aload_n 0, 1) := by decide +kernel
theorem dX4_put_1 : decode cX4_put 1 = .ok (.iload_n 1, 1) := by decide +kernel
theorem dX4_put_2 : decode cX4_put 2 = .ok (.invokevirtual 89, 3) := by decide +kernel
theorem dX4_put_5 : decode cX4_put 5 = .ok (.astore 7, 2) := by decide +kernel
theorem dX4_put_7 : decode cX4_put 7 = .ok (.aload_n 0, 1) := by decide +kernel
theorem dX4_put_8 : decode cX4_put 8 = .ok (.aload 7, 2) := by decide +kernel
theorem dX4_put_10 : decode cX4_put 10 = .ok (.iload_n 2, 1) := by decide +kernel
theorem dX4_put_11 : decode cX4_put 11 = .ok (.iload_n 3, 1) := by decide +kernel
theorem dX4_put_12 : decode cX4_put 12 = .ok (.iload 4, 2) := by decide +kernel
theorem dX4_put_14 : decode cX4_put 14 = .ok (.invokevirtual 161, 3) := by decide +kernel
theorem dX4_put_17 : decode cX4_put 17 = .ok (.istore 8, 2) := by decide +kernel
theorem dX4_put_19 : decode cX4_put 19 = .ok (.iload 8, 2) := by decide +kernel
theorem dX4_put_21 : decode cX4_put 21 = .ok (.iconst (-1), 1) := by decide +kernel
theorem dX4_put_22 : decode cX4_put 22 = .ok (.if_icmp .eq 8, 3) := by decide +kernel
theorem dX4_put_25 : decode cX4_put 25 = .ok (.aload 7, 2) := by decide +kernel
theorem dX4_put_27 : decode cX4_put 27 = .ok (.ifnonnull 5, 3) := by decide +kernel
theorem dX4_put_30 : decode cX4_put 30 = .ok (.iconst 0, 1) := by decide +kernel
theorem dX4_put_31 : decode cX4_put 31 = .ok (.ireturn, 1) := by decide +kernel
theorem dX4_put_32 : decode cX4_put 32 = .ok (.aload_n 0, 1) := by decide +kernel
theorem dX4_put_33 : decode cX4_put 33 = .ok (.getfield 26, 3) := by decide +kernel
theorem dX4_put_36 : decode cX4_put 36 = .ok (.iload 8, 2) := by decide +kernel
theorem dX4_put_38 : decode cX4_put 38 = .ok (.aload 7, 2) := by decide +kernel
theorem dX4_put_40 : decode cX4_put 40 = .ok (.getfield 106, 3) := by decide +kernel
theorem dX4_put_43 : decode cX4_put 43 = .ok (.lload 5, 2) := by decide +kernel
theorem dX4_put_45 : decode cX4_put 45 = .ok (.invokestatic 173, 3) := by decide +kernel
theorem dX4_put_48 : decode cX4_put 48 = .ok (.invokevirtual 177, 3) := by decide +kernel
theorem dX4_put_51 : decode cX4_put 51 = .ok (.aload_n 0, 1) := by decide +kernel
theorem dX4_put_52 : decode cX4_put 52 = .ok (.iconst 1, 1) := by decide +kernel
theorem dX4_put_53 : decode cX4_put 53 = .ok (.invokevirtual 62, 3) := by decide +kernel
theorem dX4_put_56 : decode cX4_put 56 = .ok (.ireturn, 1) := by decide +kernel
theorem dX4_empty_0 : decode cX4_empty 0 = .ok (.aload_n 0, 1) := by decide +kernel
theorem dX4_empty_1 : decode cX4_empty 1 = .ok (.iload_n 1, 1) := by decide +kernel
theorem dX4_empty_2 : decode cX4_empty 2 = .ok (.invokevirtual 89, 3) := by decide +kernel
theorem dX4_empty_5 : decode cX4_empty 5 = .ok (.astore 5, 2) := by decide +kernel
theorem dX4_empty_7 : decode cX4_empty 7 = .ok (.aload 5, 2) := by decide +kernel
theorem dX4_empty_9 : decode cX4_empty 9 = .ok (.ifnonnull 10, 3) := by decide +kernel
theorem dX4_empty_12 : decode cX4_empty 12 = .ok (.aload_n 0, 1) := by decide +kernel
theorem dX4_empty_13 : decode cX4_empty 13 = .ok (.bipush 7, 2) := by decide +kernel
theorem dX4_empty_15 : decode cX4_empty 15 = .ok (.invokevirtual 54, 3) := by decide +kernel
theorem dX4_empty_18 : decode cX4_empty 18 = .ok (.ireturn, 1) := by decide +kernel
theorem dX4_empty_19 : decode cX4_empty 19 = .ok (.aload 5, 2) := by decide +kernel
theorem dX4_empty_21 : decode cX4_empty 21 = .ok (.getfield 106, 3) := by decide +kernel
theorem dX4_empty_24 : decode cX4_empty 24 = .ok (.iconst 3, 1) := by decide +kernel
theorem dX4_empty_25 : decode cX4_empty 25 = .ok (.if_icmp .eq 9, 3) := by decide +kernel
theorem dX4_empty_28 : decode cX4_empty 28 = .ok (.aload_n 0, 1) := by decide +kernel
theorem dX4_empty_29 : decode cX4_empty 29 = .ok (.iconst 2, 1) := by decide +kernel
theorem dX4_empty_30 : decode cX4_empty 30 = .ok (.invokevirtual 54, 3) := by decide +kernel
theorem dX4_empty_33 : decode cX4_empty 33 = .ok (.ireturn, 1) := by decide +kernel
theorem dX4_empty_34 : decode cX4_empty 34 = .ok (.aload_n 0, 1) := by decide +kernel
theorem dX4_empty_35 : decode cX4_empty 35 = .ok (.aload 5, 2) := by decide +kernel
theorem dX4_empty_37 : decode cX4_empty 37 = .ok (.iload_n 2, 1) := by decide +kernel
theorem dX4_empty_38 : decode cX4_empty 38 = .ok (.iload_n 3, 1) := by decide +kernel
theorem dX4_empty_39 : decode cX4_empty 39 = .ok (.iload 4, 2) := by decide +kernel
theorem dX4_empty_41 : decode cX4_empty 41 = .ok (.invokevirtual 161, 3) := by decide +kernel
theorem dX4_empty_44 : decode cX4_empty 44 = .ok (.istore 6, 2) := by decide +kernel
theorem dX4_empty_46 : decode cX4_empty 46 = .ok (.iload 6, 2) := by decide +kernel
theorem dX4_empty_48 : decode cX4_empty 48 = .ok (.iconst (-1), 1) := by decide +kernel
theorem dX4_empty_49 : decode cX4_empty 49 = .ok (.if_icmp .ne 5, 3) := by decide +kernel
theorem dX4_empty_52 : decode cX4_empty 52 = .ok (.iconst 0, 1) := by decide +kernel
theorem dX4_empty_53 : decode cX4_empty 53 = .ok (.ireturn, 1) := by decide +kernel
theorem dX4_empty_54 : decode cX4_empty 54 = .ok (.aload_n 0, 1) := by decide +kernel
theorem dX4_empty_55 : decode cX4_empty 55 = .ok (.getfield 26, 3) := by decide +kernel
theorem dX4_empty_58 : decode cX4_empty 58 = .ok (.iload 6, 2) := by decide +kernel
theorem dX4_empty_60 : decode cX4_empty 60 = .ok (.invokevirtual 181, 3) := by decide +kernel
theorem dX4_empty_63 : decode cX4_empty 63 = .ok (.aload_n 0, 1) := by decide +kernel
theorem dX4_empty_64 : decode cX4_empty 64 = .ok (.iconst 1, 1) := by decide +kernel
theorem dX4_empty_65 : decode cX4_empty 65 = .ok (.invokevirtual 62, 3) := by decide +kernel
theorem dX4_empty_68 : decode cX4_empty 68 = .ok (.ireturn, 1) := by decide +kernel
theorem dX4_pair_0 : decode cX4_pair 0 = .ok (.aload_n 0, 1) := by decide +kernel
theorem dX4_pair_1 : decode cX4_pair 1 = .ok (.getfield 19, 3) := by decide +kernel
theorem dX4_pair_4 : decode cX4_pair 4 = .ok (.getfield 185, 3) := by decide +kernel
theorem dX4_pair_7 : decode cX4_pair 7 = .ok (.bipush 30, 2) := by decide +kernel
theorem dX4_pair_9 : decode cX4_pair 9 = .ok (.if_icmp .lt 10, 3) := by decide +kernel
theorem dX4_pair_12 : decode cX4_pair 12 = .ok (.aload_n 0, 1) := by decide +kernel
theorem dX4_pair_13 : decode cX4_pair 13 = .ok (.bipush 8, 2) := by decide +kernel
theorem dX4_pair_15 : decode cX4_pair 15 = .ok (.invokevirtual 54, 3) := by decide +kernel
theorem dX4_pair_18 : decode cX4_pair 18 = .ok (.ireturn, 1) := by decide +kernel
theorem dX4_pair_19 : decode cX4_pair 19 = .ok (.aload_n 0, 1) := by decide +kernel
theorem dX4_pair_20 : decode cX4_pair 20 = .ok (.getfield 19, 3) := by decide +kernel
theorem dX4_pair_23 : decode cX4_pair 23 = .ok (.iload_n 1, 1) := by decide +kernel
theorem dX4_pair_24 : decode cX4_pair 24 = .ok (.iload_n 2, 1) := by decide +kernel
theorem dX4_pair_25 : decode cX4_pair 25 = .ok (.iload_n 3, 1) := by decide +kernel
theorem dX4_pair_26 : decode cX4_pair 26 = .ok (.lload 4, 2) := by decide +kernel
theorem dX4_pair_28 : decode cX4_pair 28 = .ok (.invokevirtual 186, 3) := by decide +kernel
theorem dX4_pair_31 : decode cX4_pair 31 = .ok (.aload_n 0, 1) := by decide +kernel
theorem dX4_pair_32 : decode cX4_pair 32 = .ok (.aload_n 0, 1) := by decide +kernel
theorem dX4_pair_33 : decode cX4_pair 33 = .ok (.getfield 19, 3) := by decide +kernel
theorem dX4_pair_36 : decode cX4_pair 36 = .ok (.getfield 185, 3) := by decide +kernel
theorem dX4_pair_39 : decode cX4_pair 39 = .ok (.invokevirtual 62, 3) := by decide +kernel
theorem dX4_pair_42 : decode cX4_pair 42 = .ok (.ireturn, 1) := by decide +kernel
theorem dX4_gather_0 : decode cX4_gather 0 = .ok (.iload_n 2, 1) := by decide +kernel
theorem dX4_gather_1 : decode cX4_gather 1 = .ok (.ifCond .lt 8, 3) := by decide +kernel
theorem dX4_gather_4 : decode cX4_gather 4 = .ok (.iload_n 2, 1) := by decide +kernel
theorem dX4_gather_5 : decode cX4_gather 5 = .ok (.iconst 5, 1) := by decide +kernel
theorem dX4_gather_6 : decode cX4_gather 6 = .ok (.if_icmp .le 6, 3) := by decide +kernel
theorem dX4_gather_9 : decode cX4_gather 9 = .ok (.ldc 65, 2) := by decide +kernel
theorem dX4_gather_11 : decode cX4_gather 11 = .ok (.ireturn, 1) := by decide +kernel
theorem dX4_gather_12 : decode cX4_gather 12 = .ok (.aload_n 0, 1) := by decide +kernel
theorem dX4_gather_13 : decode cX4_gather 13 = .ok (.iload_n 1, 1) := by decide +kernel
theorem dX4_gather_14 : decode cX4_gather 14 = .ok (.invokevirtual 89, 3) := by decide +kernel
theorem dX4_gather_17 : decode cX4_gather 17 = .ok (.astore_n 3, 1) := by decide +kernel
theorem dX4_gather_18 : decode cX4_gather 18 = .ok (.aload_n 0, 1) := by decide +kernel
theorem dX4_gather_19 : decode cX4_gather 19 = .ok (.aload_n 3, 1) := by decide +kernel
theorem dX4_gather_20 : decode cX4_gather 20 = .ok (.invokevirtual 92, 3) := by decide +kernel
theorem dX4_gather_23 : decode cX4_gather 23 = .ok (.istore 4, 2) := by decide +kernel
theorem dX4_gather_25 : decode cX4_gather 25 = .ok (.iload 4, 2) := by decide +kernel
theorem dX4_gather_27 : decode cX4_gather 27 = .ok (.ifCond .eq 10, 3) := by decide +kernel
theorem dX4_gather_30 : decode cX4_gather 30 = .ok (.aload_n 0, 1) := by decide +kernel
theorem dX4_gather_31 : decode cX4_gather 31 = .ok (.iload 4, 2) := by decide +kernel
theorem dX4_gather_33 : decode cX4_gather 33 = .ok (.invokevirtual 54, 3) := by decide +kernel
theorem dX4_gather_36 : decode cX4_gather 36 = .ok (.ireturn, 1) := by decide +kernel
theorem dX4_gather_37 : decode cX4_gather 37 = .ok (.iconst 0, 1) := by decide +kernel
theorem dX4_gather_38 : decode cX4_gather 38 = .ok (.istore 5, 2) := by decide +kernel
theorem dX4_gather_40 : decode cX4_gather 40 = .ok (.iload 5, 2) := by decide +kernel
theorem dX4_gather_42 : decode cX4_gather 42 = .ok (.aload_n 0, 1) := by decide +kernel
theorem dX4_gather_43 : decode cX4_gather 43 = .ok (.getfield 19, 3) := by decide +kernel
theorem dX4_gather_46 : decode cX4_gather 46 = .ok (.getfield 185, 3) := by decide +kernel
theorem dX4_gather_49 : decode cX4_gather 49 = .ok (.if_icmp .ge 88, 3) := by decide +kernel
theorem dX4_gather_52 : decode cX4_gather 52 = .ok (.aload_n 0, 1) := by decide +kernel
theorem dX4_gather_53 : decode cX4_gather 53 = .ok (.aload_n 3, 1) := by decide +kernel
theorem dX4_gather_54 : decode cX4_gather 54 = .ok (.aload_n 0, 1) := by decide +kernel
theorem dX4_gather_55 : decode cX4_gather 55 = .ok (.getfield 19, 3) := by decide +kernel
theorem dX4_gather_58 : decode cX4_gather 58 = .ok (.getfield 189, 3) := by decide +kernel
theorem dX4_gather_61 : decode cX4_gather 61 = .ok (.iload 5, 2) := by decide +kernel
theorem dX4_gather_63 : decode cX4_gather 63 = .ok (.iaload, 1) := by decide +kernel
theorem dX4_gather_64 : decode cX4_gather 64 = .ok (.aload_n 0, 1) := by decide +kernel
theorem dX4_gather_65 : decode cX4_gather 65 = .ok (.getfield 19, 3) := by decide +kernel
theorem dX4_gather_68 : decode cX4_gather 68 = .ok (.getfield 192, 3) := by decide +kernel
theorem dX4_gather_71 : decode cX4_gather 71 = .ok (.iload 5, 2) := by decide +kernel
theorem dX4_gather_73 : decode cX4_gather 73 = .ok (.iaload, 1) := by decide +kernel
theorem dX4_gather_74 : decode cX4_gather 74 = .ok (.aload_n 0, 1) := by decide +kernel
theorem dX4_gather_75 : decode cX4_gather 75 = .ok (.getfield 19, 3) := by decide +kernel
theorem dX4_gather_78 : decode cX4_gather 78 = .ok (.getfield 195, 3) := by decide +kernel
theorem dX4_gather_81 : decode cX4_gather 81 = .ok (.iload 5, 2) := by decide +kernel
theorem dX4_gather_83 : decode cX4_gather 83 = .ok (.iaload, 1) := by decide +kernel
theorem dX4_gather_84 : decode cX4_gather 84 = .ok (.invokevirtual 161, 3) := by decide +kernel
theorem dX4_gather_87 : decode cX4_gather 87 = .ok (.istore 6, 2) := by decide +kernel
theorem dX4_gather_89 : decode cX4_gather 89 = .ok (.iload 6, 2) := by decide +kernel
theorem dX4_gather_91 : decode cX4_gather 91 = .ok (.iconst (-1), 1) := by decide +kernel
theorem dX4_gather_92 : decode cX4_gather 92 = .ok (.if_icmp .ne 6, 3) := by decide +kernel
theorem dX4_gather_95 : decode cX4_gather 95 = .ok (.iload 5, 2) := by decide +kernel
theorem dX4_gather_97 : decode cX4_gather 97 = .ok (.ireturn, 1) := by decide +kernel
theorem dX4_gather_98 : decode cX4_gather 98 = .ok (.aload_n 0, 1) := by decide +kernel
theorem dX4_gather_99 : decode cX4_gather 99 = .ok (.aload_n 3, 1) := by decide +kernel
theorem dX4_gather_100 : decode cX4_gather 100 = .ok (.getfield 106, 3) := by decide +kernel
theorem dX4_gather_103 : decode cX4_gather 103 = .ok (.iload 6, 2) := by decide +kernel
theorem dX4_gather_105 : decode cX4_gather 105 = .ok (.aload_n 0, 1) := by decide +kernel
theorem dX4_gather_106 : decode cX4_gather 106 = .ok (.getfield 19, 3) := by decide +kernel
theorem dX4_gather_109 : decode cX4_gather 109 = .ok (.getfield 198, 3) := by decide +kernel
theorem dX4_gather_112 : decode cX4_gather 112 = .ok (.iload 5, 2) := by decide +kernel
theorem dX4_gather_114 : decode cX4_gather 114 = .ok (.laload, 1) := by decide +kernel
theorem dX4_gather_115 : decode cX4_gather 115 = .ok (.iload_n 2, 1) := by decide +kernel
theorem dX4_gather_116 : decode cX4_gather 116 = .ok (.invokevirtual 201, 3) := by decide +kernel
theorem dX4_gather_119 : decode cX4_gather 119 = .ok (.ifCond .ne 12, 3) := by decide +kernel
theorem dX4_gather_122 : decode cX4_gather 122 = .ok (.aload_n 0, 1) := by decide +kernel
theorem dX4_gather_123 : decode cX4_gather 123 = .ok (.bipush 6, 2) := by decide +kernel
theorem dX4_gather_125 : decode cX4_gather 125 = .ok (.iload 5, 2) := by decide +kernel
theorem dX4_gather_127 : decode cX4_gather 127 = .ok (.invokevirtual 205, 3) := by decide +kernel
theorem dX4_gather_130 : decode cX4_gather 130 = .ok (.ireturn, 1) := by decide +kernel
theorem dX4_gather_131 : decode cX4_gather 131 = .ok (.iinc 5 1, 3) := by decide +kernel
theorem dX4_gather_134 : decode cX4_gather 134 = .ok (.goto (-94), 3) := by decide +kernel
theorem dX4_gather_137 : decode cX4_gather 137 = .ok (.aload_n 0, 1) := by decide +kernel
theorem dX4_gather_138 : decode cX4_gather 138 = .ok (.getfield 19, 3) := by decide +kernel
theorem dX4_gather_141 : decode cX4_gather 141 = .ok (.getfield 185, 3) := by decide +kernel
theorem dX4_gather_144 : decode cX4_gather 144 = .ok (.istore 5, 2) := by decide +kernel
theorem dX4_gather_146 : decode cX4_gather 146 = .ok (.aload_n 0, 1) := by decide +kernel
theorem dX4_gather_147 : decode cX4_gather 147 = .ok (.getfield 19, 3) := by decide +kernel
theorem dX4_gather_150 : decode cX4_gather 150 = .ok (.iconst 0, 1) := by decide +kernel
theorem dX4_gather_151 : decode cX4_gather 151 = .ok (.putfield 185, 3) := by decide +kernel
theorem dX4_gather_154 : decode cX4_gather 154 = .ok (.aload_n 0, 1) := by decide +kernel
theorem dX4_gather_155 : decode cX4_gather 155 = .ok (.iload 5, 2) := by decide +kernel
theorem dX4_gather_157 : decode cX4_gather 157 = .ok (.invokevirtual 62, 3) := by decide +kernel
theorem dX4_gather_160 : decode cX4_gather 160 = .ok (.ireturn, 1) := by decide +kernel
theorem dX4_join_0 : decode cX4_join 0 = .ok (.iload_n 3, 1) := by decide +kernel
theorem dX4_join_1 : decode cX4_join 1 = .ok (.ifCond .lt 8, 3) := by decide +kernel
theorem dX4_join_4 : decode cX4_join 4 = .ok (.iload_n 3, 1) := by decide +kernel
theorem dX4_join_5 : decode cX4_join 5 = .ok (.iconst 5, 1) := by decide +kernel
theorem dX4_join_6 : decode cX4_join 6 = .ok (.if_icmp .le 6, 3) := by decide +kernel
theorem dX4_join_9 : decode cX4_join 9 = .ok (.ldc 65, 2) := by decide +kernel
theorem dX4_join_11 : decode cX4_join 11 = .ok (.ireturn, 1) := by decide +kernel
theorem dX4_join_12 : decode cX4_join 12 = .ok (.aload_n 0, 1) := by decide +kernel
theorem dX4_join_13 : decode cX4_join 13 = .ok (.iload_n 1, 1) := by decide +kernel
theorem dX4_join_14 : decode cX4_join 14 = .ok (.invokevirtual 89, 3) := by decide +kernel
theorem dX4_join_17 : decode cX4_join 17 = .ok (.astore 4, 2) := by decide +kernel
theorem dX4_join_19 : decode cX4_join 19 = .ok (.aload_n 0, 1) := by decide +kernel
theorem dX4_join_20 : decode cX4_join 20 = .ok (.iload_n 2, 1) := by decide +kernel
theorem dX4_join_21 : decode cX4_join 21 = .ok (.invokevirtual 89, 3) := by decide +kernel
theorem dX4_join_24 : decode cX4_join 24 = .ok (.astore 5, 2) := by decide +kernel
theorem dX4_join_26 : decode cX4_join 26 = .ok (.aload_n 0, 1) := by decide +kernel
theorem dX4_join_27 : decode cX4_join 27 = .ok (.aload 4, 2) := by decide +kernel
theorem dX4_join_29 : decode cX4_join 29 = .ok (.aload 5, 2) := by decide +kernel
theorem dX4_join_31 : decode cX4_join 31 = .ok (.invokevirtual 208, 3) := by decide +kernel
theorem dX4_join_34 : decode cX4_join 34 = .ok (.istore 6, 2) := by decide +kernel
theorem dX4_join_36 : decode cX4_join 36 = .ok (.iload 6, 2) := by decide +kernel
theorem dX4_join_38 : decode cX4_join 38 = .ok (.ifCond .eq 10, 3) := by decide +kernel
theorem dX4_join_41 : decode cX4_join 41 = .ok (.aload_n 0, 1) := by decide +kernel
theorem dX4_join_42 : decode cX4_join 42 = .ok (.iload 6, 2) := by decide +kernel
theorem dX4_join_44 : decode cX4_join 44 = .ok (.invokevirtual 54, 3) := by decide +kernel
theorem dX4_join_47 : decode cX4_join 47 = .ok (.ireturn, 1) := by decide +kernel
theorem dX4_join_48 : decode cX4_join 48 = .ok (.aload_n 0, 1) := by decide +kernel
theorem dX4_join_49 : decode cX4_join 49 = .ok (.getfield 26, 3) := by decide +kernel
theorem dX4_join_52 : decode cX4_join 52 = .ok (.aload 4, 2) := by decide +kernel
theorem dX4_join_54 : decode cX4_join 54 = .ok (.getfield 100, 3) := by decide +kernel
theorem dX4_join_57 : decode cX4_join 57 = .ok (.invokevirtual 127, 3) := by decide +kernel
theorem dX4_join_60 : decode cX4_join 60 = .ok (.istore 7, 2) := by decide +kernel
theorem dX4_join_62 : decode cX4_join 62 = .ok (.aload_n 0, 1) := by decide +kernel
theorem dX4_join_63 : decode cX4_join 63 = .ok (.getfield 26, 3) := by decide +kernel
theorem dX4_join_66 : decode cX4_join 66 = .ok (.aload 5, 2) := by decide +kernel
theorem dX4_join_68 : decode cX4_join 68 = .ok (.getfield 100, 3) := by decide +kernel
theorem dX4_join_71 : decode cX4_join 71 = .ok (.invokevirtual 127, 3) := by decide +kernel
theorem dX4_join_74 : decode cX4_join 74 = .ok (.istore 8, 2) := by decide +kernel
theorem dX4_join_76 : decode cX4_join 76 = .ok (.aload_n 0, 1) := by decide +kernel
theorem dX4_join_77 : decode cX4_join 77 = .ok (.getfield 26, 3) := by decide +kernel
theorem dX4_join_80 : decode cX4_join 80 = .ok (.aload 4, 2) := by decide +kernel
theorem dX4_join_82 : decode cX4_join 82 = .ok (.getfield 100, 3) := by decide +kernel
theorem dX4_join_85 : decode cX4_join 85 = .ok (.invokevirtual 103, 3) := by decide +kernel
theorem dX4_join_88 : decode cX4_join 88 = .ok (.istore 9, 2) := by decide +kernel
theorem dX4_join_90 : decode cX4_join 90 = .ok (.iconst 0, 1) := by decide +kernel
theorem dX4_join_91 : decode cX4_join 91 = .ok (.istore 10, 2) := by decide +kernel
theorem dX4_join_93 : decode cX4_join 93 = .ok (.iload 10, 2) := by decide +kernel
theorem dX4_join_95 : decode cX4_join 95 = .ok (.iload 9, 2) := by decide +kernel
theorem dX4_join_97 : decode cX4_join 97 = .ok (.if_icmp .ge 73, 3) := by decide +kernel
theorem dX4_join_100 : decode cX4_join 100 = .ok (.aload_n 0, 1) := by decide +kernel
theorem dX4_join_101 : decode cX4_join 101 = .ok (.getfield 26, 3) := by decide +kernel
theorem dX4_join_104 : decode cX4_join 104 = .ok (.getfield 165, 3) := by decide +kernel
theorem dX4_join_107 : decode cX4_join 107 = .ok (.iload 8, 2) := by decide +kernel
theorem dX4_join_109 : decode cX4_join 109 = .ok (.iload 10, 2) := by decide +kernel
theorem dX4_join_111 : decode cX4_join 111 = .ok (.iadd, 1) := by decide +kernel
theorem dX4_join_112 : decode cX4_join 112 = .ok (.baload, 1) := by decide +kernel
theorem dX4_join_113 : decode cX4_join 113 = .ok (.ifCond .ne 11, 3) := by decide +kernel
theorem dX4_join_116 : decode cX4_join 116 = .ok (.aload_n 0, 1) := by decide +kernel
theorem dX4_join_117 : decode cX4_join 117 = .ok (.iconst 1, 1) := by decide +kernel
theorem dX4_join_118 : decode cX4_join 118 = .ok (.iload 10, 2) := by decide +kernel
theorem dX4_join_120 : decode cX4_join 120 = .ok (.invokevirtual 205, 3) := by decide +kernel
theorem dX4_join_123 : decode cX4_join 123 = .ok (.ireturn, 1) := by decide +kernel
theorem dX4_join_124 : decode cX4_join 124 = .ok (.aload_n 0, 1) := by decide +kernel
theorem dX4_join_125 : decode cX4_join 125 = .ok (.aload 4, 2) := by decide +kernel
theorem dX4_join_127 : decode cX4_join 127 = .ok (.getfield 106, 3) := by decide +kernel
theorem dX4_join_130 : decode cX4_join 130 = .ok (.iload 7, 2) := by decide +kernel
theorem dX4_join_132 : decode cX4_join 132 = .ok (.iload 10, 2) := by decide +kernel
theorem dX4_join_134 : decode cX4_join 134 = .ok (.iadd, 1) := by decide +kernel
theorem dX4_join_135 : decode cX4_join 135 = .ok (.aload_n 0, 1) := by decide +kernel
theorem dX4_join_136 : decode cX4_join 136 = .ok (.getfield 26, 3) := by decide +kernel
theorem dX4_join_139 : decode cX4_join 139 = .ok (.getfield 169, 3) := by decide +kernel
theorem dX4_join_142 : decode cX4_join 142 = .ok (.iload 8, 2) := by decide +kernel
theorem dX4_join_144 : decode cX4_join 144 = .ok (.iload 10, 2) := by decide +kernel
theorem dX4_join_146 : decode cX4_join 146 = .ok (.iadd, 1) := by decide +kernel
theorem dX4_join_147 : decode cX4_join 147 = .ok (.laload, 1) := by decide +kernel
theorem dX4_join_148 : decode cX4_join 148 = .ok (.iload_n 3, 1) := by decide +kernel
theorem dX4_join_149 : decode cX4_join 149 = .ok (.invokevirtual 201, 3) := by decide +kernel
theorem dX4_join_152 : decode cX4_join 152 = .ok (.ifCond .ne 12, 3) := by decide +kernel
theorem dX4_join_155 : decode cX4_join 155 = .ok (.aload_n 0, 1) := by decide +kernel
theorem dX4_join_156 : decode cX4_join 156 = .ok (.bipush 6, 2) := by decide +kernel
theorem dX4_join_158 : decode cX4_join 158 = .ok (.iload 10, 2) := by decide +kernel
theorem dX4_join_160 : decode cX4_join 160 = .ok (.invokevirtual 205, 3) := by decide +kernel
theorem dX4_join_163 : decode cX4_join 163 = .ok (.ireturn, 1) := by decide +kernel
theorem dX4_join_164 : decode cX4_join 164 = .ok (.iinc 10 1, 3) := by decide +kernel
theorem dX4_join_167 : decode cX4_join 167 = .ok (.goto (-74), 3) := by decide +kernel
theorem dX4_join_170 : decode cX4_join 170 = .ok (.aload_n 0, 1) := by decide +kernel
theorem dX4_join_171 : decode cX4_join 171 = .ok (.iload 9, 2) := by decide +kernel
theorem dX4_join_173 : decode cX4_join 173 = .ok (.invokevirtual 62, 3) := by decide +kernel
theorem dX4_join_176 : decode cX4_join 176 = .ok (.ireturn, 1) := by decide +kernel
theorem dX4_sum_0 : decode cX4_sum 0 = .ok (.aload_n 0, 1) := by decide +kernel
theorem dX4_sum_1 : decode cX4_sum 1 = .ok (.iload_n 1, 1) := by decide +kernel
theorem dX4_sum_2 : decode cX4_sum 2 = .ok (.invokevirtual 89, 3) := by decide +kernel
theorem dX4_sum_5 : decode cX4_sum 5 = .ok (.astore_n 2, 1) := by decide +kernel
theorem dX4_sum_6 : decode cX4_sum 6 = .ok (.aload_n 2, 1) := by decide +kernel
theorem dX4_sum_7 : decode cX4_sum 7 = .ok (.ifnonnull 11, 3) := by decide +kernel
theorem dX4_sum_10 : decode cX4_sum 10 = .ok (.aload_n 0, 1) := by decide +kernel
theorem dX4_sum_11 : decode cX4_sum 11 = .ok (.bipush 7, 2) := by decide +kernel
theorem dX4_sum_13 : decode cX4_sum 13 = .ok (.invokevirtual 54, 3) := by decide +kernel
theorem dX4_sum_16 : decode cX4_sum 16 = .ok (.i2l, 1) := by decide +kernel
theorem dX4_sum_17 : decode cX4_sum 17 = .ok (.lreturn, 1) := by decide +kernel
theorem dX4_sum_18 : decode cX4_sum 18 = .ok (.aload_n 0, 1) := by decide +kernel
theorem dX4_sum_19 : decode cX4_sum 19 = .ok (.iconst 0, 1) := by decide +kernel
theorem dX4_sum_20 : decode cX4_sum 20 = .ok (.putfield 44, 3) := by decide +kernel
theorem dX4_sum_23 : decode cX4_sum 23 = .ok (.aload_n 2, 1) := by decide +kernel
theorem dX4_sum_24 : decode cX4_sum 24 = .ok (.getfield 106, 3) := by decide +kernel
theorem dX4_sum_27 : decode cX4_sum 27 = .ok (.iconst 4, 1) := by decide +kernel
theorem dX4_sum_28 : decode cX4_sum 28 = .ok (.if_icmp .eq 15, 3) := by decide +kernel
theorem dX4_sum_31 : decode cX4_sum 31 = .ok (.aload_n 0, 1) := by decide +kernel
theorem dX4_sum_32 : decode cX4_sum 32 = .ok (.getfield 26, 3) := by decide +kernel
theorem dX4_sum_35 : decode cX4_sum 35 = .ok (.aload_n 2, 1) := by decide +kernel
theorem dX4_sum_36 : decode cX4_sum 36 = .ok (.getfield 100, 3) := by decide +kernel
theorem dX4_sum_39 : decode cX4_sum 39 = .ok (.invokevirtual 212, 3) := by decide +kernel
theorem dX4_sum_42 : decode cX4_sum 42 = .ok (.lreturn, 1) := by decide +kernel
theorem dX4_sum_43 : decode cX4_sum 43 = .ok (.lconst 0, 1) := by decide +kernel
theorem dX4_sum_44 : decode cX4_sum 44 = .ok (.lstore_n 3, 1) := by decide +kernel
theorem dX4_sum_45 : decode cX4_sum 45 = .ok (.iconst 0, 1) := by decide +kernel
theorem dX4_sum_46 : decode cX4_sum 46 = .ok (.istore 5, 2) := by decide +kernel
theorem dX4_sum_48 : decode cX4_sum 48 = .ok (.iload 5, 2) := by decide +kernel
theorem dX4_sum_50 : decode cX4_sum 50 = .ok (.aload_n 2, 1) := by decide +kernel
end
section
theorem dX4_sum_51 : decode cX4_sum 51 = .ok (.invokevirtual 130, 3) := by decide +kernel
theorem dX4_sum_54 : decode cX4_sum 54 = .ok (.if_icmp .ge 26, 3) := by decide +kernel
theorem dX4_sum_57 : decode cX4_sum 57 = .ok (.lload_n 3, 1) := by decide +kernel
theorem dX4_sum_58 : decode cX4_sum 58 = .ok (.aload_n 0, 1) := by decide +kernel
theorem dX4_sum_59 : decode cX4_sum 59 = .ok (.getfield 26, 3) := by decide +kernel
theorem dX4_sum_62 : decode cX4_sum 62 = .ok (.aload_n 2, 1) := by decide +kernel
theorem dX4_sum_63 : decode cX4_sum 63 = .ok (.getfield 133, 3) := by decide +kernel
theorem dX4_sum_66 : decode cX4_sum 66 = .ok (.iload 5, 2) := by decide +kernel
theorem dX4_sum_68 : decode cX4_sum 68 = .ok (.iaload, 1) := by decide +kernel
theorem dX4_sum_69 : decode cX4_sum 69 = .ok (.invokevirtual 212, 3) := by decide +kernel
theorem dX4_sum_72 : decode cX4_sum 72 = .ok (.ladd, 1) := by decide +kernel
theorem dX4_sum_73 : decode cX4_sum 73 = .ok (.lstore_n 3, 1) := by decide +kernel
theorem dX4_sum_74 : decode cX4_sum 74 = .ok (.iinc 5 1, 3) := by decide +kernel
theorem dX4_sum_77 : decode cX4_sum 77 = .ok (.goto (-29), 3) := by decide +kernel
theorem dX4_sum_80 : decode cX4_sum 80 = .ok (.lload_n 3, 1) := by decide +kernel
theorem dX4_sum_81 : decode cX4_sum 81 = .ok (.lreturn, 1) := by decide +kernel
theorem dX4_mean_0 : decode cX4_mean 0 = .ok (.aload_n 0, 1) := by decide +kernel
theorem dX4_mean_1 : decode cX4_mean 1 = .ok (.iload_n 1, 1) := by decide +kernel
theorem dX4_mean_2 : decode cX4_mean 2 = .ok (.invokevirtual 89, 3) := by decide +kernel
theorem dX4_mean_5 : decode cX4_mean 5 = .ok (.astore_n 2, 1) := by decide +kernel
theorem dX4_mean_6 : decode cX4_mean 6 = .ok (.aload_n 2, 1) := by decide +kernel
theorem dX4_mean_7 : decode cX4_mean 7 = .ok (.ifnonnull 11, 3) := by decide +kernel
theorem dX4_mean_10 : decode cX4_mean 10 = .ok (.aload_n 0, 1) := by decide +kernel
theorem dX4_mean_11 : decode cX4_mean 11 = .ok (.bipush 7, 2) := by decide +kernel
theorem dX4_mean_13 : decode cX4_mean 13 = .ok (.invokevirtual 54, 3) := by decide +kernel
theorem dX4_mean_16 : decode cX4_mean 16 = .ok (.i2l, 1) := by decide +kernel
theorem dX4_mean_17 : decode cX4_mean 17 = .ok (.lreturn, 1) := by decide +kernel
theorem dX4_mean_18 : decode cX4_mean 18 = .ok (.aload_n 2, 1) := by decide +kernel
theorem dX4_mean_19 : decode cX4_mean 19 = .ok (.getfield 106, 3) := by decide +kernel
theorem dX4_mean_22 : decode cX4_mean 22 = .ok (.iconst 2, 1) := by decide +kernel
theorem dX4_mean_23 : decode cX4_mean 23 = .ok (.if_icmp .le 10, 3) := by decide +kernel
theorem dX4_mean_26 : decode cX4_mean 26 = .ok (.aload_n 0, 1) := by decide +kernel
theorem dX4_mean_27 : decode cX4_mean 27 = .ok (.iconst 2, 1) := by decide +kernel
theorem dX4_mean_28 : decode cX4_mean 28 = .ok (.invokevirtual 54, 3) := by decide +kernel
theorem dX4_mean_31 : decode cX4_mean 31 = .ok (.i2l, 1) := by decide +kernel
theorem dX4_mean_32 : decode cX4_mean 32 = .ok (.lreturn, 1) := by decide +kernel
theorem dX4_mean_33 : decode cX4_mean 33 = .ok (.aload_n 0, 1) := by decide +kernel
theorem dX4_mean_34 : decode cX4_mean 34 = .ok (.getfield 26, 3) := by decide +kernel
theorem dX4_mean_37 : decode cX4_mean 37 = .ok (.aload_n 2, 1) := by decide +kernel
theorem dX4_mean_38 : decode cX4_mean 38 = .ok (.getfield 100, 3) := by decide +kernel
theorem dX4_mean_41 : decode cX4_mean 41 = .ok (.invokevirtual 103, 3) := by decide +kernel
theorem dX4_mean_44 : decode cX4_mean 44 = .ok (.istore_n 3, 1) := by decide +kernel
theorem dX4_mean_45 : decode cX4_mean 45 = .ok (.iload_n 3, 1) := by decide +kernel
theorem dX4_mean_46 : decode cX4_mean 46 = .ok (.ifCond .ne 11, 3) := by decide +kernel
theorem dX4_mean_49 : decode cX4_mean 49 = .ok (.aload_n 0, 1) := by decide +kernel
theorem dX4_mean_50 : decode cX4_mean 50 = .ok (.bipush 6, 2) := by decide +kernel
theorem dX4_mean_52 : decode cX4_mean 52 = .ok (.invokevirtual 54, 3) := by decide +kernel
theorem dX4_mean_55 : decode cX4_mean 55 = .ok (.i2l, 1) := by decide +kernel
theorem dX4_mean_56 : decode cX4_mean 56 = .ok (.lreturn, 1) := by decide +kernel
theorem dX4_mean_57 : decode cX4_mean 57 = .ok (.aload_n 0, 1) := by decide +kernel
theorem dX4_mean_58 : decode cX4_mean 58 = .ok (.iconst 0, 1) := by decide +kernel
theorem dX4_mean_59 : decode cX4_mean 59 = .ok (.putfield 44, 3) := by decide +kernel
theorem dX4_mean_62 : decode cX4_mean 62 = .ok (.aload_n 0, 1) := by decide +kernel
theorem dX4_mean_63 : decode cX4_mean 63 = .ok (.getfield 26, 3) := by decide +kernel
theorem dX4_mean_66 : decode cX4_mean 66 = .ok (.aload_n 2, 1) := by decide +kernel
theorem dX4_mean_67 : decode cX4_mean 67 = .ok (.getfield 100, 3) := by decide +kernel
theorem dX4_mean_70 : decode cX4_mean 70 = .ok (.invokevirtual 212, 3) := by decide +kernel
theorem dX4_mean_73 : decode cX4_mean 73 = .ok (.iload_n 3, 1) := by decide +kernel
theorem dX4_mean_74 : decode cX4_mean 74 = .ok (.i2l, 1) := by decide +kernel
theorem dX4_mean_75 : decode cX4_mean 75 = .ok (.ldiv, 1) := by decide +kernel
theorem dX4_mean_76 : decode cX4_mean 76 = .ok (.lreturn, 1) := by decide +kernel
theorem dX4_about_0 : decode cX4_about 0 = .ok (.iload_n 2, 1) := by decide +kernel
theorem dX4_about_1 : decode cX4_about 1 = .ok (.ifCond .lt 9, 3) := by decide +kernel
theorem dX4_about_4 : decode cX4_about 4 = .ok (.iload_n 2, 1) := by decide +kernel
theorem dX4_about_5 : decode cX4_about 5 = .ok (.bipush 8, 2) := by decide +kernel
theorem dX4_about_7 : decode cX4_about 7 = .ok (.if_icmp .le 6, 3) := by decide +kernel
theorem dX4_about_10 : decode cX4_about 10 = .ok (.ldc 65, 2) := by decide +kernel
theorem dX4_about_12 : decode cX4_about 12 = .ok (.ireturn, 1) := by decide +kernel
theorem dX4_about_13 : decode cX4_about 13 = .ok (.aload_n 0, 1) := by decide +kernel
theorem dX4_about_14 : decode cX4_about 14 = .ok (.iload_n 1, 1) := by decide +kernel
theorem dX4_about_15 : decode cX4_about 15 = .ok (.invokevirtual 89, 3) := by decide +kernel
theorem dX4_about_18 : decode cX4_about 18 = .ok (.astore_n 3, 1) := by decide +kernel
theorem dX4_about_19 : decode cX4_about 19 = .ok (.aload_n 3, 1) := by decide +kernel
theorem dX4_about_20 : decode cX4_about 20 = .ok (.ifnonnull 10, 3) := by decide +kernel
theorem dX4_about_23 : decode cX4_about 23 = .ok (.aload_n 0, 1) := by decide +kernel
theorem dX4_about_24 : decode cX4_about 24 = .ok (.bipush 7, 2) := by decide +kernel
theorem dX4_about_26 : decode cX4_about 26 = .ok (.invokevirtual 54, 3) := by decide +kernel
theorem dX4_about_29 : decode cX4_about 29 = .ok (.ireturn, 1) := by decide +kernel
theorem dX4_about_30 : decode cX4_about 30 = .ok (.iload_n 2, 1) := by decide +kernel
theorem dX4_about_31 : decode cX4_about 31 = .ok (.ifCond .ne 12, 3) := by decide +kernel
theorem dX4_about_34 : decode cX4_about 34 = .ok (.aload_n 0, 1) := by decide +kernel
theorem dX4_about_35 : decode cX4_about 35 = .ok (.aload_n 3, 1) := by decide +kernel
theorem dX4_about_36 : decode cX4_about 36 = .ok (.getfield 106, 3) := by decide +kernel
theorem dX4_about_39 : decode cX4_about 39 = .ok (.invokevirtual 62, 3) := by decide +kernel
theorem dX4_about_42 : decode cX4_about 42 = .ok (.ireturn, 1) := by decide +kernel
theorem dX4_about_43 : decode cX4_about 43 = .ok (.iload_n 2, 1) := by decide +kernel
theorem dX4_about_44 : decode cX4_about 44 = .ok (.iconst 1, 1) := by decide +kernel
theorem dX4_about_45 : decode cX4_about 45 = .ok (.if_icmp .ne 15, 3) := by decide +kernel
theorem dX4_about_48 : decode cX4_about 48 = .ok (.aload_n 0, 1) := by decide +kernel
theorem dX4_about_49 : decode cX4_about 49 = .ok (.aload_n 3, 1) := by decide +kernel
theorem dX4_about_50 : decode cX4_about 50 = .ok (.getfield 88, 3) := by decide +kernel
theorem dX4_about_53 : decode cX4_about 53 = .ok (.getfield 51, 3) := by decide +kernel
theorem dX4_about_56 : decode cX4_about 56 = .ok (.invokevirtual 62, 3) := by decide +kernel
theorem dX4_about_59 : decode cX4_about 59 = .ok (.ireturn, 1) := by decide +kernel
theorem dX4_about_60 : decode cX4_about 60 = .ok (.iload_n 2, 1) := by decide +kernel
theorem dX4_about_61 : decode cX4_about 61 = .ok (.iconst 2, 1) := by decide +kernel
theorem dX4_about_62 : decode cX4_about 62 = .ok (.if_icmp .ne 13, 3) := by decide +kernel
theorem dX4_about_65 : decode cX4_about 65 = .ok (.aload_n 0, 1) := by decide +kernel
theorem dX4_about_66 : decode cX4_about 66 = .ok (.aload_n 0, 1) := by decide +kernel
theorem dX4_about_67 : decode cX4_about 67 = .ok (.aload_n 3, 1) := by decide +kernel
theorem dX4_about_68 : decode cX4_about 68 = .ok (.invokevirtual 216, 3) := by decide +kernel
theorem dX4_about_71 : decode cX4_about 71 = .ok (.invokevirtual 62, 3) := by decide +kernel
theorem dX4_about_74 : decode cX4_about 74 = .ok (.ireturn, 1) := by decide +kernel
theorem dX4_about_75 : decode cX4_about 75 = .ok (.iload_n 2, 1) := by decide +kernel
theorem dX4_about_76 : decode cX4_about 76 = .ok (.iconst 3, 1) := by decide +kernel
theorem dX4_about_77 : decode cX4_about 77 = .ok (.isub, 1) := by decide +kernel
theorem dX4_about_78 : decode cX4_about 78 = .ok (.iconst 2, 1) := by decide +kernel
theorem dX4_about_79 : decode cX4_about 79 = .ok (.idiv, 1) := by decide +kernel
theorem dX4_about_80 : decode cX4_about 80 = .ok (.istore 4, 2) := by decide +kernel
theorem dX4_about_82 : decode cX4_about 82 = .ok (.iload 4, 2) := by decide +kernel
theorem dX4_about_84 : decode cX4_about 84 = .ok (.aload_n 3, 1) := by decide +kernel
theorem dX4_about_85 : decode cX4_about 85 = .ok (.getfield 88, 3) := by decide +kernel
theorem dX4_about_88 : decode cX4_about 88 = .ok (.getfield 51, 3) := by decide +kernel
theorem dX4_about_91 : decode cX4_about 91 = .ok (.if_icmp .lt 10, 3) := by decide +kernel
theorem dX4_about_94 : decode cX4_about 94 = .ok (.aload_n 0, 1) := by decide +kernel
theorem dX4_about_95 : decode cX4_about 95 = .ok (.bipush 9, 2) := by decide +kernel
theorem dX4_about_97 : decode cX4_about 97 = .ok (.invokevirtual 54, 3) := by decide +kernel
theorem dX4_about_100 : decode cX4_about 100 = .ok (.ireturn, 1) := by decide +kernel
theorem dX4_about_101 : decode cX4_about 101 = .ok (.iload_n 2, 1) := by decide +kernel
theorem dX4_about_102 : decode cX4_about 102 = .ok (.iconst 3, 1) := by decide +kernel
theorem dX4_about_103 : decode cX4_about 103 = .ok (.isub, 1) := by decide +kernel
theorem dX4_about_104 : decode cX4_about 104 = .ok (.iconst 2, 1) := by decide +kernel
theorem dX4_about_105 : decode cX4_about 105 = .ok (.irem, 1) := by decide +kernel
theorem dX4_about_106 : decode cX4_about 106 = .ok (.ifCond .ne 7, 3) := by decide +kernel
theorem dX4_about_109 : decode cX4_about 109 = .ok (.iconst 1, 1) := by decide +kernel
theorem dX4_about_110 : decode cX4_about 110 = .ok (.goto 4, 3) := by decide +kernel
theorem dX4_about_113 : decode cX4_about 113 = .ok (.iconst 0, 1) := by decide +kernel
theorem dX4_about_114 : decode cX4_about 114 = .ok (.istore 5, 2) := by decide +kernel
theorem dX4_about_116 : decode cX4_about 116 = .ok (.aload_n 0, 1) := by decide +kernel
theorem dX4_about_117 : decode cX4_about 117 = .ok (.iload 5, 2) := by decide +kernel
theorem dX4_about_119 : decode cX4_about 119 = .ok (.ifCond .eq 16, 3) := by decide +kernel
theorem dX4_about_122 : decode cX4_about 122 = .ok (.aload_n 3, 1) := by decide +kernel
theorem dX4_about_123 : decode cX4_about 123 = .ok (.getfield 88, 3) := by decide +kernel
theorem dX4_about_126 : decode cX4_about 126 = .ok (.getfield 219, 3) := by decide +kernel
theorem dX4_about_129 : decode cX4_about 129 = .ok (.iload 4, 2) := by decide +kernel
theorem dX4_about_131 : decode cX4_about 131 = .ok (.iaload, 1) := by decide +kernel
theorem dX4_about_132 : decode cX4_about 132 = .ok (.goto 13, 3) := by decide +kernel
theorem dX4_about_135 : decode cX4_about 135 = .ok (.aload_n 3, 1) := by decide +kernel
theorem dX4_about_136 : decode cX4_about 136 = .ok (.getfield 88, 3) := by decide +kernel
theorem dX4_about_139 : decode cX4_about 139 = .ok (.getfield 222, 3) := by decide +kernel
theorem dX4_about_142 : decode cX4_about 142 = .ok (.iload 4, 2) := by decide +kernel
theorem dX4_about_144 : decode cX4_about 144 = .ok (.iaload, 1) := by decide +kernel
theorem dX4_about_145 : decode cX4_about 145 = .ok (.invokevirtual 62, 3) := by decide +kernel
theorem dX4_about_148 : decode cX4_about 148 = .ok (.ireturn, 1) := by decide +kernel
theorem dX4_same_0 : decode cX4_same 0 = .ok (.aload_n 0, 1) := by decide +kernel
theorem dX4_same_1 : decode cX4_same 1 = .ok (.iload_n 1, 1) := by decide +kernel
theorem dX4_same_2 : decode cX4_same 2 = .ok (.invokevirtual 89, 3) := by decide +kernel
theorem dX4_same_5 : decode cX4_same 5 = .ok (.astore_n 3, 1) := by decide +kernel
theorem dX4_same_6 : decode cX4_same 6 = .ok (.aload_n 0, 1) := by decide +kernel
theorem dX4_same_7 : decode cX4_same 7 = .ok (.iload_n 2, 1) := by decide +kernel
theorem dX4_same_8 : decode cX4_same 8 = .ok (.invokevirtual 89, 3) := by decide +kernel
theorem dX4_same_11 : decode cX4_same 11 = .ok (.astore 4, 2) := by decide +kernel
theorem dX4_same_13 : decode cX4_same 13 = .ok (.aload_n 3, 1) := by decide +kernel
theorem dX4_same_14 : decode cX4_same 14 = .ok (.ifnull 8, 3) := by decide +kernel
theorem dX4_same_17 : decode cX4_same 17 = .ok (.aload 4, 2) := by decide +kernel
theorem dX4_same_19 : decode cX4_same 19 = .ok (.ifnonnull 10, 3) := by decide +kernel
theorem dX4_same_22 : decode cX4_same 22 = .ok (.aload_n 0, 1) := by decide +kernel
theorem dX4_same_23 : decode cX4_same 23 = .ok (.bipush 7, 2) := by decide +kernel
theorem dX4_same_25 : decode cX4_same 25 = .ok (.invokevirtual 54, 3) := by decide +kernel
theorem dX4_same_28 : decode cX4_same 28 = .ok (.ireturn, 1) := by decide +kernel
theorem dX4_same_29 : decode cX4_same 29 = .ok (.aload_n 0, 1) := by decide +kernel
theorem dX4_same_30 : decode cX4_same 30 = .ok (.aload_n 3, 1) := by decide +kernel
theorem dX4_same_31 : decode cX4_same 31 = .ok (.aload 4, 2) := by decide +kernel
theorem dX4_same_33 : decode cX4_same 33 = .ok (.invokestatic 225, 3) := by decide +kernel
theorem dX4_same_36 : decode cX4_same 36 = .ok (.ifCond .eq 7, 3) := by decide +kernel
theorem dX4_same_39 : decode cX4_same 39 = .ok (.iconst 1, 1) := by decide +kernel
theorem dX4_same_40 : decode cX4_same 40 = .ok (.goto 4, 3) := by decide +kernel
theorem dX4_same_43 : decode cX4_same 43 = .ok (.iconst 0, 1) := by decide +kernel
theorem dX4_same_44 : decode cX4_same 44 = .ok (.invokevirtual 62, 3) := by decide +kernel
theorem dX4_same_47 : decode cX4_same 47 = .ok (.ireturn, 1) := by decide +kernel
theorem dX4_compare_0 : decode cX4_compare 0 = .ok (.aload_n 0, 1) := by decide +kernel
theorem dX4_compare_1 : decode cX4_compare 1 = .ok (.iload_n 1, 1) := by decide +kernel
theorem dX4_compare_2 : decode cX4_compare 2 = .ok (.invokevirtual 89, 3) := by decide +kernel
theorem dX4_compare_5 : decode cX4_compare 5 = .ok (.astore_n 3, 1) := by decide +kernel
theorem dX4_compare_6 : decode cX4_compare 6 = .ok (.aload_n 0, 1) := by decide +kernel
theorem dX4_compare_7 : decode cX4_compare 7 = .ok (.iload_n 2, 1) := by decide +kernel
theorem dX4_compare_8 : decode cX4_compare 8 = .ok (.invokevirtual 89, 3) := by decide +kernel
theorem dX4_compare_11 : decode cX4_compare 11 = .ok (.astore 4, 2) := by decide +kernel
theorem dX4_compare_13 : decode cX4_compare 13 = .ok (.aload_n 3, 1) := by decide +kernel
theorem dX4_compare_14 : decode cX4_compare 14 = .ok (.ifnull 8, 3) := by decide +kernel
theorem dX4_compare_17 : decode cX4_compare 17 = .ok (.aload 4, 2) := by decide +kernel
theorem dX4_compare_19 : decode cX4_compare 19 = .ok (.ifnonnull 10, 3) := by decide +kernel
theorem dX4_compare_22 : decode cX4_compare 22 = .ok (.aload_n 0, 1) := by decide +kernel
theorem dX4_compare_23 : decode cX4_compare 23 = .ok (.bipush 7, 2) := by decide +kernel
theorem dX4_compare_25 : decode cX4_compare 25 = .ok (.invokevirtual 54, 3) := by decide +kernel
theorem dX4_compare_28 : decode cX4_compare 28 = .ok (.ireturn, 1) := by decide +kernel
theorem dX4_compare_29 : decode cX4_compare 29 = .ok (.aload_n 3, 1) := by decide +kernel
theorem dX4_compare_30 : decode cX4_compare 30 = .ok (.getfield 106, 3) := by decide +kernel
theorem dX4_compare_33 : decode cX4_compare 33 = .ok (.aload 4, 2) := by decide +kernel
theorem dX4_compare_35 : decode cX4_compare 35 = .ok (.getfield 106, 3) := by decide +kernel
theorem dX4_compare_38 : decode cX4_compare 38 = .ok (.if_icmp .ne 11, 3) := by decide +kernel
theorem dX4_compare_41 : decode cX4_compare 41 = .ok (.aload_n 3, 1) := by decide +kernel
theorem dX4_compare_42 : decode cX4_compare 42 = .ok (.getfield 106, 3) := by decide +kernel
theorem dX4_compare_45 : decode cX4_compare 45 = .ok (.iconst 2, 1) := by decide +kernel
theorem dX4_compare_46 : decode cX4_compare 46 = .ok (.if_icmp .le 9, 3) := by decide +kernel
theorem dX4_compare_49 : decode cX4_compare 49 = .ok (.aload_n 0, 1) := by decide +kernel
theorem dX4_compare_50 : decode cX4_compare 50 = .ok (.iconst 2, 1) := by decide +kernel
theorem dX4_compare_51 : decode cX4_compare 51 = .ok (.invokevirtual 54, 3) := by decide +kernel
theorem dX4_compare_54 : decode cX4_compare 54 = .ok (.ireturn, 1) := by decide +kernel
theorem dX4_compare_55 : decode cX4_compare 55 = .ok (.aload_n 0, 1) := by decide +kernel
theorem dX4_compare_56 : decode cX4_compare 56 = .ok (.aload_n 0, 1) := by decide +kernel
theorem dX4_compare_57 : decode cX4_compare 57 = .ok (.getfield 26, 3) := by decide +kernel
theorem dX4_compare_60 : decode cX4_compare 60 = .ok (.aload_n 3, 1) := by decide +kernel
theorem dX4_compare_61 : decode cX4_compare 61 = .ok (.getfield 100, 3) := by decide +kernel
theorem dX4_compare_64 : decode cX4_compare 64 = .ok (.aload 4, 2) := by decide +kernel
theorem dX4_compare_66 : decode cX4_compare 66 = .ok (.getfield 100, 3) := by decide +kernel
theorem dX4_compare_69 : decode cX4_compare 69 = .ok (.invokevirtual 229, 3) := by decide +kernel
theorem dX4_compare_72 : decode cX4_compare 72 = .ok (.invokevirtual 62, 3) := by decide +kernel
theorem dX4_compare_75 : decode cX4_compare 75 = .ok (.ireturn, 1) := by decide +kernel
theorem dX4_clear_0 : decode cX4_clear 0 = .ok (.aload_n 0, 1) := by decide +kernel
theorem dX4_clear_1 : decode cX4_clear 1 = .ok (.getfield 40, 3) := by decide +kernel
theorem dX4_clear_4 : decode cX4_clear 4 = .ok (.istore_n 1, 1) := by decide +kernel
theorem dX4_clear_5 : decode cX4_clear 5 = .ok (.aload_n 0, 1) := by decide +kernel
theorem dX4_clear_6 : decode cX4_clear 6 = .ok (.iconst 0, 1) := by decide +kernel
theorem dX4_clear_7 : decode cX4_clear 7 = .ok (.putfield 40, 3) := by decide +kernel
theorem dX4_clear_10 : decode cX4_clear 10 = .ok (.aload_n 0, 1) := by decide +kernel
theorem dX4_clear_11 : decode cX4_clear 11 = .ok (.getfield 12, 3) := by decide +kernel
theorem dX4_clear_14 : decode cX4_clear 14 = .ok (.iconst 0, 1) := by decide +kernel
theorem dX4_clear_15 : decode cX4_clear 15 = .ok (.putfield 51, 3) := by decide +kernel
theorem dX4_clear_18 : decode cX4_clear 18 = .ok (.aload_n 0, 1) := by decide +kernel
theorem dX4_clear_19 : decode cX4_clear 19 = .ok (.getfield 19, 3) := by decide +kernel
theorem dX4_clear_22 : decode cX4_clear 22 = .ok (.iconst 0, 1) := by decide +kernel
theorem dX4_clear_23 : decode cX4_clear 23 = .ok (.putfield 185, 3) := by decide +kernel
theorem dX4_clear_26 : decode cX4_clear 26 = .ok (.aload_n 0, 1) := by decide +kernel
theorem dX4_clear_27 : decode cX4_clear 27 = .ok (.getfield 26, 3) := by decide +kernel
theorem dX4_clear_30 : decode cX4_clear 30 = .ok (.invokevirtual 232, 3) := by decide +kernel
theorem dX4_clear_33 : decode cX4_clear 33 = .ok (.aload_n 0, 1) := by decide +kernel
theorem dX4_clear_34 : decode cX4_clear 34 = .ok (.iconst 0, 1) := by decide +kernel
theorem dX4_clear_35 : decode cX4_clear 35 = .ok (.putfield 44, 3) := by decide +kernel
theorem dX4_clear_38 : decode cX4_clear 38 = .ok (.aload_n 0, 1) := by decide +kernel
theorem dX4_clear_39 : decode cX4_clear 39 = .ok (.iconst (-1), 1) := by decide +kernel
theorem dX4_clear_40 : decode cX4_clear 40 = .ok (.putfield 47, 3) := by decide +kernel
theorem dX4_clear_43 : decode cX4_clear 43 = .ok (.iload_n 1, 1) := by decide +kernel
theorem dX4_clear_44 : decode cX4_clear 44 = .ok (.ireturn, 1) := by decide +kernel
theorem dX4_tell_0 : decode cX4_tell 0 = .ok (.aload_n 0, 1) := by decide +kernel
theorem dX4_tell_1 : decode cX4_tell 1 = .ok (.iload_n 1, 1) := by decide +kernel
theorem dX4_tell_2 : decode cX4_tell 2 = .ok (.putfield 44, 3) := by decide +kernel
theorem dX4_tell_5 : decode cX4_tell 5 = .ok (.iload_n 2, 1) := by decide +kernel
theorem dX4_tell_6 : decode cX4_tell 6 = .ok (.ireturn, 1) := by decide +kernel
theorem dX4_done_0 : decode cX4_done 0 = .ok (.aload_n 0, 1) := by decide +kernel
theorem dX4_done_1 : decode cX4_done 1 = .ok (.iconst 0, 1) := by decide +kernel
theorem dX4_done_2 : decode cX4_done 2 = .ok (.iload_n 1, 1) := by decide +kernel
theorem dX4_done_3 : decode cX4_done 3 = .ok (.invokevirtual 205, 3) := by decide +kernel
theorem dX4_done_6 : decode cX4_done 6 = .ok (.ireturn, 1) := by decide +kernel
theorem dX4_stop_0 : decode cX4_stop 0 = .ok (.aload_n 0, 1) := by decide +kernel
theorem dX4_stop_1 : decode cX4_stop 1 = .ok (.iload_n 1, 1) := by decide +kernel
theorem dX4_stop_2 : decode cX4_stop 2 = .ok (.iconst 0, 1) := by decide +kernel
theorem dX4_stop_3 : decode cX4_stop 3 = .ok (.invokevirtual 205, 3) := by decide +kernel
theorem dX4_stop_6 : decode cX4_stop 6 = .ok (.ireturn, 1) := by decide +kernel
theorem dX4_stopBeyond_0 : decode cX4_stopBeyond 0 = .ok (.aload_n 0, 1) := by decide +kernel
theorem dX4_stopBeyond_1 : decode cX4_stopBeyond 1 = .ok (.iload_n 1, 1) := by decide +kernel
theorem dX4_stopBeyond_2 : decode cX4_stopBeyond 2 = .ok (.putfield 47, 3) := by decide +kernel
theorem dX4_stopBeyond_5 : decode cX4_stopBeyond 5 = .ok (.aload_n 0, 1) := by decide +kernel
theorem dX4_stopBeyond_6 : decode cX4_stopBeyond 6 = .ok (.iconst 3, 1) := by decide +kernel
theorem dX4_stopBeyond_7 : decode cX4_stopBeyond 7 = .ok (.invokevirtual 54, 3) := by decide +kernel
theorem dX4_stopBeyond_10 : decode cX4_stopBeyond 10 = .ok (.ireturn, 1) := by decide +kernel
theorem dX4_arrayOf_0 : decode cX4_arrayOf 0 = .ok (.iload_n 1, 1) := by decide +kernel
theorem dX4_arrayOf_1 : decode cX4_arrayOf 1 = .ok (.ifCond .lt 20, 3) := by decide +kernel
theorem dX4_arrayOf_4 : decode cX4_arrayOf 4 = .ok (.iload_n 1, 1) := by decide +kernel
theorem dX4_arrayOf_5 : decode cX4_arrayOf 5 = .ok (.aload_n 0, 1) := by decide +kernel
theorem dX4_arrayOf_6 : decode cX4_arrayOf 6 = .ok (.getfield 40, 3) := by decide +kernel
theorem dX4_arrayOf_9 : decode cX4_arrayOf 9 = .ok (.if_icmp .ge 12, 3) := by decide +kernel
theorem dX4_arrayOf_12 : decode cX4_arrayOf 12 = .ok (.aload_n 0, 1) := by decide +kernel
theorem dX4_arrayOf_13 : decode cX4_arrayOf 13 = .ok (.getfield 32, 3) := by decide +kernel
theorem dX4_arrayOf_16 : decode cX4_arrayOf 16 = .ok (.iload_n 1, 1) := by decide +kernel
theorem dX4_arrayOf_17 : decode cX4_arrayOf 17 = .ok (.aaload, 1) := by decide +kernel
theorem dX4_arrayOf_18 : decode cX4_arrayOf 18 = .ok (.goto 4, 3) := by decide +kernel
theorem dX4_arrayOf_21 : decode cX4_arrayOf 21 = .ok (.aconst_null, 1) := by decide +kernel
theorem dX4_arrayOf_22 : decode cX4_arrayOf 22 = .ok (.areturn, 1) := by decide +kernel
theorem dX4_hasRoom_0 : decode cX4_hasRoom 0 = .ok (.aload_n 0, 1) := by decide +kernel
theorem dX4_hasRoom_1 : decode cX4_hasRoom 1 = .ok (.getfield 40, 3) := by decide +kernel
theorem dX4_hasRoom_4 : decode cX4_hasRoom 4 = .ok (.bipush 24, 2) := by decide +kernel
theorem dX4_hasRoom_6 : decode cX4_hasRoom 6 = .ok (.if_icmp .ge 19, 3) := by decide +kernel
theorem dX4_hasRoom_9 : decode cX4_hasRoom 9 = .ok (.aload_n 0, 1) := by decide +kernel
theorem dX4_hasRoom_10 : decode cX4_hasRoom 10 = .ok (.getfield 26, 3) := by decide +kernel
theorem dX4_hasRoom_13 : decode cX4_hasRoom 13 = .ok (.iload_n 1, 1) := by decide +kernel
theorem dX4_hasRoom_14 : decode cX4_hasRoom 14 = .ok (.iload_n 2, 1) := by decide +kernel
theorem dX4_hasRoom_15 : decode cX4_hasRoom 15 = .ok (.invokevirtual 147, 3) := by decide +kernel
theorem dX4_hasRoom_18 : decode cX4_hasRoom 18 = .ok (.ifCond .eq 7, 3) := by decide +kernel
theorem dX4_hasRoom_21 : decode cX4_hasRoom 21 = .ok (.iconst 1, 1) := by decide +kernel
theorem dX4_hasRoom_22 : decode cX4_hasRoom 22 = .ok (.goto 4, 3) := by decide +kernel
theorem dX4_hasRoom_25 : decode cX4_hasRoom 25 = .ok (.iconst 0, 1) := by decide +kernel
theorem dX4_hasRoom_26 : decode cX4_hasRoom 26 = .ok (.ireturn, 1) := by decide +kernel
theorem dX4_whyNotMade_0 : decode cX4_whyNotMade 0 = .ok (.aload_n 0, 1) := by decide +kernel
theorem dX4_whyNotMade_1 : decode cX4_whyNotMade 1 = .ok (.getfield 12, 3) := by decide +kernel
theorem dX4_whyNotMade_4 : decode cX4_whyNotMade 4 = .ok (.getfield 51, 3) := by decide +kernel
theorem dX4_whyNotMade_7 : decode cX4_whyNotMade 7 = .ok (.ifCond .eq 19, 3) := by decide +kernel
theorem dX4_whyNotMade_10 : decode cX4_whyNotMade 10 = .ok (.iload_n 1, 1) := by decide +kernel
theorem dX4_whyNotMade_11 : decode cX4_whyNotMade 11 = .ok (.iconst 4, 1) := by decide +kernel
theorem dX4_whyNotMade_12 : decode cX4_whyNotMade 12 = .ok (.if_icmp .ne 17, 3) := by decide +kernel
theorem dX4_whyNotMade_15 : decode cX4_whyNotMade 15 = .ok (.aload_n 0, 1) := by decide +kernel
theorem dX4_whyNotMade_16 : decode cX4_whyNotMade 16 = .ok (.getfield 12, 3) := by decide +kernel
theorem dX4_whyNotMade_19 : decode cX4_whyNotMade 19 = .ok (.getfield 51, 3) := by decide +kernel
theorem dX4_whyNotMade_22 : decode cX4_whyNotMade 22 = .ok (.iconst 2, 1) := by decide +kernel
theorem dX4_whyNotMade_23 : decode cX4_whyNotMade 23 = .ok (.if_icmp .eq 6, 3) := by decide +kernel
theorem dX4_whyNotMade_26 : decode cX4_whyNotMade 26 = .ok (.bipush 9, 2) := by decide +kernel
theorem dX4_whyNotMade_28 : decode cX4_whyNotMade 28 = .ok (.ireturn, 1) := by decide +kernel
theorem dX4_whyNotMade_29 : decode cX4_whyNotMade 29 = .ok (.aload_n 0, 1) := by decide +kernel
theorem dX4_whyNotMade_30 : decode cX4_whyNotMade 30 = .ok (.getfield 12, 3) := by decide +kernel
theorem dX4_whyNotMade_33 : decode cX4_whyNotMade 33 = .ok (.invokevirtual 96, 3) := by decide +kernel
theorem dX4_whyNotMade_36 : decode cX4_whyNotMade 36 = .ok (.istore_n 2, 1) := by decide +kernel
theorem dX4_whyNotMade_37 : decode cX4_whyNotMade 37 = .ok (.iload_n 2, 1) := by decide +kernel
theorem dX4_whyNotMade_38 : decode cX4_whyNotMade 38 = .ok (.sipush 500, 3) := by decide +kernel
theorem dX4_whyNotMade_41 : decode cX4_whyNotMade 41 = .ok (.if_icmp .gt 23, 3) := by decide +kernel
theorem dX4_whyNotMade_44 : decode cX4_whyNotMade 44 = .ok (.iload_n 1, 1) := by decide +kernel
theorem dX4_whyNotMade_45 : decode cX4_whyNotMade 45 = .ok (.iconst 4, 1) := by decide +kernel
theorem dX4_whyNotMade_46 : decode cX4_whyNotMade 46 = .ok (.if_icmp .ne 20, 3) := by decide +kernel
theorem dX4_whyNotMade_49 : decode cX4_whyNotMade 49 = .ok (.aload_n 0, 1) := by decide +kernel
theorem dX4_whyNotMade_50 : decode cX4_whyNotMade 50 = .ok (.getfield 12, 3) := by decide +kernel
theorem dX4_whyNotMade_53 : decode cX4_whyNotMade 53 = .ok (.iconst 0, 1) := by decide +kernel
theorem dX4_whyNotMade_54 : decode cX4_whyNotMade 54 = .ok (.invokevirtual 235, 3) := by decide +kernel
theorem dX4_whyNotMade_57 : decode cX4_whyNotMade 57 = .ok (.ldc2_w 238, 3) := by decide +kernel
theorem dX4_whyNotMade_60 : decode cX4_whyNotMade 60 = .ok (.lcmp, 1) := by decide +kernel
theorem dX4_whyNotMade_61 : decode cX4_whyNotMade 61 = .ok (.ifCond .le 5, 3) := by decide +kernel
theorem dX4_whyNotMade_64 : decode cX4_whyNotMade 64 = .ok (.iconst 5, 1) := by decide +kernel
theorem dX4_whyNotMade_65 : decode cX4_whyNotMade 65 = .ok (.ireturn, 1) := by decide +kernel
theorem dX4_whyNotMade_66 : decode cX4_whyNotMade 66 = .ok (.iload_n 1, 1) := by decide +kernel
theorem dX4_whyNotMade_67 : decode cX4_whyNotMade 67 = .ok (.iconst 4, 1) := by decide +kernel
theorem dX4_whyNotMade_68 : decode cX4_whyNotMade 68 = .ok (.if_icmp .ne 15, 3) := by decide +kernel
theorem dX4_whyNotMade_71 : decode cX4_whyNotMade 71 = .ok (.aload_n 0, 1) := by decide +kernel
theorem dX4_whyNotMade_72 : decode cX4_whyNotMade 72 = .ok (.getfield 12, 3) := by decide +kernel
theorem dX4_whyNotMade_75 : decode cX4_whyNotMade 75 = .ok (.iconst 0, 1) := by decide +kernel
theorem dX4_whyNotMade_76 : decode cX4_whyNotMade 76 = .ok (.invokevirtual 235, 3) := by decide +kernel
theorem dX4_whyNotMade_79 : decode cX4_whyNotMade 79 = .ok (.l2i, 1) := by decide +kernel
theorem dX4_whyNotMade_80 : decode cX4_whyNotMade 80 = .ok (.goto 4, 3) := by decide +kernel
theorem dX4_whyNotMade_83 : decode cX4_whyNotMade 83 = .ok (.iconst 1, 1) := by decide +kernel
theorem dX4_whyNotMade_84 : decode cX4_whyNotMade 84 = .ok (.istore_n 3, 1) := by decide +kernel
theorem dX4_whyNotMade_85 : decode cX4_whyNotMade 85 = .ok (.aload_n 0, 1) := by decide +kernel
theorem dX4_whyNotMade_86 : decode cX4_whyNotMade 86 = .ok (.iload_n 3, 1) := by decide +kernel
theorem dX4_whyNotMade_87 : decode cX4_whyNotMade 87 = .ok (.iload_n 2, 1) := by decide +kernel
theorem dX4_whyNotMade_88 : decode cX4_whyNotMade 88 = .ok (.invokevirtual 80, 3) := by decide +kernel
theorem dX4_whyNotMade_91 : decode cX4_whyNotMade 91 = .ok (.ifCond .eq 7, 3) := by decide +kernel
theorem dX4_whyNotMade_94 : decode cX4_whyNotMade 94 = .ok (.iconst 0, 1) := by decide +kernel
theorem dX4_whyNotMade_95 : decode cX4_whyNotMade 95 = .ok (.goto 5, 3) := by decide +kernel
theorem dX4_whyNotMade_98 : decode cX4_whyNotMade 98 = .ok (.bipush 8, 2) := by decide +kernel
theorem dX4_whyNotMade_100 : decode cX4_whyNotMade 100 = .ok (.ireturn, 1) := by decide +kernel
theorem dX4_whyNoRow_0 : decode cX4_whyNoRow 0 = .ok (.aload_n 1, 1) := by decide +kernel
theorem dX4_whyNoRow_1 : decode cX4_whyNoRow 1 = .ok (.ifnonnull 6, 3) := by decide +kernel
theorem dX4_whyNoRow_4 : decode cX4_whyNoRow 4 = .ok (.bipush 7, 2) := by decide +kernel
theorem dX4_whyNoRow_6 : decode cX4_whyNoRow 6 = .ok (.ireturn, 1) := by decide +kernel
theorem dX4_whyNoRow_7 : decode cX4_whyNoRow 7 = .ok (.aload_n 1, 1) := by decide +kernel
theorem dX4_whyNoRow_8 : decode cX4_whyNoRow 8 = .ok (.getfield 106, 3) := by decide +kernel
theorem dX4_whyNoRow_11 : decode cX4_whyNoRow 11 = .ok (.iconst 4, 1) := by decide +kernel
theorem dX4_whyNoRow_12 : decode cX4_whyNoRow 12 = .ok (.if_icmp .ne 7, 3) := by decide +kernel
theorem dX4_whyNoRow_15 : decode cX4_whyNoRow 15 = .ok (.iconst 2, 1) := by decide +kernel
theorem dX4_whyNoRow_16 : decode cX4_whyNoRow 16 = .ok (.goto 4, 3) := by decide +kernel
theorem dX4_whyNoRow_19 : decode cX4_whyNoRow 19 = .ok (.iconst 0, 1) := by decide +kernel
theorem dX4_whyNoRow_20 : decode cX4_whyNoRow 20 = .ok (.ireturn, 1) := by decide +kernel
theorem dX4_whyNotDeep_0 : decode cX4_whyNotDeep 0 = .ok (.aload_n 1, 1) := by decide +kernel
theorem dX4_whyNotDeep_1 : decode cX4_whyNotDeep 1 = .ok (.ifnonnull 6, 3) := by decide +kernel
theorem dX4_whyNotDeep_4 : decode cX4_whyNotDeep 4 = .ok (.bipush 7, 2) := by decide +kernel
theorem dX4_whyNotDeep_6 : decode cX4_whyNotDeep 6 = .ok (.ireturn, 1) := by decide +kernel
theorem dX4_whyNotDeep_7 : decode cX4_whyNotDeep 7 = .ok (.aload_n 1, 1) := by decide +kernel
theorem dX4_whyNotDeep_8 : decode cX4_whyNotDeep 8 = .ok (.getfield 106, 3) := by decide +kernel
theorem dX4_whyNotDeep_11 : decode cX4_whyNotDeep 11 = .ok (.iconst 1, 1) := by decide +kernel
theorem dX4_whyNotDeep_12 : decode cX4_whyNotDeep 12 = .ok (.if_icmp .eq 5, 3) := by decide +kernel
theorem dX4_whyNotDeep_15 : decode cX4_whyNotDeep 15 = .ok (.iconst 2, 1) := by decide +kernel
theorem dX4_whyNotDeep_16 : decode cX4_whyNotDeep 16 = .ok (.ireturn, 1) := by decide +kernel
theorem dX4_whyNotDeep_17 : decode cX4_whyNotDeep 17 = .ok (.aload_n 1, 1) := by decide +kernel
theorem dX4_whyNotDeep_18 : decode cX4_whyNotDeep 18 = .ok (.getfield 88, 3) := by decide +kernel
theorem dX4_whyNotDeep_21 : decode cX4_whyNotDeep 21 = .ok (.getfield 51, 3) := by decide +kernel
theorem dX4_whyNotDeep_24 : decode cX4_whyNotDeep 24 = .ok (.iconst 2, 1) := by decide +kernel
theorem dX4_whyNotDeep_25 : decode cX4_whyNotDeep 25 = .ok (.if_icmp .eq 6, 3) := by decide +kernel
theorem dX4_whyNotDeep_28 : decode cX4_whyNotDeep 28 = .ok (.bipush 9, 2) := by decide +kernel
theorem dX4_whyNotDeep_30 : decode cX4_whyNotDeep 30 = .ok (.ireturn, 1) := by decide +kernel
theorem dX4_whyNotDeep_31 : decode cX4_whyNotDeep 31 = .ok (.aload_n 1, 1) := by decide +kernel
theorem dX4_whyNotDeep_32 : decode cX4_whyNotDeep 32 = .ok (.getfield 88, 3) := by decide +kernel
theorem dX4_whyNotDeep_35 : decode cX4_whyNotDeep 35 = .ok (.iconst 0, 1) := by decide +kernel
theorem dX4_whyNotDeep_36 : decode cX4_whyNotDeep 36 = .ok (.invokevirtual 235, 3) := by decide +kernel
theorem dX4_whyNotDeep_39 : decode cX4_whyNotDeep 39 = .ok (.ldc2_w 238, 3) := by decide +kernel
theorem dX4_whyNotDeep_42 : decode cX4_whyNotDeep 42 = .ok (.lcmp, 1) := by decide +kernel
theorem dX4_whyNotDeep_43 : decode cX4_whyNotDeep 43 = .ok (.ifCond .le 5, 3) := by decide +kernel
theorem dX4_whyNotDeep_46 : decode cX4_whyNotDeep 46 = .ok (.iconst 5, 1) := by decide +kernel
theorem dX4_whyNotDeep_47 : decode cX4_whyNotDeep 47 = .ok (.ireturn, 1) := by decide +kernel
theorem dX4_whyNotDeep_48 : decode cX4_whyNotDeep 48 = .ok (.aload_n 1, 1) := by decide +kernel
theorem dX4_whyNotDeep_49 : decode cX4_whyNotDeep 49 = .ok (.getfield 88, 3) := by decide +kernel
theorem dX4_whyNotDeep_52 : decode cX4_whyNotDeep 52 = .ok (.iconst 0, 1) := by decide +kernel
theorem dX4_whyNotDeep_53 : decode cX4_whyNotDeep 53 = .ok (.invokevirtual 235, 3) := by decide +kernel
theorem dX4_whyNotDeep_56 : decode cX4_whyNotDeep 56 = .ok (.l2i, 1) := by decide +kernel
theorem dX4_whyNotDeep_57 : decode cX4_whyNotDeep 57 = .ok (.istore_n 2, 1) := by decide +kernel
theorem dX4_whyNotDeep_58 : decode cX4_whyNotDeep 58 = .ok (.aload_n 0, 1) := by decide +kernel
theorem dX4_whyNotDeep_59 : decode cX4_whyNotDeep 59 = .ok (.iload_n 2, 1) := by decide +kernel
theorem dX4_whyNotDeep_60 : decode cX4_whyNotDeep 60 = .ok (.aload_n 0, 1) := by decide +kernel
theorem dX4_whyNotDeep_61 : decode cX4_whyNotDeep 61 = .ok (.getfield 26, 3) := by decide +kernel
theorem dX4_whyNotDeep_64 : decode cX4_whyNotDeep 64 = .ok (.aload_n 1, 1) := by decide +kernel
theorem dX4_whyNotDeep_65 : decode cX4_whyNotDeep 65 = .ok (.getfield 100, 3) := by decide +kernel
theorem dX4_whyNotDeep_68 : decode cX4_whyNotDeep 68 = .ok (.invokevirtual 103, 3) := by decide +kernel
theorem dX4_whyNotDeep_71 : decode cX4_whyNotDeep 71 = .ok (.invokevirtual 80, 3) := by decide +kernel
theorem dX4_whyNotDeep_74 : decode cX4_whyNotDeep 74 = .ok (.ifCond .eq 7, 3) := by decide +kernel
theorem dX4_whyNotDeep_77 : decode cX4_whyNotDeep 77 = .ok (.iconst 0, 1) := by decide +kernel
theorem dX4_whyNotDeep_78 : decode cX4_whyNotDeep 78 = .ok (.goto 5, 3) := by decide +kernel
theorem dX4_whyNotDeep_81 : decode cX4_whyNotDeep 81 = .ok (.bipush 8, 2) := by decide +kernel
theorem dX4_whyNotDeep_83 : decode cX4_whyNotDeep 83 = .ok (.ireturn, 1) := by decide +kernel
theorem dX4_whyNotFlat_0 : decode cX4_whyNotFlat 0 = .ok (.aload_n 1, 1) := by decide +kernel
theorem dX4_whyNotFlat_1 : decode cX4_whyNotFlat 1 = .ok (.ifnonnull 6, 3) := by decide +kernel
theorem dX4_whyNotFlat_4 : decode cX4_whyNotFlat 4 = .ok (.bipush 7, 2) := by decide +kernel
theorem dX4_whyNotFlat_6 : decode cX4_whyNotFlat 6 = .ok (.ireturn, 1) := by decide +kernel
theorem dX4_whyNotFlat_7 : decode cX4_whyNotFlat 7 = .ok (.aload_n 1, 1) := by decide +kernel
theorem dX4_whyNotFlat_8 : decode cX4_whyNotFlat 8 = .ok (.getfield 106, 3) := by decide +kernel
theorem dX4_whyNotFlat_11 : decode cX4_whyNotFlat 11 = .ok (.iconst 4, 1) := by decide +kernel
theorem dX4_whyNotFlat_12 : decode cX4_whyNotFlat 12 = .ok (.if_icmp .eq 5, 3) := by decide +kernel
theorem dX4_whyNotFlat_15 : decode cX4_whyNotFlat 15 = .ok (.iconst 2, 1) := by decide +kernel
theorem dX4_whyNotFlat_16 : decode cX4_whyNotFlat 16 = .ok (.ireturn, 1) := by decide +kernel
theorem dX4_whyNotFlat_17 : decode cX4_whyNotFlat 17 = .ok (.aload_n 1, 1) := by decide +kernel
theorem dX4_whyNotFlat_18 : decode cX4_whyNotFlat 18 = .ok (.getfield 88, 3) := by decide +kernel
theorem dX4_whyNotFlat_21 : decode cX4_whyNotFlat 21 = .ok (.iconst 1, 1) := by decide +kernel
theorem dX4_whyNotFlat_22 : decode cX4_whyNotFlat 22 = .ok (.invokevirtual 235, 3) := by decide +kernel
theorem dX4_whyNotFlat_25 : decode cX4_whyNotFlat 25 = .ok (.lstore_n 2, 1) := by decide +kernel
theorem dX4_whyNotFlat_26 : decode cX4_whyNotFlat 26 = .ok (.iconst 0, 1) := by decide +kernel
theorem dX4_whyNotFlat_27 : decode cX4_whyNotFlat 27 = .ok (.istore 4, 2) := by decide +kernel
theorem dX4_whyNotFlat_29 : decode cX4_whyNotFlat 29 = .ok (.iload 4, 2) := by decide +kernel
theorem dX4_whyNotFlat_31 : decode cX4_whyNotFlat 31 = .ok (.aload_n 1, 1) := by decide +kernel
theorem dX4_whyNotFlat_32 : decode cX4_whyNotFlat 32 = .ok (.invokevirtual 130, 3) := by decide +kernel
theorem dX4_whyNotFlat_35 : decode cX4_whyNotFlat 35 = .ok (.if_icmp .ge 44, 3) := by decide +kernel
theorem dX4_whyNotFlat_38 : decode cX4_whyNotFlat 38 = .ok (.aload_n 1, 1) := by decide +kernel
theorem dX4_whyNotFlat_39 : decode cX4_whyNotFlat 39 = .ok (.getfield 133, 3) := by decide +kernel
theorem dX4_whyNotFlat_42 : decode cX4_whyNotFlat 42 = .ok (.iload 4, 2) := by decide +kernel
theorem dX4_whyNotFlat_44 : decode cX4_whyNotFlat 44 = .ok (.iaload, 1) := by decide +kernel
theorem dX4_whyNotFlat_45 : decode cX4_whyNotFlat 45 = .ok (.istore 5, 2) := by decide +kernel
theorem dX4_whyNotFlat_47 : decode cX4_whyNotFlat 47 = .ok (.iload 5, 2) := by decide +kernel
theorem dX4_whyNotFlat_49 : decode cX4_whyNotFlat 49 = .ok (.iconst (-1), 1) := by decide +kernel
theorem dX4_whyNotFlat_50 : decode cX4_whyNotFlat 50 = .ok (.if_icmp .ne 5, 3) := by decide +kernel
theorem dX4_whyNotFlat_53 : decode cX4_whyNotFlat 53 = .ok (.iconst 1, 1) := by decide +kernel
theorem dX4_whyNotFlat_54 : decode cX4_whyNotFlat 54 = .ok (.ireturn, 1) := by decide +kernel
theorem dX4_whyNotFlat_55 : decode cX4_whyNotFlat 55 = .ok (.aload_n 0, 1) := by decide +kernel
theorem dX4_whyNotFlat_56 : decode cX4_whyNotFlat 56 = .ok (.getfield 26, 3) := by decide +kernel
theorem dX4_whyNotFlat_59 : decode cX4_whyNotFlat 59 = .ok (.iload 5, 2) := by decide +kernel
theorem dX4_whyNotFlat_61 : decode cX4_whyNotFlat 61 = .ok (.invokevirtual 103, 3) := by decide +kernel
theorem dX4_whyNotFlat_64 : decode cX4_whyNotFlat 64 = .ok (.i2l, 1) := by decide +kernel
theorem dX4_whyNotFlat_65 : decode cX4_whyNotFlat 65 = .ok (.lload_n 2, 1) := by decide +kernel
theorem dX4_whyNotFlat_66 : decode cX4_whyNotFlat 66 = .ok (.lcmp, 1) := by decide +kernel
theorem dX4_whyNotFlat_67 : decode cX4_whyNotFlat 67 = .ok (.ifCond .eq 6, 3) := by decide +kernel
theorem dX4_whyNotFlat_70 : decode cX4_whyNotFlat 70 = .ok (.bipush 11, 2) := by decide +kernel
theorem dX4_whyNotFlat_72 : decode cX4_whyNotFlat 72 = .ok (.ireturn, 1) := by decide +kernel
theorem dX4_whyNotFlat_73 : decode cX4_whyNotFlat 73 = .ok (.iinc 4 1, 3) := by decide +kernel
theorem dX4_whyNotFlat_76 : decode cX4_whyNotFlat 76 = .ok (.goto (-47), 3) := by decide +kernel
theorem dX4_whyNotFlat_79 : decode cX4_whyNotFlat 79 = .ok (.aload_n 0, 1) := by decide +kernel
theorem dX4_whyNotFlat_80 : decode cX4_whyNotFlat 80 = .ok (.iconst 1, 1) := by decide +kernel
theorem dX4_whyNotFlat_81 : decode cX4_whyNotFlat 81 = .ok (.aload_n 1, 1) := by decide +kernel
theorem dX4_whyNotFlat_82 : decode cX4_whyNotFlat 82 = .ok (.getfield 88, 3) := by decide +kernel
theorem dX4_whyNotFlat_85 : decode cX4_whyNotFlat 85 = .ok (.invokevirtual 96, 3) := by decide +kernel
theorem dX4_whyNotFlat_88 : decode cX4_whyNotFlat 88 = .ok (.invokevirtual 80, 3) := by decide +kernel
theorem dX4_whyNotFlat_91 : decode cX4_whyNotFlat 91 = .ok (.ifCond .eq 7, 3) := by decide +kernel
theorem dX4_whyNotFlat_94 : decode cX4_whyNotFlat 94 = .ok (.iconst 0, 1) := by decide +kernel
theorem dX4_whyNotFlat_95 : decode cX4_whyNotFlat 95 = .ok (.goto 5, 3) := by decide +kernel
theorem dX4_whyNotFlat_98 : decode cX4_whyNotFlat 98 = .ok (.bipush 8, 2) := by decide +kernel
theorem dX4_whyNotFlat_100 : decode cX4_whyNotFlat 100 = .ok (.ireturn, 1) := by decide +kernel
theorem dX4_whyNoTableRow_0 : decode cX4_whyNoTableRow 0 = .ok (.aload_n 1, 1) := by decide +kernel
theorem dX4_whyNoTableRow_1 : decode cX4_whyNoTableRow 1 = .ok (.ifnonnull 6, 3) := by decide +kernel
theorem dX4_whyNoTableRow_4 : decode cX4_whyNoTableRow 4 = .ok (.bipush 7, 2) := by decide +kernel
theorem dX4_whyNoTableRow_6 : decode cX4_whyNoTableRow 6 = .ok (.ireturn, 1) := by decide +kernel
theorem dX4_whyNoTableRow_7 : decode cX4_whyNoTableRow 7 = .ok (.aload_n 1, 1) := by decide +kernel
theorem dX4_whyNoTableRow_8 : decode cX4_whyNoTableRow 8 = .ok (.getfield 106, 3) := by decide +kernel
theorem dX4_whyNoTableRow_11 : decode cX4_whyNoTableRow 11 = .ok (.iconst 4, 1) := by decide +kernel
theorem dX4_whyNoTableRow_12 : decode cX4_whyNoTableRow 12 = .ok (.if_icmp .eq 5, 3) := by decide +kernel
theorem dX4_whyNoTableRow_15 : decode cX4_whyNoTableRow 15 = .ok (.iconst 2, 1) := by decide +kernel
theorem dX4_whyNoTableRow_16 : decode cX4_whyNoTableRow 16 = .ok (.ireturn, 1) := by decide +kernel
theorem dX4_whyNoTableRow_17 : decode cX4_whyNoTableRow 17 = .ok (.aload_n 1, 1) := by decide +kernel
theorem dX4_whyNoTableRow_18 : decode cX4_whyNoTableRow 18 = .ok (.getfield 88, 3) := by decide +kernel
theorem dX4_whyNoTableRow_21 : decode cX4_whyNoTableRow 21 = .ok (.iconst 0, 1) := by decide +kernel
theorem dX4_whyNoTableRow_22 : decode cX4_whyNoTableRow 22 = .ok (.iload_n 2, 1) := by decide +kernel
theorem dX4_whyNoTableRow_23 : decode cX4_whyNoTableRow 23 = .ok (.invokevirtual 158, 3) := by decide +kernel
theorem dX4_whyNoTableRow_26 : decode cX4_whyNoTableRow 26 = .ok (.ifCond .ne 10, 3) := by decide +kernel
theorem dX4_whyNoTableRow_29 : decode cX4_whyNoTableRow 29 = .ok (.aload_n 0, 1) := by decide +kernel
theorem dX4_whyNoTableRow_30 : decode cX4_whyNoTableRow 30 = .ok (.iconst 0, 1) := by decide +kernel
theorem dX4_whyNoTableRow_31 : decode cX4_whyNoTableRow 31 = .ok (.putfield 47, 3) := by decide +kernel
theorem dX4_whyNoTableRow_34 : decode cX4_whyNoTableRow 34 = .ok (.iconst 3, 1) := by decide +kernel
theorem dX4_whyNoTableRow_35 : decode cX4_whyNoTableRow 35 = .ok (.ireturn, 1) := by decide +kernel
theorem dX4_whyNoTableRow_36 : decode cX4_whyNoTableRow 36 = .ok (.iconst 0, 1) := by decide +kernel
theorem dX4_whyNoTableRow_37 : decode cX4_whyNoTableRow 37 = .ok (.ireturn, 1) := by decide +kernel
theorem dX4_whyNotJoined_0 : decode cX4_whyNotJoined 0 = .ok (.aload_n 1, 1) := by decide +kernel
theorem dX4_whyNotJoined_1 : decode cX4_whyNotJoined 1 = .ok (.ifnull 7, 3) := by decide +kernel
theorem dX4_whyNotJoined_4 : decode cX4_whyNotJoined 4 = .ok (.aload_n 2, 1) := by decide +kernel
theorem dX4_whyNotJoined_5 : decode cX4_whyNotJoined 5 = .ok (.ifnonnull 6, 3) := by decide +kernel
theorem dX4_whyNotJoined_8 : decode cX4_whyNotJoined 8 = .ok (.bipush 7, 2) := by decide +kernel
theorem dX4_whyNotJoined_10 : decode cX4_whyNotJoined 10 = .ok (.ireturn, 1) := by decide +kernel
theorem dX4_whyNotJoined_11 : decode cX4_whyNotJoined 11 = .ok (.aload_n 1, 1) := by decide +kernel
theorem dX4_whyNotJoined_12 : decode cX4_whyNotJoined 12 = .ok (.getfield 106, 3) := by decide +kernel
theorem dX4_whyNotJoined_15 : decode cX4_whyNotJoined 15 = .ok (.aload_n 2, 1) := by decide +kernel
theorem dX4_whyNotJoined_16 : decode cX4_whyNotJoined 16 = .ok (.getfield 106, 3) := by decide +kernel
theorem dX4_whyNotJoined_19 : decode cX4_whyNotJoined 19 = .ok (.if_icmp .ne 11, 3) := by decide +kernel
theorem dX4_whyNotJoined_22 : decode cX4_whyNotJoined 22 = .ok (.aload_n 1, 1) := by decide +kernel
theorem dX4_whyNotJoined_23 : decode cX4_whyNotJoined 23 = .ok (.getfield 106, 3) := by decide +kernel
theorem dX4_whyNotJoined_26 : decode cX4_whyNotJoined 26 = .ok (.iconst 4, 1) := by decide +kernel
theorem dX4_whyNotJoined_27 : decode cX4_whyNotJoined 27 = .ok (.if_icmp .ne 5, 3) := by decide +kernel
theorem dX4_whyNotJoined_30 : decode cX4_whyNotJoined 30 = .ok (.iconst 2, 1) := by decide +kernel
theorem dX4_whyNotJoined_31 : decode cX4_whyNotJoined 31 = .ok (.ireturn, 1) := by decide +kernel
theorem dX4_whyNotJoined_32 : decode cX4_whyNotJoined 32 = .ok (.aload_n 0, 1) := by decide +kernel
theorem dX4_whyNotJoined_33 : decode cX4_whyNotJoined 33 = .ok (.getfield 26, 3) := by decide +kernel
theorem dX4_whyNotJoined_36 : decode cX4_whyNotJoined 36 = .ok (.aload_n 1, 1) := by decide +kernel
theorem dX4_whyNotJoined_37 : decode cX4_whyNotJoined 37 = .ok (.getfield 100, 3) := by decide +kernel
theorem dX4_whyNotJoined_40 : decode cX4_whyNotJoined 40 = .ok (.invokevirtual 103, 3) := by decide +kernel
theorem dX4_whyNotJoined_43 : decode cX4_whyNotJoined 43 = .ok (.aload_n 0, 1) := by decide +kernel
theorem dX4_whyNotJoined_44 : decode cX4_whyNotJoined 44 = .ok (.getfield 26, 3) := by decide +kernel
theorem dX4_whyNotJoined_47 : decode cX4_whyNotJoined 47 = .ok (.aload_n 2, 1) := by decide +kernel
theorem dX4_whyNotJoined_48 : decode cX4_whyNotJoined 48 = .ok (.getfield 100, 3) := by decide +kernel
theorem dX4_whyNotJoined_51 : decode cX4_whyNotJoined 51 = .ok (.invokevirtual 103, 3) := by decide +kernel
theorem dX4_whyNotJoined_54 : decode cX4_whyNotJoined 54 = .ok (.if_icmp .ne 7, 3) := by decide +kernel
theorem dX4_whyNotJoined_57 : decode cX4_whyNotJoined 57 = .ok (.iconst 0, 1) := by decide +kernel
theorem dX4_whyNotJoined_58 : decode cX4_whyNotJoined 58 = .ok (.goto 5, 3) := by decide +kernel
theorem dX4_whyNotJoined_61 : decode cX4_whyNotJoined 61 = .ok (.bipush 10, 2) := by decide +kernel
theorem dX4_whyNotJoined_63 : decode cX4_whyNotJoined 63 = .ok (.ireturn, 1) := by decide +kernel
theorem dX4_nextArray_0 : decode cX4_nextArray 0 = .ok (.aload_n 0, 1) := by decide +kernel
theorem dX4_nextArray_1 : decode cX4_nextArray 1 = .ok (.getfield 32, 3) := by decide +kernel
theorem dX4_nextArray_4 : decode cX4_nextArray 4 = .ok (.aload_n 0, 1) := by decide +kernel
theorem dX4_nextArray_5 : decode cX4_nextArray 5 = .ok (.getfield 40, 3) := by decide +kernel
theorem dX4_nextArray_8 : decode cX4_nextArray 8 = .ok (.aaload, 1) := by decide +kernel
theorem dX4_nextArray_9 : decode cX4_nextArray 9 = .ok (.astore_n 2, 1) := by decide +kernel
theorem dX4_nextArray_10 : decode cX4_nextArray 10 = .ok (.aload_n 0, 1) := by decide +kernel
theorem dX4_nextArray_11 : decode cX4_nextArray 11 = .ok (.dup, 1) := by decide +kernel
theorem dX4_nextArray_12 : decode cX4_nextArray 12 = .ok (.getfield 40, 3) := by decide +kernel
theorem dX4_nextArray_15 : decode cX4_nextArray 15 = .ok (.iconst 1, 1) := by decide +kernel
theorem dX4_nextArray_16 : decode cX4_nextArray 16 = .ok (.iadd, 1) := by decide +kernel
theorem dX4_nextArray_17 : decode cX4_nextArray 17 = .ok (.putfield 40, 3) := by decide +kernel
theorem dX4_nextArray_20 : decode cX4_nextArray 20 = .ok (.aload_n 2, 1) := by decide +kernel
theorem dX4_nextArray_21 : decode cX4_nextArray 21 = .ok (.iload_n 1, 1) := by decide +kernel
theorem dX4_nextArray_22 : decode cX4_nextArray 22 = .ok (.putfield 106, 3) := by decide +kernel
theorem dX4_nextArray_25 : decode cX4_nextArray 25 = .ok (.aload_n 2, 1) := by decide +kernel
theorem dX4_nextArray_26 : decode cX4_nextArray 26 = .ok (.iconst (-1), 1) := by decide +kernel
theorem dX4_nextArray_27 : decode cX4_nextArray 27 = .ok (.putfield 100, 3) := by decide +kernel
theorem dX4_nextArray_30 : decode cX4_nextArray 30 = .ok (.aload_n 2, 1) := by decide +kernel
theorem dX4_nextArray_31 : decode cX4_nextArray 31 = .ok (.getfield 88, 3) := by decide +kernel
theorem dX4_nextArray_34 : decode cX4_nextArray 34 = .ok (.iconst 0, 1) := by decide +kernel
theorem dX4_nextArray_35 : decode cX4_nextArray 35 = .ok (.putfield 51, 3) := by decide +kernel
theorem dX4_nextArray_38 : decode cX4_nextArray 38 = .ok (.aload_n 2, 1) := by decide +kernel
theorem dX4_nextArray_39 : decode cX4_nextArray 39 = .ok (.areturn, 1) := by decide +kernel
theorem dX4_nextArrayIn_0 : decode cX4_nextArrayIn 0 = .ok (.aload_n 0, 1) := by decide +kernel
theorem dX4_nextArrayIn_1 : decode cX4_nextArrayIn 1 = .ok (.iload_n 2, 1) := by decide +kernel
theorem dX4_nextArrayIn_2 : decode cX4_nextArrayIn 2 = .ok (.invokevirtual 84, 3) := by decide +kernel
theorem dX4_nextArrayIn_5 : decode cX4_nextArrayIn 5 = .ok (.astore_n 3, 1) := by decide +kernel
theorem dX4_nextArrayIn_6 : decode cX4_nextArrayIn 6 = .ok (.aload_n 3, 1) := by decide +kernel
theorem dX4_nextArrayIn_7 : decode cX4_nextArrayIn 7 = .ok (.getfield 88, 3) := by decide +kernel
theorem dX4_nextArrayIn_10 : decode cX4_nextArrayIn 10 = .ok (.aload_n 1, 1) := by decide +kernel
theorem dX4_nextArrayIn_11 : decode cX4_nextArrayIn 11 = .ok (.invokevirtual 240, 3) := by decide +kernel
theorem dX4_nextArrayIn_14 : decode cX4_nextArrayIn 14 = .ok (.aload_n 3, 1) := by decide +kernel
theorem dX4_nextArrayIn_15 : decode cX4_nextArrayIn 15 = .ok (.areturn, 1) := by decide +kernel
theorem dX4_addOwnRow_0 : decode cX4_addOwnRow 0 = .ok (.aload_n 1, 1) := by decide +kernel
theorem dX4_addOwnRow_1 : decode cX4_addOwnRow 1 = .ok (.aload_n 0, 1) := by decide +kernel
theorem dX4_addOwnRow_2 : decode cX4_addOwnRow 2 = .ok (.getfield 26, 3) := by decide +kernel
theorem dX4_addOwnRow_5 : decode cX4_addOwnRow 5 = .ok (.aload_n 1, 1) := by decide +kernel
theorem dX4_addOwnRow_6 : decode cX4_addOwnRow 6 = .ok (.getfield 88, 3) := by decide +kernel
theorem dX4_addOwnRow_9 : decode cX4_addOwnRow 9 = .ok (.invokevirtual 96, 3) := by decide +kernel
theorem dX4_addOwnRow_12 : decode cX4_addOwnRow 12 = .ok (.aload_n 1, 1) := by decide +kernel
theorem dX4_addOwnRow_13 : decode cX4_addOwnRow 13 = .ok (.getfield 106, 3) := by decide +kernel
theorem dX4_addOwnRow_16 : decode cX4_addOwnRow 16 = .ok (.iconst 3, 1) := by decide +kernel
theorem dX4_addOwnRow_17 : decode cX4_addOwnRow 17 = .ok (.if_icmp .eq 7, 3) := by decide +kernel
theorem dX4_addOwnRow_20 : decode cX4_addOwnRow 20 = .ok (.iconst 1, 1) := by decide +kernel
theorem dX4_addOwnRow_21 : decode cX4_addOwnRow 21 = .ok (.goto 4, 3) := by decide +kernel
theorem dX4_addOwnRow_24 : decode cX4_addOwnRow 24 = .ok (.iconst 0, 1) := by decide +kernel
theorem dX4_addOwnRow_25 : decode cX4_addOwnRow 25 = .ok (.invokevirtual 154, 3) := by decide +kernel
theorem dX4_addOwnRow_28 : decode cX4_addOwnRow 28 = .ok (.putfield 100, 3) := by decide +kernel
theorem dX4_addOwnRow_31 : decode cX4_addOwnRow 31 = .ok (.return_, 1) := by decide +kernel
theorem dX4_addTableRows_0 : decode cX4_addTableRows 0 = .ok (.aload_n 1, 1) := by decide +kernel
theorem dX4_addTableRows_1 : decode cX4_addTableRows 1 = .ok (.invokevirtual 130, 3) := by decide +kernel
theorem dX4_addTableRows_4 : decode cX4_addTableRows 4 = .ok (.istore_n 2, 1) := by decide +kernel
theorem dX4_addTableRows_5 : decode cX4_addTableRows 5 = .ok (.aload_n 1, 1) := by decide +kernel
theorem dX4_addTableRows_6 : decode cX4_addTableRows 6 = .ok (.getfield 133, 3) := by decide +kernel
theorem dX4_addTableRows_9 : decode cX4_addTableRows 9 = .ok (.arraylength, 1) := by decide +kernel
theorem dX4_addTableRows_10 : decode cX4_addTableRows 10 = .ok (.iload_n 2, 1) := by decide +kernel
theorem dX4_addTableRows_11 : decode cX4_addTableRows 11 = .ok (.if_icmp .ge 10, 3) := by decide +kernel
theorem dX4_addTableRows_14 : decode cX4_addTableRows 14 = .ok (.aload_n 1, 1) := by decide +kernel
theorem dX4_addTableRows_15 : decode cX4_addTableRows 15 = .ok (.iload_n 2, 1) := by decide +kernel
theorem dX4_addTableRows_16 : decode cX4_addTableRows 16 = .ok (.newarray .int, 2) := by decide +kernel
theorem dX4_addTableRows_18 : decode cX4_addTableRows 18 = .ok (.putfield 133, 3) := by decide +kernel
theorem dX4_addTableRows_21 : decode cX4_addTableRows 21 = .ok (.iload_n 2, 1) := by decide +kernel
theorem dX4_addTableRows_22 : decode cX4_addTableRows 22 = .ok (.ifCond .ne 7, 3) := by decide +kernel
theorem dX4_addTableRows_25 : decode cX4_addTableRows 25 = .ok (.iconst 0, 1) := by decide +kernel
theorem dX4_addTableRows_26 : decode cX4_addTableRows 26 = .ok (.goto 12, 3) := by decide +kernel
theorem dX4_addTableRows_29 : decode cX4_addTableRows 29 = .ok (.aload_n 1, 1) := by decide +kernel
theorem dX4_addTableRows_30 : decode cX4_addTableRows 30 = .ok (.getfield 88, 3) := by decide +kernel
theorem dX4_addTableRows_33 : decode cX4_addTableRows 33 = .ok (.iconst 1, 1) := by decide +kernel
theorem dX4_addTableRows_34 : decode cX4_addTableRows 34 = .ok (.invokevirtual 235, 3) := by decide +kernel
theorem dX4_addTableRows_37 : decode cX4_addTableRows 37 = .ok (.l2i, 1) := by decide +kernel
theorem dX4_addTableRows_38 : decode cX4_addTableRows 38 = .ok (.istore_n 3, 1) := by decide +kernel
theorem dX4_addTableRows_39 : decode cX4_addTableRows 39 = .ok (.iconst 0, 1) := by decide +kernel
theorem dX4_addTableRows_40 : decode cX4_addTableRows 40 = .ok (.istore 4, 2) := by decide +kernel
theorem dX4_addTableRows_42 : decode cX4_addTableRows 42 = .ok (.iload 4, 2) := by decide +kernel
theorem dX4_addTableRows_44 : decode cX4_addTableRows 44 = .ok (.iload_n 2, 1) := by decide +kernel
theorem dX4_addTableRows_45 : decode cX4_addTableRows 45 = .ok (.if_icmp .ge 25, 3) := by decide +kernel
theorem dX4_addTableRows_48 : decode cX4_addTableRows 48 = .ok (.aload_n 1, 1) := by decide +kernel
theorem dX4_addTableRows_49 : decode cX4_addTableRows 49 = .ok (.getfield 133, 3) := by decide +kernel
theorem dX4_addTableRows_52 : decode cX4_addTableRows 52 = .ok (.iload 4, 2) := by decide +kernel
theorem dX4_addTableRows_54 : decode cX4_addTableRows 54 = .ok (.aload_n 0, 1) := by decide +kernel
theorem dX4_addTableRows_55 : decode cX4_addTableRows 55 = .ok (.getfield 26, 3) := by decide +kernel
theorem dX4_addTableRows_58 : decode cX4_addTableRows 58 = .ok (.iload_n 3, 1) := by decide +kernel
theorem dX4_addTableRows_59 : decode cX4_addTableRows 59 = .ok (.iconst 1, 1) := by decide +kernel
theorem dX4_addTableRows_60 : decode cX4_addTableRows 60 = .ok (.invokevirtual 154, 3) := by decide +kernel
theorem dX4_addTableRows_63 : decode cX4_addTableRows 63 = .ok (.iastore, 1) := by decide +kernel
theorem dX4_addTableRows_64 : decode cX4_addTableRows 64 = .ok (.iinc 4 1, 3) := by decide +kernel
theorem dX4_addTableRows_67 : decode cX4_addTableRows 67 = .ok (.goto (-25), 3) := by decide +kernel
theorem dX4_addTableRows_70 : decode cX4_addTableRows 70 = .ok (.return_, 1) := by decide +kernel
theorem dX4_findTurned_0 : decode cX4_findTurned 0 = .ok (.aload_n 0, 1) := by decide +kernel
theorem dX4_findTurned_1 : decode cX4_findTurned 1 = .ok (.getfield 26, 3) := by decide +kernel
theorem dX4_findTurned_4 : decode cX4_findTurned 4 = .ok (.aload_n 1, 1) := by decide +kernel
theorem dX4_findTurned_5 : decode cX4_findTurned 5 = .ok (.getfield 100, 3) := by decide +kernel
theorem dX4_findTurned_8 : decode cX4_findTurned 8 = .ok (.invokevirtual 103, 3) := by decide +kernel
theorem dX4_findTurned_11 : decode cX4_findTurned 11 = .ok (.ifCond .ne 4, 3) := by decide +kernel
theorem dX4_findTurned_14 : decode cX4_findTurned 14 = .ok (.return_, 1) := by decide +kernel
theorem dX4_findTurned_15 : decode cX4_findTurned 15 = .ok (.aload_n 1, 1) := by decide +kernel
theorem dX4_findTurned_16 : decode cX4_findTurned 16 = .ok (.getfield 88, 3) := by decide +kernel
theorem dX4_findTurned_19 : decode cX4_findTurned 19 = .ok (.iconst 0, 1) := by decide +kernel
theorem dX4_findTurned_20 : decode cX4_findTurned 20 = .ok (.invokevirtual 235, 3) := by decide +kernel
theorem dX4_findTurned_23 : decode cX4_findTurned 23 = .ok (.l2i, 1) := by decide +kernel
theorem dX4_findTurned_24 : decode cX4_findTurned 24 = .ok (.istore_n 2, 1) := by decide +kernel
theorem dX4_findTurned_25 : decode cX4_findTurned 25 = .ok (.aload_n 1, 1) := by decide +kernel
theorem dX4_findTurned_26 : decode cX4_findTurned 26 = .ok (.getfield 88, 3) := by decide +kernel
theorem dX4_findTurned_29 : decode cX4_findTurned 29 = .ok (.iconst 1, 1) := by decide +kernel
theorem dX4_findTurned_30 : decode cX4_findTurned 30 = .ok (.invokevirtual 235, 3) := by decide +kernel
theorem dX4_findTurned_33 : decode cX4_findTurned 33 = .ok (.l2i, 1) := by decide +kernel
theorem dX4_findTurned_34 : decode cX4_findTurned 34 = .ok (.istore_n 3, 1) := by decide +kernel
theorem dX4_findTurned_35 : decode cX4_findTurned 35 = .ok (.aload_n 1, 1) := by decide +kernel
theorem dX4_findTurned_36 : decode cX4_findTurned 36 = .ok (.getfield 88, 3) := by decide +kernel
theorem dX4_findTurned_39 : decode cX4_findTurned 39 = .ok (.iconst 2, 1) := by decide +kernel
theorem dX4_findTurned_40 : decode cX4_findTurned 40 = .ok (.invokevirtual 235, 3) := by decide +kernel
theorem dX4_findTurned_43 : decode cX4_findTurned 43 = .ok (.l2i, 1) := by decide +kernel
theorem dX4_findTurned_44 : decode cX4_findTurned 44 = .ok (.istore 4, 2) := by decide +kernel
theorem dX4_findTurned_46 : decode cX4_findTurned 46 = .ok (.aload_n 0, 1) := by decide +kernel
theorem dX4_findTurned_47 : decode cX4_findTurned 47 = .ok (.getfield 26, 3) := by decide +kernel
theorem dX4_findTurned_50 : decode cX4_findTurned 50 = .ok (.aload_n 1, 1) := by decide +kernel
theorem dX4_findTurned_51 : decode cX4_findTurned 51 = .ok (.getfield 100, 3) := by decide +kernel
theorem dX4_findTurned_54 : decode cX4_findTurned 54 = .ok (.invokevirtual 127, 3) := by decide +kernel
theorem dX4_findTurned_57 : decode cX4_findTurned 57 = .ok (.istore 5, 2) := by decide +kernel
theorem dX4_findTurned_59 : decode cX4_findTurned 59 = .ok (.iconst 0, 1) := by decide +kernel
theorem dX4_findTurned_60 : decode cX4_findTurned 60 = .ok (.istore 6, 2) := by decide +kernel
theorem dX4_findTurned_62 : decode cX4_findTurned 62 = .ok (.iconst 0, 1) := by decide +kernel
theorem dX4_findTurned_63 : decode cX4_findTurned 63 = .ok (.istore 7, 2) := by decide +kernel
theorem dX4_findTurned_65 : decode cX4_findTurned 65 = .ok (.iload 7, 2) := by decide +kernel
theorem dX4_findTurned_67 : decode cX4_findTurned 67 = .ok (.iload_n 3, 1) := by decide +kernel
theorem dX4_findTurned_68 : decode cX4_findTurned 68 = .ok (.if_icmp .ge 66, 3) := by decide +kernel
theorem dX4_findTurned_71 : decode cX4_findTurned 71 = .ok (.iconst 0, 1) := by decide +kernel
theorem dX4_findTurned_72 : decode cX4_findTurned 72 = .ok (.istore 8, 2) := by decide +kernel
theorem dX4_findTurned_74 : decode cX4_findTurned 74 = .ok (.iload 8, 2) := by decide +kernel
theorem dX4_findTurned_76 : decode cX4_findTurned 76 = .ok (.iload_n 2, 1) := by decide +kernel
theorem dX4_findTurned_77 : decode cX4_findTurned 77 = .ok (.if_icmp .ge 51, 3) := by decide +kernel
theorem dX4_findTurned_80 : decode cX4_findTurned 80 = .ok (.iconst 0, 1) := by decide +kernel
theorem dX4_findTurned_81 : decode cX4_findTurned 81 = .ok (.istore 9, 2) := by decide +kernel
theorem dX4_findTurned_83 : decode cX4_findTurned 83 = .ok (.iload 9, 2) := by decide +kernel
theorem dX4_findTurned_85 : decode cX4_findTurned 85 = .ok (.iload 4, 2) := by decide +kernel
theorem dX4_findTurned_87 : decode cX4_findTurned 87 = .ok (.if_icmp .ge 35, 3) := by decide +kernel
theorem dX4_findTurned_90 : decode cX4_findTurned 90 = .ok (.aload_n 0, 1) := by decide +kernel
theorem dX4_findTurned_91 : decode cX4_findTurned 91 = .ok (.getfield 36, 3) := by decide +kernel
theorem dX4_findTurned_94 : decode cX4_findTurned 94 = .ok (.iload 6, 2) := by decide +kernel
theorem dX4_findTurned_96 : decode cX4_findTurned 96 = .ok (.iload 5, 2) := by decide +kernel
theorem dX4_findTurned_98 : decode cX4_findTurned 98 = .ok (.iload 8, 2) := by decide +kernel
theorem dX4_findTurned_100 : decode cX4_findTurned 100 = .ok (.iload_n 3, 1) := by decide +kernel
theorem dX4_findTurned_101 : decode cX4_findTurned 101 = .ok (.imul, 1) := by decide +kernel
theorem dX4_findTurned_102 : decode cX4_findTurned 102 = .ok (.iload 7, 2) := by decide +kernel
theorem dX4_findTurned_104 : decode cX4_findTurned 104 = .ok (.iadd, 1) := by decide +kernel
theorem dX4_findTurned_105 : decode cX4_findTurned 105 = .ok (.iload 4, 2) := by decide +kernel
theorem dX4_findTurned_107 : decode cX4_findTurned 107 = .ok (.imul, 1) := by decide +kernel
theorem dX4_findTurned_108 : decode cX4_findTurned 108 = .ok (.iadd, 1) := by decide +kernel
theorem dX4_findTurned_109 : decode cX4_findTurned 109 = .ok (.iload 9, 2) := by decide +kernel
theorem dX4_findTurned_111 : decode cX4_findTurned 111 = .ok (.iadd, 1) := by decide +kernel
theorem dX4_findTurned_112 : decode cX4_findTurned 112 = .ok (.iastore, 1) := by decide +kernel
theorem dX4_findTurned_113 : decode cX4_findTurned 113 = .ok (.iinc 6 1, 3) := by decide +kernel
theorem dX4_findTurned_116 : decode cX4_findTurned 116 = .ok (.iinc 9 1, 3) := by decide +kernel
theorem dX4_findTurned_119 : decode cX4_findTurned 119 = .ok (.goto (-36), 3) := by decide +kernel
theorem dX4_findTurned_122 : decode cX4_findTurned 122 = .ok (.iinc 8 1, 3) := by decide +kernel
theorem dX4_findTurned_125 : decode cX4_findTurned 125 = .ok (.goto (-51), 3) := by decide +kernel
theorem dX4_findTurned_128 : decode cX4_findTurned 128 = .ok (.iinc 7 1, 3) := by decide +kernel
theorem dX4_findTurned_131 : decode cX4_findTurned 131 = .ok (.goto (-66), 3) := by decide +kernel
theorem dX4_findTurned_134 : decode cX4_findTurned 134 = .ok (.return_, 1) := by decide +kernel
theorem dX4_findCut_0 : decode cX4_findCut 0 = .ok (.aload_n 0, 1) := by decide +kernel
theorem dX4_findCut_1 : decode cX4_findCut 1 = .ok (.getfield 12, 3) := by decide +kernel
theorem dX4_findCut_4 : decode cX4_findCut 4 = .ok (.invokevirtual 96, 3) := by decide +kernel
theorem dX4_findCut_7 : decode cX4_findCut 7 = .ok (.ifCond .ne 5, 3) := by decide +kernel
theorem dX4_findCut_10 : decode cX4_findCut 10 = .ok (.iconst (-1), 1) := by decide +kernel
theorem dX4_findCut_11 : decode cX4_findCut 11 = .ok (.ireturn, 1) := by decide +kernel
theorem dX4_findCut_12 : decode cX4_findCut 12 = .ok (.aload_n 0, 1) := by decide +kernel
theorem dX4_findCut_13 : decode cX4_findCut 13 = .ok (.getfield 26, 3) := by decide +kernel
theorem dX4_findCut_16 : decode cX4_findCut 16 = .ok (.aload_n 1, 1) := by decide +kernel
theorem dX4_findCut_17 : decode cX4_findCut 17 = .ok (.getfield 100, 3) := by decide +kernel
theorem dX4_findCut_20 : decode cX4_findCut 20 = .ok (.invokevirtual 127, 3) := by decide +kernel
theorem dX4_findCut_23 : decode cX4_findCut 23 = .ok (.istore_n 2, 1) := by decide +kernel
theorem dX4_findCut_24 : decode cX4_findCut 24 = .ok (.iconst 0, 1) := by decide +kernel
theorem dX4_findCut_25 : decode cX4_findCut 25 = .ok (.istore_n 3, 1) := by decide +kernel
theorem dX4_findCut_26 : decode cX4_findCut 26 = .ok (.iconst 0, 1) := by decide +kernel
theorem dX4_findCut_27 : decode cX4_findCut 27 = .ok (.istore 4, 2) := by decide +kernel
theorem dX4_findCut_29 : decode cX4_findCut 29 = .ok (.iload 4, 2) := by decide +kernel
theorem dX4_findCut_31 : decode cX4_findCut 31 = .ok (.i2l, 1) := by decide +kernel
theorem dX4_findCut_32 : decode cX4_findCut 32 = .ok (.aload_n 0, 1) := by decide +kernel
theorem dX4_findCut_33 : decode cX4_findCut 33 = .ok (.getfield 12, 3) := by decide +kernel
theorem dX4_findCut_36 : decode cX4_findCut 36 = .ok (.iconst 0, 1) := by decide +kernel
theorem dX4_findCut_37 : decode cX4_findCut 37 = .ok (.invokevirtual 235, 3) := by decide +kernel
theorem dX4_findCut_40 : decode cX4_findCut 40 = .ok (.lcmp, 1) := by decide +kernel
theorem dX4_findCut_41 : decode cX4_findCut 41 = .ok (.ifCond .ge 147, 3) := by decide +kernel
theorem dX4_findCut_44 : decode cX4_findCut 44 = .ok (.iconst 0, 1) := by decide +kernel
theorem dX4_findCut_45 : decode cX4_findCut 45 = .ok (.istore 5, 2) := by decide +kernel
theorem dX4_findCut_47 : decode cX4_findCut 47 = .ok (.iload 5, 2) := by decide +kernel
theorem dX4_findCut_49 : decode cX4_findCut 49 = .ok (.i2l, 1) := by decide +kernel
theorem dX4_findCut_50 : decode cX4_findCut 50 = .ok (.aload_n 0, 1) := by decide +kernel
theorem dX4_findCut_51 : decode cX4_findCut 51 = .ok (.getfield 12, 3) := by decide +kernel
theorem dX4_findCut_54 : decode cX4_findCut 54 = .ok (.iconst 1, 1) := by decide +kernel
theorem dX4_findCut_55 : decode cX4_findCut 55 = .ok (.invokevirtual 235, 3) := by decide +kernel
theorem dX4_findCut_58 : decode cX4_findCut 58 = .ok (.lcmp, 1) := by decide +kernel
theorem dX4_findCut_59 : decode cX4_findCut 59 = .ok (.ifCond .ge 123, 3) := by decide +kernel
theorem dX4_findCut_62 : decode cX4_findCut 62 = .ok (.iconst 0, 1) := by decide +kernel
theorem dX4_findCut_63 : decode cX4_findCut 63 = .ok (.istore 6, 2) := by decide +kernel
theorem dX4_findCut_65 : decode cX4_findCut 65 = .ok (.iload 6, 2) := by decide +kernel
theorem dX4_findCut_67 : decode cX4_findCut 67 = .ok (.i2l, 1) := by decide +kernel
theorem dX4_findCut_68 : decode cX4_findCut 68 = .ok (.aload_n 0, 1) := by decide +kernel
theorem dX4_findCut_69 : decode cX4_findCut 69 = .ok (.getfield 12, 3) := by decide +kernel
theorem dX4_findCut_72 : decode cX4_findCut 72 = .ok (.iconst 2, 1) := by decide +kernel
theorem dX4_findCut_73 : decode cX4_findCut 73 = .ok (.invokevirtual 235, 3) := by decide +kernel
theorem dX4_findCut_76 : decode cX4_findCut 76 = .ok (.lcmp, 1) := by decide +kernel
theorem dX4_findCut_77 : decode cX4_findCut 77 = .ok (.ifCond .ge 99, 3) := by decide +kernel
theorem dX4_findCut_80 : decode cX4_findCut 80 = .ok (.aload_n 0, 1) := by decide +kernel
theorem dX4_findCut_81 : decode cX4_findCut 81 = .ok (.getfield 12, 3) := by decide +kernel
theorem dX4_findCut_84 : decode cX4_findCut 84 = .ok (.getfield 219, 3) := by decide +kernel
theorem dX4_findCut_87 : decode cX4_findCut 87 = .ok (.iconst 0, 1) := by decide +kernel
theorem dX4_findCut_88 : decode cX4_findCut 88 = .ok (.iaload, 1) := by decide +kernel
theorem dX4_findCut_89 : decode cX4_findCut 89 = .ok (.iload 4, 2) := by decide +kernel
theorem dX4_findCut_91 : decode cX4_findCut 91 = .ok (.iadd, 1) := by decide +kernel
theorem dX4_findCut_92 : decode cX4_findCut 92 = .ok (.istore 7, 2) := by decide +kernel
theorem dX4_findCut_94 : decode cX4_findCut 94 = .ok (.aload_n 0, 1) := by decide +kernel
theorem dX4_findCut_95 : decode cX4_findCut 95 = .ok (.getfield 12, 3) := by decide +kernel
theorem dX4_findCut_98 : decode cX4_findCut 98 = .ok (.getfield 219, 3) := by decide +kernel
theorem dX4_findCut_101 : decode cX4_findCut 101 = .ok (.iconst 1, 1) := by decide +kernel
theorem dX4_findCut_102 : decode cX4_findCut 102 = .ok (.iaload, 1) := by decide +kernel
theorem dX4_findCut_103 : decode cX4_findCut 103 = .ok (.iload 5, 2) := by decide +kernel
theorem dX4_findCut_105 : decode cX4_findCut 105 = .ok (.iadd, 1) := by decide +kernel
theorem dX4_findCut_106 : decode cX4_findCut 106 = .ok (.istore 8, 2) := by decide +kernel
theorem dX4_findCut_108 : decode cX4_findCut 108 = .ok (.aload_n 0, 1) := by decide +kernel
theorem dX4_findCut_109 : decode cX4_findCut 109 = .ok (.getfield 12, 3) := by decide +kernel
theorem dX4_findCut_112 : decode cX4_findCut 112 = .ok (.getfield 219, 3) := by decide +kernel
theorem dX4_findCut_115 : decode cX4_findCut 115 = .ok (.iconst 2, 1) := by decide +kernel
theorem dX4_findCut_116 : decode cX4_findCut 116 = .ok (.iaload, 1) := by decide +kernel
theorem dX4_findCut_117 : decode cX4_findCut 117 = .ok (.iload 6, 2) := by decide +kernel
theorem dX4_findCut_119 : decode cX4_findCut 119 = .ok (.iadd, 1) := by decide +kernel
theorem dX4_findCut_120 : decode cX4_findCut 120 = .ok (.istore 9, 2) := by decide +kernel
theorem dX4_findCut_122 : decode cX4_findCut 122 = .ok (.aload_n 1, 1) := by decide +kernel
theorem dX4_findCut_123 : decode cX4_findCut 123 = .ok (.getfield 88, 3) := by decide +kernel
theorem dX4_findCut_126 : decode cX4_findCut 126 = .ok (.iload 7, 2) := by decide +kernel
theorem dX4_findCut_128 : decode cX4_findCut 128 = .ok (.iload 8, 2) := by decide +kernel
theorem dX4_findCut_130 : decode cX4_findCut 130 = .ok (.iload 9, 2) := by decide +kernel
theorem dX4_findCut_132 : decode cX4_findCut 132 = .ok (.invokevirtual 244, 3) := by decide +kernel
theorem dX4_findCut_135 : decode cX4_findCut 135 = .ok (.istore 10, 2) := by decide +kernel
theorem dX4_findCut_137 : decode cX4_findCut 137 = .ok (.iload 10, 2) := by decide +kernel
theorem dX4_findCut_139 : decode cX4_findCut 139 = .ok (.iconst (-1), 1) := by decide +kernel
theorem dX4_findCut_140 : decode cX4_findCut 140 = .ok (.if_icmp .eq 6, 3) := by decide +kernel
theorem dX4_findCut_143 : decode cX4_findCut 143 = .ok (.iload 10, 2) := by decide +kernel
theorem dX4_findCut_145 : decode cX4_findCut 145 = .ok (.ireturn, 1) := by decide +kernel
theorem dX4_findCut_146 : decode cX4_findCut 146 = .ok (.aload_n 0, 1) := by decide +kernel
theorem dX4_findCut_147 : decode cX4_findCut 147 = .ok (.getfield 36, 3) := by decide +kernel
theorem dX4_findCut_150 : decode cX4_findCut 150 = .ok (.iload_n 3, 1) := by decide +kernel
theorem dX4_findCut_151 : decode cX4_findCut 151 = .ok (.iload_n 2, 1) := by decide +kernel
theorem dX4_findCut_152 : decode cX4_findCut 152 = .ok (.aload_n 1, 1) := by decide +kernel
theorem dX4_findCut_153 : decode cX4_findCut 153 = .ok (.getfield 88, 3) := by decide +kernel
theorem dX4_findCut_156 : decode cX4_findCut 156 = .ok (.iload 7, 2) := by decide +kernel
theorem dX4_findCut_158 : decode cX4_findCut 158 = .ok (.iload 8, 2) := by decide +kernel
theorem dX4_findCut_160 : decode cX4_findCut 160 = .ok (.iload 9, 2) := by decide +kernel
theorem dX4_findCut_162 : decode cX4_findCut 162 = .ok (.invokevirtual 248, 3) := by decide +kernel
theorem dX4_findCut_165 : decode cX4_findCut 165 = .ok (.iadd, 1) := by decide +kernel
theorem dX4_findCut_166 : decode cX4_findCut 166 = .ok (.iastore, 1) := by decide +kernel
theorem dX4_findCut_167 : decode cX4_findCut 167 = .ok (.iinc 3 1, 3) := by decide +kernel
theorem dX4_findCut_170 : decode cX4_findCut 170 = .ok (.iinc 6 1, 3) := by decide +kernel
theorem dX4_findCut_173 : decode cX4_findCut 173 = .ok (.goto (-108), 3) := by decide +kernel
theorem dX4_findCut_176 : decode cX4_findCut 176 = .ok (.iinc 5 1, 3) := by decide +kernel
theorem dX4_findCut_179 : decode cX4_findCut 179 = .ok (.goto (-132), 3) := by decide +kernel
theorem dX4_findCut_182 : decode cX4_findCut 182 = .ok (.iinc 4 1, 3) := by decide +kernel
theorem dX4_findCut_185 : decode cX4_findCut 185 = .ok (.goto (-156), 3) := by decide +kernel
theorem dX4_findCut_188 : decode cX4_findCut 188 = .ok (.iconst (-1), 1) := by decide +kernel
theorem dX4_findCut_189 : decode cX4_findCut 189 = .ok (.ireturn, 1) := by decide +kernel
theorem dX4_copySources_0 : decode cX4_copySources 0 = .ok (.aload_n 0, 1) := by decide +kernel
theorem dX4_copySources_1 : decode cX4_copySources 1 = .ok (.getfield 26, 3) := by decide +kernel
theorem dX4_copySources_4 : decode cX4_copySources 4 = .ok (.aload_n 1, 1) := by decide +kernel
theorem dX4_copySources_5 : decode cX4_copySources 5 = .ok (.getfield 100, 3) := by decide +kernel
theorem dX4_copySources_8 : decode cX4_copySources 8 = .ok (.invokevirtual 127, 3) := by decide +kernel
theorem dX4_copySources_11 : decode cX4_copySources 11 = .ok (.istore_n 2, 1) := by decide +kernel
theorem dX4_copySources_12 : decode cX4_copySources 12 = .ok (.iconst 0, 1) := by decide +kernel
theorem dX4_copySources_13 : decode cX4_copySources 13 = .ok (.istore_n 3, 1) := by decide +kernel
theorem dX4_copySources_14 : decode cX4_copySources 14 = .ok (.iload_n 3, 1) := by decide +kernel
theorem dX4_copySources_15 : decode cX4_copySources 15 = .ok (.aload_n 0, 1) := by decide +kernel
theorem dX4_copySources_16 : decode cX4_copySources 16 = .ok (.getfield 26, 3) := by decide +kernel
theorem dX4_copySources_19 : decode cX4_copySources 19 = .ok (.aload_n 1, 1) := by decide +kernel
theorem dX4_copySources_20 : decode cX4_copySources 20 = .ok (.getfield 100, 3) := by decide +kernel
theorem dX4_copySources_23 : decode cX4_copySources 23 = .ok (.invokevirtual 103, 3) := by decide +kernel
theorem dX4_copySources_26 : decode cX4_copySources 26 = .ok (.if_icmp .ge 26, 3) := by decide +kernel
theorem dX4_copySources_29 : decode cX4_copySources 29 = .ok (.aload_n 0, 1) := by decide +kernel
theorem dX4_copySources_30 : decode cX4_copySources 30 = .ok (.getfield 26, 3) := by decide +kernel
theorem dX4_copySources_33 : decode cX4_copySources 33 = .ok (.aload_n 0, 1) := by decide +kernel
theorem dX4_copySources_34 : decode cX4_copySources 34 = .ok (.getfield 36, 3) := by decide +kernel
theorem dX4_copySources_37 : decode cX4_copySources 37 = .ok (.iload_n 3, 1) := by decide +kernel
theorem dX4_copySources_38 : decode cX4_copySources 38 = .ok (.iaload, 1) := by decide +kernel
theorem dX4_copySources_39 : decode cX4_copySources 39 = .ok (.iload_n 2, 1) := by decide +kernel
theorem dX4_copySources_40 : decode cX4_copySources 40 = .ok (.iload_n 3, 1) := by decide +kernel
theorem dX4_copySources_41 : decode cX4_copySources 41 = .ok (.iadd, 1) := by decide +kernel
theorem dX4_copySources_42 : decode cX4_copySources 42 = .ok (.iconst 1, 1) := by decide +kernel
theorem dX4_copySources_43 : decode cX4_copySources 43 = .ok (.invokevirtual 136, 3) := by decide +kernel
theorem dX4_copySources_46 : decode cX4_copySources 46 = .ok (.iinc 3 1, 3) := by decide +kernel
theorem dX4_copySources_49 : decode cX4_copySources 49 = .ok (.goto (-35), 3) := by decide +kernel
theorem dX4_copySources_52 : decode cX4_copySources 52 = .ok (.return_, 1) := by decide +kernel
theorem dX4_cellOf_0 : decode cX4_cellOf 0 = .ok (.aload_n 1, 1) := by decide +kernel
theorem dX4_cellOf_1 : decode cX4_cellOf 1 = .ok (.ifnonnull 12, 3) := by decide +kernel
theorem dX4_cellOf_4 : decode cX4_cellOf 4 = .ok (.aload_n 0, 1) := by decide +kernel
theorem dX4_cellOf_5 : decode cX4_cellOf 5 = .ok (.bipush 7, 2) := by decide +kernel
theorem dX4_cellOf_7 : decode cX4_cellOf 7 = .ok (.invokevirtual 54, 3) := by decide +kernel
theorem dX4_cellOf_10 : decode cX4_cellOf 10 = .ok (.pop, 1) := by decide +kernel
theorem dX4_cellOf_11 : decode cX4_cellOf 11 = .ok (.iconst (-1), 1) := by decide +kernel
theorem dX4_cellOf_12 : decode cX4_cellOf 12 = .ok (.ireturn, 1) := by decide +kernel
theorem dX4_cellOf_13 : decode cX4_cellOf 13 = .ok (.aload_n 1, 1) := by decide +kernel
theorem dX4_cellOf_14 : decode cX4_cellOf 14 = .ok (.getfield 106, 3) := by decide +kernel
theorem dX4_cellOf_17 : decode cX4_cellOf 17 = .ok (.iconst 4, 1) := by decide +kernel
theorem dX4_cellOf_18 : decode cX4_cellOf 18 = .ok (.if_icmp .ne 11, 3) := by decide +kernel
theorem dX4_cellOf_21 : decode cX4_cellOf 21 = .ok (.aload_n 0, 1) := by decide +kernel
theorem dX4_cellOf_22 : decode cX4_cellOf 22 = .ok (.aload_n 1, 1) := by decide +kernel
theorem dX4_cellOf_23 : decode cX4_cellOf 23 = .ok (.iload_n 2, 1) := by decide +kernel
theorem dX4_cellOf_24 : decode cX4_cellOf 24 = .ok (.iload_n 3, 1) := by decide +kernel
theorem dX4_cellOf_25 : decode cX4_cellOf 25 = .ok (.invokevirtual 251, 3) := by decide +kernel
theorem dX4_cellOf_28 : decode cX4_cellOf 28 = .ok (.ireturn, 1) := by decide +kernel
theorem dX4_cellOf_29 : decode cX4_cellOf 29 = .ok (.aload_n 1, 1) := by decide +kernel
theorem dX4_cellOf_30 : decode cX4_cellOf 30 = .ok (.getfield 88, 3) := by decide +kernel
theorem dX4_cellOf_33 : decode cX4_cellOf 33 = .ok (.iload_n 2, 1) := by decide +kernel
theorem dX4_cellOf_34 : decode cX4_cellOf 34 = .ok (.iload_n 3, 1) := by decide +kernel
theorem dX4_cellOf_35 : decode cX4_cellOf 35 = .ok (.iload 4, 2) := by decide +kernel
theorem dX4_cellOf_37 : decode cX4_cellOf 37 = .ok (.invokevirtual 244, 3) := by decide +kernel
theorem dX4_cellOf_40 : decode cX4_cellOf 40 = .ok (.istore 5, 2) := by decide +kernel
theorem dX4_cellOf_42 : decode cX4_cellOf 42 = .ok (.iload 5, 2) := by decide +kernel
theorem dX4_cellOf_44 : decode cX4_cellOf 44 = .ok (.iconst (-1), 1) := by decide +kernel
theorem dX4_cellOf_45 : decode cX4_cellOf 45 = .ok (.if_icmp .eq 12, 3) := by decide +kernel
theorem dX4_cellOf_48 : decode cX4_cellOf 48 = .ok (.aload_n 0, 1) := by decide +kernel
theorem dX4_cellOf_49 : decode cX4_cellOf 49 = .ok (.iload 5, 2) := by decide +kernel
theorem dX4_cellOf_51 : decode cX4_cellOf 51 = .ok (.invokevirtual 121, 3) := by decide +kernel
theorem dX4_cellOf_54 : decode cX4_cellOf 54 = .ok (.pop, 1) := by decide +kernel
theorem dX4_cellOf_55 : decode cX4_cellOf 55 = .ok (.iconst (-1), 1) := by decide +kernel
theorem dX4_cellOf_56 : decode cX4_cellOf 56 = .ok (.ireturn, 1) := by decide +kernel
theorem dX4_cellOf_57 : decode cX4_cellOf 57 = .ok (.aload_n 0, 1) := by decide +kernel
theorem dX4_cellOf_58 : decode cX4_cellOf 58 = .ok (.getfield 26, 3) := by decide +kernel
theorem dX4_cellOf_61 : decode cX4_cellOf 61 = .ok (.aload_n 1, 1) := by decide +kernel
theorem dX4_cellOf_62 : decode cX4_cellOf 62 = .ok (.getfield 100, 3) := by decide +kernel
theorem dX4_cellOf_65 : decode cX4_cellOf 65 = .ok (.invokevirtual 127, 3) := by decide +kernel
theorem dX4_cellOf_68 : decode cX4_cellOf 68 = .ok (.aload_n 1, 1) := by decide +kernel
theorem dX4_cellOf_69 : decode cX4_cellOf 69 = .ok (.getfield 88, 3) := by decide +kernel
theorem dX4_cellOf_72 : decode cX4_cellOf 72 = .ok (.iload_n 2, 1) := by decide +kernel
theorem dX4_cellOf_73 : decode cX4_cellOf 73 = .ok (.iload_n 3, 1) := by decide +kernel
theorem dX4_cellOf_74 : decode cX4_cellOf 74 = .ok (.iload 4, 2) := by decide +kernel
theorem dX4_cellOf_76 : decode cX4_cellOf 76 = .ok (.invokevirtual 248, 3) := by decide +kernel
theorem dX4_cellOf_79 : decode cX4_cellOf 79 = .ok (.iadd, 1) := by decide +kernel
theorem dX4_cellOf_80 : decode cX4_cellOf 80 = .ok (.ireturn, 1) := by decide +kernel
theorem dX4_tableCellOf_0 : decode cX4_tableCellOf 0 = .ok (.aload_n 1, 1) := by decide +kernel
theorem dX4_tableCellOf_1 : decode cX4_tableCellOf 1 = .ok (.getfield 88, 3) := by decide +kernel
theorem dX4_tableCellOf_4 : decode cX4_tableCellOf 4 = .ok (.iconst 0, 1) := by decide +kernel
theorem dX4_tableCellOf_5 : decode cX4_tableCellOf 5 = .ok (.iload_n 2, 1) := by decide +kernel
theorem dX4_tableCellOf_6 : decode cX4_tableCellOf 6 = .ok (.invokevirtual 158, 3) := by decide +kernel
theorem dX4_tableCellOf_9 : decode cX4_tableCellOf 9 = .ok (.ifCond .ne 11, 3) := by decide +kernel
theorem dX4_tableCellOf_12 : decode cX4_tableCellOf 12 = .ok (.aload_n 0, 1) := by decide +kernel
theorem dX4_tableCellOf_13 : decode cX4_tableCellOf 13 = .ok (.iconst 0, 1) := by decide +kernel
theorem dX4_tableCellOf_14 : decode cX4_tableCellOf 14 = .ok (.invokevirtual 121, 3) := by decide +kernel
theorem dX4_tableCellOf_17 : decode cX4_tableCellOf 17 = .ok (.pop, 1) := by decide +kernel
theorem dX4_tableCellOf_18 : decode cX4_tableCellOf 18 = .ok (.iconst (-1), 1) := by decide +kernel
theorem dX4_tableCellOf_19 : decode cX4_tableCellOf 19 = .ok (.ireturn, 1) := by decide +kernel
theorem dX4_tableCellOf_20 : decode cX4_tableCellOf 20 = .ok (.aload_n 1, 1) := by decide +kernel
theorem dX4_tableCellOf_21 : decode cX4_tableCellOf 21 = .ok (.getfield 133, 3) := by decide +kernel
theorem dX4_tableCellOf_24 : decode cX4_tableCellOf 24 = .ok (.aload_n 1, 1) := by decide +kernel
theorem dX4_tableCellOf_25 : decode cX4_tableCellOf 25 = .ok (.getfield 88, 3) := by decide +kernel
theorem dX4_tableCellOf_28 : decode cX4_tableCellOf 28 = .ok (.iconst 0, 1) := by decide +kernel
theorem dX4_tableCellOf_29 : decode cX4_tableCellOf 29 = .ok (.iload_n 2, 1) := by decide +kernel
theorem dX4_tableCellOf_30 : decode cX4_tableCellOf 30 = .ok (.invokevirtual 150, 3) := by decide +kernel
theorem dX4_tableCellOf_33 : decode cX4_tableCellOf 33 = .ok (.iaload, 1) := by decide +kernel
theorem dX4_tableCellOf_34 : decode cX4_tableCellOf 34 = .ok (.istore 4, 2) := by decide +kernel
theorem dX4_tableCellOf_36 : decode cX4_tableCellOf 36 = .ok (.iload 4, 2) := by decide +kernel
theorem dX4_tableCellOf_38 : decode cX4_tableCellOf 38 = .ok (.iconst (-1), 1) := by decide +kernel
theorem dX4_tableCellOf_39 : decode cX4_tableCellOf 39 = .ok (.if_icmp .ne 11, 3) := by decide +kernel
theorem dX4_tableCellOf_42 : decode cX4_tableCellOf 42 = .ok (.aload_n 0, 1) := by decide +kernel
theorem dX4_tableCellOf_43 : decode cX4_tableCellOf 43 = .ok (.iconst 1, 1) := by decide +kernel
theorem dX4_tableCellOf_44 : decode cX4_tableCellOf 44 = .ok (.invokevirtual 54, 3) := by decide +kernel
theorem dX4_tableCellOf_47 : decode cX4_tableCellOf 47 = .ok (.pop, 1) := by decide +kernel
theorem dX4_tableCellOf_48 : decode cX4_tableCellOf 48 = .ok (.iconst (-1), 1) := by decide +kernel
theorem dX4_tableCellOf_49 : decode cX4_tableCellOf 49 = .ok (.ireturn, 1) := by decide +kernel
theorem dX4_tableCellOf_50 : decode cX4_tableCellOf 50 = .ok (.iload_n 3, 1) := by decide +kernel
theorem dX4_tableCellOf_51 : decode cX4_tableCellOf 51 = .ok (.i2l, 1) := by decide +kernel
theorem dX4_tableCellOf_52 : decode cX4_tableCellOf 52 = .ok (.aload_n 1, 1) := by decide +kernel
theorem dX4_tableCellOf_53 : decode cX4_tableCellOf 53 = .ok (.getfield 88, 3) := by decide +kernel
theorem dX4_tableCellOf_56 : decode cX4_tableCellOf 56 = .ok (.getfield 219, 3) := by decide +kernel
theorem dX4_tableCellOf_59 : decode cX4_tableCellOf 59 = .ok (.iconst 1, 1) := by decide +kernel
theorem dX4_tableCellOf_60 : decode cX4_tableCellOf 60 = .ok (.iaload, 1) := by decide +kernel
theorem dX4_tableCellOf_61 : decode cX4_tableCellOf 61 = .ok (.i2l, 1) := by decide +kernel
theorem dX4_tableCellOf_62 : decode cX4_tableCellOf 62 = .ok (.lsub, 1) := by decide +kernel
theorem dX4_tableCellOf_63 : decode cX4_tableCellOf 63 = .ok (.lstore 5, 2) := by decide +kernel
theorem dX4_tableCellOf_65 : decode cX4_tableCellOf 65 = .ok (.lload 5, 2) := by decide +kernel
theorem dX4_tableCellOf_67 : decode cX4_tableCellOf 67 = .ok (.lconst 0, 1) := by decide +kernel
theorem dX4_tableCellOf_68 : decode cX4_tableCellOf 68 = .ok (.lcmp, 1) := by decide +kernel
theorem dX4_tableCellOf_69 : decode cX4_tableCellOf 69 = .ok (.ifCond .lt 19, 3) := by decide +kernel
theorem dX4_tableCellOf_72 : decode cX4_tableCellOf 72 = .ok (.lload 5, 2) := by decide +kernel
theorem dX4_tableCellOf_74 : decode cX4_tableCellOf 74 = .ok (.aload_n 0, 1) := by decide +kernel
theorem dX4_tableCellOf_75 : decode cX4_tableCellOf 75 = .ok (.getfield 26, 3) := by decide +kernel
theorem dX4_tableCellOf_78 : decode cX4_tableCellOf 78 = .ok (.iload 4, 2) := by decide +kernel
theorem dX4_tableCellOf_80 : decode cX4_tableCellOf 80 = .ok (.invokevirtual 103, 3) := by decide +kernel
theorem dX4_tableCellOf_83 : decode cX4_tableCellOf 83 = .ok (.i2l, 1) := by decide +kernel
theorem dX4_tableCellOf_84 : decode cX4_tableCellOf 84 = .ok (.lcmp, 1) := by decide +kernel
theorem dX4_tableCellOf_85 : decode cX4_tableCellOf 85 = .ok (.ifCond .lt 11, 3) := by decide +kernel
theorem dX4_tableCellOf_88 : decode cX4_tableCellOf 88 = .ok (.aload_n 0, 1) := by decide +kernel
theorem dX4_tableCellOf_89 : decode cX4_tableCellOf 89 = .ok (.iconst 1, 1) := by decide +kernel
theorem dX4_tableCellOf_90 : decode cX4_tableCellOf 90 = .ok (.invokevirtual 121, 3) := by decide +kernel
theorem dX4_tableCellOf_93 : decode cX4_tableCellOf 93 = .ok (.pop, 1) := by decide +kernel
theorem dX4_tableCellOf_94 : decode cX4_tableCellOf 94 = .ok (.iconst (-1), 1) := by decide +kernel
theorem dX4_tableCellOf_95 : decode cX4_tableCellOf 95 = .ok (.ireturn, 1) := by decide +kernel
theorem dX4_tableCellOf_96 : decode cX4_tableCellOf 96 = .ok (.aload_n 0, 1) := by decide +kernel
theorem dX4_tableCellOf_97 : decode cX4_tableCellOf 97 = .ok (.getfield 26, 3) := by decide +kernel
theorem dX4_tableCellOf_100 : decode cX4_tableCellOf 100 = .ok (.iload 4, 2) := by decide +kernel
theorem dX4_tableCellOf_102 : decode cX4_tableCellOf 102 = .ok (.invokevirtual 127, 3) := by decide +kernel
theorem dX4_tableCellOf_105 : decode cX4_tableCellOf 105 = .ok (.lload 5, 2) := by decide +kernel
theorem dX4_tableCellOf_107 : decode cX4_tableCellOf 107 = .ok (.l2i, 1) := by decide +kernel
theorem dX4_tableCellOf_108 : decode cX4_tableCellOf 108 = .ok (.iadd, 1) := by decide +kernel
theorem dX4_tableCellOf_109 : decode cX4_tableCellOf 109 = .ok (.ireturn, 1) := by decide +kernel
theorem dX4_itemsOf_0 : decode cX4_itemsOf 0 = .ok (.aload_n 1, 1) := by decide +kernel
theorem dX4_itemsOf_1 : decode cX4_itemsOf 1 = .ok (.getfield 106, 3) := by decide +kernel
theorem dX4_itemsOf_4 : decode cX4_itemsOf 4 = .ok (.iconst 4, 1) := by decide +kernel
theorem dX4_itemsOf_5 : decode cX4_itemsOf 5 = .ok (.if_icmp .eq 15, 3) := by decide +kernel
theorem dX4_itemsOf_8 : decode cX4_itemsOf 8 = .ok (.aload_n 0, 1) := by decide +kernel
theorem dX4_itemsOf_9 : decode cX4_itemsOf 9 = .ok (.getfield 26, 3) := by decide +kernel
theorem dX4_itemsOf_12 : decode cX4_itemsOf 12 = .ok (.aload_n 1, 1) := by decide +kernel
theorem dX4_itemsOf_13 : decode cX4_itemsOf 13 = .ok (.getfield 100, 3) := by decide +kernel
theorem dX4_itemsOf_16 : decode cX4_itemsOf 16 = .ok (.invokevirtual 103, 3) := by decide +kernel
theorem dX4_itemsOf_19 : decode cX4_itemsOf 19 = .ok (.ireturn, 1) := by decide +kernel
theorem dX4_itemsOf_20 : decode cX4_itemsOf 20 = .ok (.iconst 0, 1) := by decide +kernel
theorem dX4_itemsOf_21 : decode cX4_itemsOf 21 = .ok (.istore_n 2, 1) := by decide +kernel
theorem dX4_itemsOf_22 : decode cX4_itemsOf 22 = .ok (.iconst 0, 1) := by decide +kernel
theorem dX4_itemsOf_23 : decode cX4_itemsOf 23 = .ok (.istore_n 3, 1) := by decide +kernel
theorem dX4_itemsOf_24 : decode cX4_itemsOf 24 = .ok (.iload_n 3, 1) := by decide +kernel
theorem dX4_itemsOf_25 : decode cX4_itemsOf 25 = .ok (.aload_n 1, 1) := by decide +kernel
theorem dX4_itemsOf_26 : decode cX4_itemsOf 26 = .ok (.invokevirtual 130, 3) := by decide +kernel
theorem dX4_itemsOf_29 : decode cX4_itemsOf 29 = .ok (.if_icmp .ge 25, 3) := by decide +kernel
theorem dX4_itemsOf_32 : decode cX4_itemsOf 32 = .ok (.iload_n 2, 1) := by decide +kernel
theorem dX4_itemsOf_33 : decode cX4_itemsOf 33 = .ok (.aload_n 0, 1) := by decide +kernel
theorem dX4_itemsOf_34 : decode cX4_itemsOf 34 = .ok (.getfield 26, 3) := by decide +kernel
theorem dX4_itemsOf_37 : decode cX4_itemsOf 37 = .ok (.aload_n 1, 1) := by decide +kernel
theorem dX4_itemsOf_38 : decode cX4_itemsOf 38 = .ok (.getfield 133, 3) := by decide +kernel
theorem dX4_itemsOf_41 : decode cX4_itemsOf 41 = .ok (.iload_n 3, 1) := by decide +kernel
theorem dX4_itemsOf_42 : decode cX4_itemsOf 42 = .ok (.iaload, 1) := by decide +kernel
theorem dX4_itemsOf_43 : decode cX4_itemsOf 43 = .ok (.invokevirtual 103, 3) := by decide +kernel
theorem dX4_itemsOf_46 : decode cX4_itemsOf 46 = .ok (.iadd, 1) := by decide +kernel
theorem dX4_itemsOf_47 : decode cX4_itemsOf 47 = .ok (.istore_n 2, 1) := by decide +kernel
theorem dX4_itemsOf_48 : decode cX4_itemsOf 48 = .ok (.iinc 3 1, 3) := by decide +kernel
theorem dX4_itemsOf_51 : decode cX4_itemsOf 51 = .ok (.goto (-27), 3) := by decide +kernel
theorem dX4_itemsOf_54 : decode cX4_itemsOf 54 = .ok (.iload_n 2, 1) := by decide +kernel
theorem dX4_itemsOf_55 : decode cX4_itemsOf 55 = .ok (.ireturn, 1) := by decide +kernel
theorem dX4_haveSameRows_0 : decode cX4_haveSameRows 0 = .ok (.aload_n 0, 1) := by decide +kernel
theorem dX4_haveSameRows_1 : decode cX4_haveSameRows 1 = .ok (.getfield 106, 3) := by decide +kernel
theorem dX4_haveSameRows_4 : decode cX4_haveSameRows 4 = .ok (.iconst 4, 1) := by decide +kernel
theorem dX4_haveSameRows_5 : decode cX4_haveSameRows 5 = .ok (.if_icmp .ne 11, 3) := by decide +kernel
theorem dX4_haveSameRows_8 : decode cX4_haveSameRows 8 = .ok (.aload_n 1, 1) := by decide +kernel
theorem dX4_haveSameRows_9 : decode cX4_haveSameRows 9 = .ok (.getfield 106, 3) := by decide +kernel
theorem dX4_haveSameRows_12 : decode cX4_haveSameRows 12 = .ok (.iconst 4, 1) := by decide +kernel
theorem dX4_haveSameRows_13 : decode cX4_haveSameRows 13 = .ok (.if_icmp .eq 20, 3) := by decide +kernel
theorem dX4_haveSameRows_16 : decode cX4_haveSameRows 16 = .ok (.aload_n 0, 1) := by decide +kernel
theorem dX4_haveSameRows_17 : decode cX4_haveSameRows 17 = .ok (.getfield 100, 3) := by decide +kernel
theorem dX4_haveSameRows_20 : decode cX4_haveSameRows 20 = .ok (.aload_n 1, 1) := by decide +kernel
theorem dX4_haveSameRows_21 : decode cX4_haveSameRows 21 = .ok (.getfield 100, 3) := by decide +kernel
theorem dX4_haveSameRows_24 : decode cX4_haveSameRows 24 = .ok (.if_icmp .ne 7, 3) := by decide +kernel
theorem dX4_haveSameRows_27 : decode cX4_haveSameRows 27 = .ok (.iconst 1, 1) := by decide +kernel
theorem dX4_haveSameRows_28 : decode cX4_haveSameRows 28 = .ok (.goto 4, 3) := by decide +kernel
theorem dX4_haveSameRows_31 : decode cX4_haveSameRows 31 = .ok (.iconst 0, 1) := by decide +kernel
theorem dX4_haveSameRows_32 : decode cX4_haveSameRows 32 = .ok (.ireturn, 1) := by decide +kernel
theorem dX4_haveSameRows_33 : decode cX4_haveSameRows 33 = .ok (.aload_n 0, 1) := by decide +kernel
theorem dX4_haveSameRows_34 : decode cX4_haveSameRows 34 = .ok (.invokevirtual 130, 3) := by decide +kernel
theorem dX4_haveSameRows_37 : decode cX4_haveSameRows 37 = .ok (.aload_n 1, 1) := by decide +kernel
theorem dX4_haveSameRows_38 : decode cX4_haveSameRows 38 = .ok (.invokevirtual 130, 3) := by decide +kernel
theorem dX4_haveSameRows_41 : decode cX4_haveSameRows 41 = .ok (.if_icmp .eq 5, 3) := by decide +kernel
theorem dX4_haveSameRows_44 : decode cX4_haveSameRows 44 = .ok (.iconst 0, 1) := by decide +kernel
theorem dX4_haveSameRows_45 : decode cX4_haveSameRows 45 = .ok (.ireturn, 1) := by decide +kernel
theorem dX4_haveSameRows_46 : decode cX4_haveSameRows 46 = .ok (.iconst 0, 1) := by decide +kernel
theorem dX4_haveSameRows_47 : decode cX4_haveSameRows 47 = .ok (.istore_n 2, 1) := by decide +kernel
theorem dX4_haveSameRows_48 : decode cX4_haveSameRows 48 = .ok (.iload_n 2, 1) := by decide +kernel
theorem dX4_haveSameRows_49 : decode cX4_haveSameRows 49 = .ok (.aload_n 0, 1) := by decide +kernel
theorem dX4_haveSameRows_50 : decode cX4_haveSameRows 50 = .ok (.invokevirtual 130, 3) := by decide +kernel
theorem dX4_haveSameRows_53 : decode cX4_haveSameRows 53 = .ok (.if_icmp .ge 26, 3) := by decide +kernel
theorem dX4_haveSameRows_56 : decode cX4_haveSameRows 56 = .ok (.aload_n 0, 1) := by decide +kernel
theorem dX4_haveSameRows_57 : decode cX4_haveSameRows 57 = .ok (.getfield 133, 3) := by decide +kernel
theorem dX4_haveSameRows_60 : decode cX4_haveSameRows 60 = .ok (.iload_n 2, 1) := by decide +kernel
theorem dX4_haveSameRows_61 : decode cX4_haveSameRows 61 = .ok (.iaload, 1) := by decide +kernel
theorem dX4_haveSameRows_62 : decode cX4_haveSameRows 62 = .ok (.aload_n 1, 1) := by decide +kernel
theorem dX4_haveSameRows_63 : decode cX4_haveSameRows 63 = .ok (.getfield 133, 3) := by decide +kernel
theorem dX4_haveSameRows_66 : decode cX4_haveSameRows 66 = .ok (.iload_n 2, 1) := by decide +kernel
theorem dX4_haveSameRows_67 : decode cX4_haveSameRows 67 = .ok (.iaload, 1) := by decide +kernel
theorem dX4_haveSameRows_68 : decode cX4_haveSameRows 68 = .ok (.if_icmp .eq 5, 3) := by decide +kernel
theorem dX4_haveSameRows_71 : decode cX4_haveSameRows 71 = .ok (.iconst 0, 1) := by decide +kernel
theorem dX4_haveSameRows_72 : decode cX4_haveSameRows 72 = .ok (.ireturn, 1) := by decide +kernel
theorem dX4_haveSameRows_73 : decode cX4_haveSameRows 73 = .ok (.iinc 2 1, 3) := by decide +kernel
theorem dX4_haveSameRows_76 : decode cX4_haveSameRows 76 = .ok (.goto (-28), 3) := by decide +kernel
theorem dX4_haveSameRows_79 : decode cX4_haveSameRows 79 = .ok (.iconst 1, 1) := by decide +kernel
theorem dX4_haveSameRows_80 : decode cX4_haveSameRows 80 = .ok (.ireturn, 1) := by decide +kernel
theorem dX4_joinCell_0 : decode cX4_joinCell 0 = .ok (.aload_n 0, 1) := by decide +kernel
theorem dX4_joinCell_1 : decode cX4_joinCell 1 = .ok (.getfield 26, 3) := by decide +kernel
theorem dX4_joinCell_4 : decode cX4_joinCell 4 = .ok (.getfield 165, 3) := by decide +kernel
theorem dX4_joinCell_7 : decode cX4_joinCell 7 = .ok (.iload_n 2, 1) := by decide +kernel
theorem dX4_joinCell_8 : decode cX4_joinCell 8 = .ok (.baload, 1) := by decide +kernel
theorem dX4_joinCell_9 : decode cX4_joinCell 9 = .ok (.ifCond .ne 18, 3) := by decide +kernel
theorem dX4_joinCell_12 : decode cX4_joinCell 12 = .ok (.aload_n 0, 1) := by decide +kernel
theorem dX4_joinCell_13 : decode cX4_joinCell 13 = .ok (.getfield 26, 3) := by decide +kernel
theorem dX4_joinCell_16 : decode cX4_joinCell 16 = .ok (.iload_n 2, 1) := by decide +kernel
theorem dX4_joinCell_17 : decode cX4_joinCell 17 = .ok (.iload_n 1, 1) := by decide +kernel
theorem dX4_joinCell_18 : decode cX4_joinCell 18 = .ok (.lload_n 3, 1) := by decide +kernel
theorem dX4_joinCell_19 : decode cX4_joinCell 19 = .ok (.invokestatic 173, 3) := by decide +kernel
theorem dX4_joinCell_22 : decode cX4_joinCell 22 = .ok (.invokevirtual 177, 3) := by decide +kernel
theorem dX4_joinCell_25 : decode cX4_joinCell 25 = .ok (.iconst 1, 1) := by decide +kernel
theorem dX4_joinCell_26 : decode cX4_joinCell 26 = .ok (.ireturn, 1) := by decide +kernel
theorem dX4_joinCell_27 : decode cX4_joinCell 27 = .ok (.lload_n 3, 1) := by decide +kernel
theorem dX4_joinCell_28 : decode cX4_joinCell 28 = .ok (.lconst 0, 1) := by decide +kernel
theorem dX4_joinCell_29 : decode cX4_joinCell 29 = .ok (.lcmp, 1) := by decide +kernel
end
section
theorem dX4_joinCell_30 : decode cX4_joinCell 30 = .ok (.ifCond .ne 17, 3) := by decide +kernel
theorem dX4_joinCell_33 : decode cX4_joinCell 33 = .ok (.iload 5, 2) := by decide +kernel
theorem dX4_joinCell_35 : decode cX4_joinCell 35 = .ok (.iconst 4, 1) := by decide +kernel
theorem dX4_joinCell_36 : decode cX4_joinCell 36 = .ok (.if_icmp .eq 9, 3) := by decide +kernel
theorem dX4_joinCell_39 : decode cX4_joinCell 39 = .ok (.iload 5, 2) := by decide +kernel
theorem dX4_joinCell_41 : decode cX4_joinCell 41 = .ok (.iconst 5, 1) := by decide +kernel
theorem dX4_joinCell_42 : decode cX4_joinCell 42 = .ok (.if_icmp .ne 5, 3) := by decide +kernel
theorem dX4_joinCell_45 : decode cX4_joinCell 45 = .ok (.iconst 0, 1) := by decide +kernel
theorem dX4_joinCell_46 : decode cX4_joinCell 46 = .ok (.ireturn, 1) := by decide +kernel
theorem dX4_joinCell_47 : decode cX4_joinCell 47 = .ok (.aload_n 0, 1) := by decide +kernel
theorem dX4_joinCell_48 : decode cX4_joinCell 48 = .ok (.getfield 26, 3) := by decide +kernel
theorem dX4_joinCell_51 : decode cX4_joinCell 51 = .ok (.iload_n 2, 1) := by decide +kernel
theorem dX4_joinCell_52 : decode cX4_joinCell 52 = .ok (.iload_n 1, 1) := by decide +kernel
theorem dX4_joinCell_53 : decode cX4_joinCell 53 = .ok (.aload_n 0, 1) := by decide +kernel
theorem dX4_joinCell_54 : decode cX4_joinCell 54 = .ok (.getfield 26, 3) := by decide +kernel
theorem dX4_joinCell_57 : decode cX4_joinCell 57 = .ok (.getfield 169, 3) := by decide +kernel
theorem dX4_joinCell_60 : decode cX4_joinCell 60 = .ok (.iload_n 2, 1) := by decide +kernel
theorem dX4_joinCell_61 : decode cX4_joinCell 61 = .ok (.laload, 1) := by decide +kernel
theorem dX4_joinCell_62 : decode cX4_joinCell 62 = .ok (.lload_n 3, 1) := by decide +kernel
theorem dX4_joinCell_63 : decode cX4_joinCell 63 = .ok (.iload 5, 2) := by decide +kernel
theorem dX4_joinCell_65 : decode cX4_joinCell 65 = .ok (.invokestatic 255, 3) := by decide +kernel
theorem dX4_joinCell_68 : decode cX4_joinCell 68 = .ok (.invokestatic 173, 3) := by decide +kernel
theorem dX4_joinCell_71 : decode cX4_joinCell 71 = .ok (.invokevirtual 177, 3) := by decide +kernel
theorem dX4_joinCell_74 : decode cX4_joinCell 74 = .ok (.iconst 1, 1) := by decide +kernel
theorem dX4_joinCell_75 : decode cX4_joinCell 75 = .ok (.ireturn, 1) := by decide +kernel
theorem dX4_joined_0 : decode cX4_joined 0 = .ok (.iload 4, 2) := by decide +kernel
theorem dX4_joined_2 : decode cX4_joined 2 = .ok (.tableswitch 78 1 5 #[34, 38, 44, 50, 64], 34) := by decide +kernel
theorem dX4_joined_36 : decode cX4_joined 36 = .ok (.lload_n 0, 1) := by decide +kernel
theorem dX4_joined_37 : decode cX4_joined 37 = .ok (.lload_n 2, 1) := by decide +kernel
theorem dX4_joined_38 : decode cX4_joined 38 = .ok (.ladd, 1) := by decide +kernel
theorem dX4_joined_39 : decode cX4_joined 39 = .ok (.lreturn, 1) := by decide +kernel
theorem dX4_joined_40 : decode cX4_joined 40 = .ok (.lload_n 0, 1) := by decide +kernel
theorem dX4_joined_41 : decode cX4_joined 41 = .ok (.lload_n 2, 1) := by decide +kernel
theorem dX4_joined_42 : decode cX4_joined 42 = .ok (.invokestatic 259, 3) := by decide +kernel
theorem dX4_joined_45 : decode cX4_joined 45 = .ok (.lreturn, 1) := by decide +kernel
theorem dX4_joined_46 : decode cX4_joined 46 = .ok (.lload_n 0, 1) := by decide +kernel
theorem dX4_joined_47 : decode cX4_joined 47 = .ok (.lload_n 2, 1) := by decide +kernel
theorem dX4_joined_48 : decode cX4_joined 48 = .ok (.invokestatic 265, 3) := by decide +kernel
theorem dX4_joined_51 : decode cX4_joined 51 = .ok (.lreturn, 1) := by decide +kernel
theorem dX4_joined_52 : decode cX4_joined 52 = .ok (.lload_n 2, 1) := by decide +kernel
theorem dX4_joined_53 : decode cX4_joined 53 = .ok (.lconst 0, 1) := by decide +kernel
theorem dX4_joined_54 : decode cX4_joined 54 = .ok (.lcmp, 1) := by decide +kernel
theorem dX4_joined_55 : decode cX4_joined 55 = .ok (.ifCond .ne 7, 3) := by decide +kernel
theorem dX4_joined_58 : decode cX4_joined 58 = .ok (.lconst 0, 1) := by decide +kernel
theorem dX4_joined_59 : decode cX4_joined 59 = .ok (.goto 6, 3) := by decide +kernel
theorem dX4_joined_62 : decode cX4_joined 62 = .ok (.lload_n 0, 1) := by decide +kernel
theorem dX4_joined_63 : decode cX4_joined 63 = .ok (.lload_n 2, 1) := by decide +kernel
theorem dX4_joined_64 : decode cX4_joined 64 = .ok (.ldiv, 1) := by decide +kernel
theorem dX4_joined_65 : decode cX4_joined 65 = .ok (.lreturn, 1) := by decide +kernel
theorem dX4_joined_66 : decode cX4_joined 66 = .ok (.lload_n 2, 1) := by decide +kernel
theorem dX4_joined_67 : decode cX4_joined 67 = .ok (.lconst 0, 1) := by decide +kernel
theorem dX4_joined_68 : decode cX4_joined 68 = .ok (.lcmp, 1) := by decide +kernel
theorem dX4_joined_69 : decode cX4_joined 69 = .ok (.ifCond .ne 7, 3) := by decide +kernel
theorem dX4_joined_72 : decode cX4_joined 72 = .ok (.lconst 0, 1) := by decide +kernel
theorem dX4_joined_73 : decode cX4_joined 73 = .ok (.goto 6, 3) := by decide +kernel
theorem dX4_joined_76 : decode cX4_joined 76 = .ok (.lload_n 0, 1) := by decide +kernel
theorem dX4_joined_77 : decode cX4_joined 77 = .ok (.lload_n 2, 1) := by decide +kernel
theorem dX4_joined_78 : decode cX4_joined 78 = .ok (.lrem, 1) := by decide +kernel
theorem dX4_joined_79 : decode cX4_joined 79 = .ok (.lreturn, 1) := by decide +kernel
theorem dX4_joined_80 : decode cX4_joined 80 = .ok (.lload_n 2, 1) := by decide +kernel
theorem dX4_joined_81 : decode cX4_joined 81 = .ok (.lreturn, 1) := by decide +kernel
theorem dX4_fitted_0 : decode cX4_fitted 0 = .ok (.iload_n 0, 1) := by decide +kernel
theorem dX4_fitted_1 : decode cX4_fitted 1 = .ok (.ifCond .ne 8, 3) := by decide +kernel
theorem dX4_fitted_4 : decode cX4_fitted 4 = .ok (.lload_n 1, 1) := by decide +kernel
theorem dX4_fitted_5 : decode cX4_fitted 5 = .ok (.l2i, 1) := by decide +kernel
theorem dX4_fitted_6 : decode cX4_fitted 6 = .ok (.i2b, 1) := by decide +kernel
theorem dX4_fitted_7 : decode cX4_fitted 7 = .ok (.i2l, 1) := by decide +kernel
theorem dX4_fitted_8 : decode cX4_fitted 8 = .ok (.lreturn, 1) := by decide +kernel
theorem dX4_fitted_9 : decode cX4_fitted 9 = .ok (.iload_n 0, 1) := by decide +kernel
theorem dX4_fitted_10 : decode cX4_fitted 10 = .ok (.iconst 1, 1) := by decide +kernel
theorem dX4_fitted_11 : decode cX4_fitted 11 = .ok (.if_icmp .eq 8, 3) := by decide +kernel
theorem dX4_fitted_14 : decode cX4_fitted 14 = .ok (.iload_n 0, 1) := by decide +kernel
theorem dX4_fitted_15 : decode cX4_fitted 15 = .ok (.iconst 4, 1) := by decide +kernel
theorem dX4_fitted_16 : decode cX4_fitted 16 = .ok (.if_icmp .ne 9, 3) := by decide +kernel
theorem dX4_fitted_19 : decode cX4_fitted 19 = .ok (.lload_n 1, 1) := by decide +kernel
theorem dX4_fitted_20 : decode cX4_fitted 20 = .ok (.l2i, 1) := by decide +kernel
theorem dX4_fitted_21 : decode cX4_fitted 21 = .ok (.i2l, 1) := by decide +kernel
theorem dX4_fitted_22 : decode cX4_fitted 22 = .ok (.goto 4, 3) := by decide +kernel
theorem dX4_fitted_25 : decode cX4_fitted 25 = .ok (.lload_n 1, 1) := by decide +kernel
theorem dX4_fitted_26 : decode cX4_fitted 26 = .ok (.lreturn, 1) := by decide +kernel
end
section
theorem dX5_init_0 : decode cX5_init 0 = .ok (.aload_n 0, 1) := by decide +kernel
theorem dX5_init_1 : decode cX5_init 1 = .ok (.invokespecial 1, 3) := by decide +kernel
theorem dX5_init_4 : decode cX5_init 4 = .ok (.aload_n 0, 1) := by decide +kernel
theorem dX5_init_5 : decode cX5_init 5 = .ok (.iconst (-1), 1) := by decide +kernel
theorem dX5_init_6 : decode cX5_init 6 = .ok (.putfield 9, 3) := by decide +kernel
theorem dX5_init_9 : decode cX5_init 9 = .ok (.aload_n 0, 1) := by decide +kernel
theorem dX5_init_10 : decode cX5_init 10 = .ok (.iconst 3, 1) := by decide +kernel
theorem dX5_init_11 : decode cX5_init 11 = .ok (.newarray .int, 2) := by decide +kernel
theorem dX5_init_13 : decode cX5_init 13 = .ok (.putfield 13, 3) := by decide +kernel
theorem dX5_init_16 : decode cX5_init 16 = .ok (.aload_n 0, 1) := by decide +kernel
theorem dX5_init_17 : decode cX5_init 17 = .ok (.iconst 3, 1) := by decide +kernel
theorem dX5_init_18 : decode cX5_init 18 = .ok (.newarray .int, 2) := by decide +kernel
theorem dX5_init_20 : decode cX5_init 20 = .ok (.putfield 17, 3) := by decide +kernel
theorem dX5_init_23 : decode cX5_init 23 = .ok (.aload_n 0, 1) := by decide +kernel
theorem dX5_init_24 : decode cX5_init 24 = .ok (.bipush 24, 2) := by decide +kernel
theorem dX5_init_26 : decode cX5_init 26 = .ok (.newarray .int, 2) := by decide +kernel
theorem dX5_init_28 : decode cX5_init 28 = .ok (.putfield 20, 3) := by decide +kernel
theorem dX5_init_31 : decode cX5_init 31 = .ok (.aload_n 0, 1) := by decide +kernel
theorem dX5_init_32 : decode cX5_init 32 = .ok (.bipush 24, 2) := by decide +kernel
theorem dX5_init_34 : decode cX5_init 34 = .ok (.newarray .int, 2) := by decide +kernel
theorem dX5_init_36 : decode cX5_init 36 = .ok (.putfield 23, 3) := by decide +kernel
theorem dX5_init_39 : decode cX5_init 39 = .ok (.aload_n 0, 1) := by decide +kernel
theorem dX5_init_40 : decode cX5_init 40 = .ok (.bipush 72, 2) := by decide +kernel
theorem dX5_init_42 : decode cX5_init 42 = .ok (.newarray .int, 2) := by decide +kernel
theorem dX5_init_44 : decode cX5_init 44 = .ok (.putfield 26, 3) := by decide +kernel
theorem dX5_init_47 : decode cX5_init 47 = .ok (.aload_n 0, 1) := by decide +kernel
theorem dX5_init_48 : decode cX5_init 48 = .ok (.bipush 72, 2) := by decide +kernel
theorem dX5_init_50 : decode cX5_init 50 = .ok (.newarray .int, 2) := by decide +kernel
theorem dX5_init_52 : decode cX5_init 52 = .ok (.putfield 29, 3) := by decide +kernel
theorem dX5_init_55 : decode cX5_init 55 = .ok (.aload_n 0, 1) := by decide +kernel
theorem dX5_init_56 : decode cX5_init 56 = .ok (.bipush 24, 2) := by decide +kernel
theorem dX5_init_58 : decode cX5_init 58 = .ok (.newarray .int, 2) := by decide +kernel
theorem dX5_init_60 : decode cX5_init 60 = .ok (.putfield 32, 3) := by decide +kernel
theorem dX5_init_63 : decode cX5_init 63 = .ok (.aload_n 0, 1) := by decide +kernel
theorem dX5_init_64 : decode cX5_init 64 = .ok (.sipush 13000, 3) := by decide +kernel
theorem dX5_init_67 : decode cX5_init 67 = .ok (.newarray .int, 2) := by decide +kernel
theorem dX5_init_69 : decode cX5_init 69 = .ok (.putfield 35, 3) := by decide +kernel
theorem dX5_init_72 : decode cX5_init 72 = .ok (.aload_n 0, 1) := by decide +kernel
theorem dX5_init_73 : decode cX5_init 73 = .ok (.sipush 13000, 3) := by decide +kernel
theorem dX5_init_76 : decode cX5_init 76 = .ok (.newarray .int, 2) := by decide +kernel
theorem dX5_init_78 : decode cX5_init 78 = .ok (.putfield 38, 3) := by decide +kernel
theorem dX5_init_81 : decode cX5_init 81 = .ok (.aload_n 0, 1) := by decide +kernel
theorem dX5_init_82 : decode cX5_init 82 = .ok (.ldc 41, 2) := by decide +kernel
theorem dX5_init_84 : decode cX5_init 84 = .ok (.newarray .long, 2) := by decide +kernel
theorem dX5_init_86 : decode cX5_init 86 = .ok (.putfield 42, 3) := by decide +kernel
theorem dX5_init_89 : decode cX5_init 89 = .ok (.aload_n 0, 1) := by decide +kernel
theorem dX5_init_90 : decode cX5_init 90 = .ok (.ldc 41, 2) := by decide +kernel
theorem dX5_init_92 : decode cX5_init 92 = .ok (.newarray .boolean, 2) := by decide +kernel
theorem dX5_init_94 : decode cX5_init 94 = .ok (.putfield 46, 3) := by decide +kernel
theorem dX5_init_97 : decode cX5_init 97 = .ok (.aload_n 0, 1) := by decide +kernel
theorem dX5_init_98 : decode cX5_init 98 = .ok (.sipush 12100, 3) := by decide +kernel
theorem dX5_init_101 : decode cX5_init 101 = .ok (.newarray .int, 2) := by decide +kernel
theorem dX5_init_103 : decode cX5_init 103 = .ok (.putfield 50, 3) := by decide +kernel
theorem dX5_init_106 : decode cX5_init 106 = .ok (.aload_n 0, 1) := by decide +kernel
theorem dX5_init_107 : decode cX5_init 107 = .ok (.bipush 30, 2) := by decide +kernel
theorem dX5_init_109 : decode cX5_init 109 = .ok (.newarray .int, 2) := by decide +kernel
theorem dX5_init_111 : decode cX5_init 111 = .ok (.putfield 53, 3) := by decide +kernel
theorem dX5_init_114 : decode cX5_init 114 = .ok (.aload_n 0, 1) := by decide +kernel
theorem dX5_init_115 : decode cX5_init 115 = .ok (.bipush 30, 2) := by decide +kernel
theorem dX5_init_117 : decode cX5_init 117 = .ok (.newarray .int, 2) := by decide +kernel
theorem dX5_init_119 : decode cX5_init 119 = .ok (.putfield 56, 3) := by decide +kernel
theorem dX5_init_122 : decode cX5_init 122 = .ok (.aload_n 0, 1) := by decide +kernel
theorem dX5_init_123 : decode cX5_init 123 = .ok (.bipush 30, 2) := by decide +kernel
theorem dX5_init_125 : decode cX5_init 125 = .ok (.newarray .int, 2) := by decide +kernel
theorem dX5_init_127 : decode cX5_init 127 = .ok (.putfield 59, 3) := by decide +kernel
theorem dX5_init_130 : decode cX5_init 130 = .ok (.aload_n 0, 1) := by decide +kernel
theorem dX5_init_131 : decode cX5_init 131 = .ok (.bipush 30, 2) := by decide +kernel
theorem dX5_init_133 : decode cX5_init 133 = .ok (.newarray .long, 2) := by decide +kernel
theorem dX5_init_135 : decode cX5_init 135 = .ok (.putfield 62, 3) := by decide +kernel
theorem dX5_init_138 : decode cX5_init 138 = .ok (.return_, 1) := by decide +kernel
theorem dX5_within_0 : decode cX5_within 0 = .ok (.lload_n 0, 1) := by decide +kernel
theorem dX5_within_1 : decode cX5_within 1 = .ok (.lload_n 2, 1) := by decide +kernel
theorem dX5_within_2 : decode cX5_within 2 = .ok (.lcmp, 1) := by decide +kernel
theorem dX5_within_3 : decode cX5_within 3 = .ok (.ifCond .lt 14, 3) := by decide +kernel
theorem dX5_within_6 : decode cX5_within 6 = .ok (.lload_n 0, 1) := by decide +kernel
theorem dX5_within_7 : decode cX5_within 7 = .ok (.lload 4, 2) := by decide +kernel
theorem dX5_within_9 : decode cX5_within 9 = .ok (.lcmp, 1) := by decide +kernel
theorem dX5_within_10 : decode cX5_within 10 = .ok (.ifCond .gt 7, 3) := by decide +kernel
theorem dX5_within_13 : decode cX5_within 13 = .ok (.iconst 1, 1) := by decide +kernel
theorem dX5_within_14 : decode cX5_within 14 = .ok (.goto 4, 3) := by decide +kernel
theorem dX5_within_17 : decode cX5_within 17 = .ok (.iconst 0, 1) := by decide +kernel
theorem dX5_within_18 : decode cX5_within 18 = .ok (.ireturn, 1) := by decide +kernel
theorem dX5_code_0 : decode cX5_code 0 = .ok (.aload_n 0, 1) := by decide +kernel
theorem dX5_code_1 : decode cX5_code 1 = .ok (.getfield 65, 3) := by decide +kernel
theorem dX5_code_4 : decode cX5_code 4 = .ok (.ireturn, 1) := by decide +kernel
theorem dX5_which_0 : decode cX5_which 0 = .ok (.aload_n 0, 1) := by decide +kernel
theorem dX5_which_1 : decode cX5_which 1 = .ok (.getfield 9, 3) := by decide +kernel
theorem dX5_which_4 : decode cX5_which 4 = .ok (.ireturn, 1) := by decide +kernel
theorem dX5_no_0 : decode cX5_no 0 = .ok (.aload_n 0, 1) := by decide +kernel
theorem dX5_no_1 : decode cX5_no 1 = .ok (.iload_n 1, 1) := by decide +kernel
theorem dX5_no_2 : decode cX5_no 2 = .ok (.putfield 65, 3) := by decide +kernel
theorem dX5_no_5 : decode cX5_no 5 = .ok (.iconst 0, 1) := by decide +kernel
theorem dX5_no_6 : decode cX5_no 6 = .ok (.ireturn, 1) := by decide +kernel
theorem dX5_noItem_0 : decode cX5_noItem 0 = .ok (.aload_n 0, 1) := by decide +kernel
theorem dX5_noItem_1 : decode cX5_noItem 1 = .ok (.iload_n 1, 1) := by decide +kernel
theorem dX5_noItem_2 : decode cX5_noItem 2 = .ok (.putfield 9, 3) := by decide +kernel
theorem dX5_noItem_5 : decode cX5_noItem 5 = .ok (.aload_n 0, 1) := by decide +kernel
theorem dX5_noItem_6 : decode cX5_noItem 6 = .ok (.iconst 3, 1) := by decide +kernel
theorem dX5_noItem_7 : decode cX5_noItem 7 = .ok (.invokevirtual 68, 3) := by decide +kernel
theorem dX5_noItem_10 : decode cX5_noItem 10 = .ok (.ireturn, 1) := by decide +kernel
theorem dX5_yes_0 : decode cX5_yes 0 = .ok (.aload_n 0, 1) := by decide +kernel
theorem dX5_yes_1 : decode cX5_yes 1 = .ok (.iconst 0, 1) := by decide +kernel
theorem dX5_yes_2 : decode cX5_yes 2 = .ok (.putfield 65, 3) := by decide +kernel
theorem dX5_yes_5 : decode cX5_yes 5 = .ok (.iload_n 1, 1) := by decide +kernel
theorem dX5_yes_6 : decode cX5_yes 6 = .ok (.ireturn, 1) := by decide +kernel
theorem dX5_range_0 : decode cX5_range 0 = .ok (.aload_n 0, 1) := by decide +kernel
theorem dX5_range_1 : decode cX5_range 1 = .ok (.getfield 72, 3) := by decide +kernel
theorem dX5_range_4 : decode cX5_range 4 = .ok (.iconst 3, 1) := by decide +kernel
theorem dX5_range_5 : decode cX5_range 5 = .ok (.if_icmp .ne 10, 3) := by decide +kernel
theorem dX5_range_8 : decode cX5_range 8 = .ok (.aload_n 0, 1) := by decide +kernel
theorem dX5_range_9 : decode cX5_range 9 = .ok (.bipush 8, 2) := by decide +kernel
theorem dX5_range_11 : decode cX5_range 11 = .ok (.invokevirtual 68, 3) := by decide +kernel
theorem dX5_range_14 : decode cX5_range 14 = .ok (.ireturn, 1) := by decide +kernel
theorem dX5_range_15 : decode cX5_range 15 = .ok (.aload_n 0, 1) := by decide +kernel
theorem dX5_range_16 : decode cX5_range 16 = .ok (.getfield 13, 3) := by decide +kernel
theorem dX5_range_19 : decode cX5_range 19 = .ok (.aload_n 0, 1) := by decide +kernel
theorem dX5_range_20 : decode cX5_range 20 = .ok (.getfield 72, 3) := by decide +kernel
theorem dX5_range_23 : decode cX5_range 23 = .ok (.iload_n 1, 1) := by decide +kernel
theorem dX5_range_24 : decode cX5_range 24 = .ok (.iastore, 1) := by decide +kernel
theorem dX5_range_25 : decode cX5_range 25 = .ok (.aload_n 0, 1) := by decide +kernel
theorem dX5_range_26 : decode cX5_range 26 = .ok (.getfield 17, 3) := by decide +kernel
theorem dX5_range_29 : decode cX5_range 29 = .ok (.aload_n 0, 1) := by decide +kernel
theorem dX5_range_30 : decode cX5_range 30 = .ok (.getfield 72, 3) := by decide +kernel
theorem dX5_range_33 : decode cX5_range 33 = .ok (.iload_n 2, 1) := by decide +kernel
theorem dX5_range_34 : decode cX5_range 34 = .ok (.iastore, 1) := by decide +kernel
theorem dX5_range_35 : decode cX5_range 35 = .ok (.aload_n 0, 1) := by decide +kernel
theorem dX5_range_36 : decode cX5_range 36 = .ok (.dup, 1) := by decide +kernel
theorem dX5_range_37 : decode cX5_range 37 = .ok (.getfield 72, 3) := by decide +kernel
theorem dX5_range_40 : decode cX5_range 40 = .ok (.iconst 1, 1) := by decide +kernel
theorem dX5_range_41 : decode cX5_range 41 = .ok (.iadd, 1) := by decide +kernel
theorem dX5_range_42 : decode cX5_range 42 = .ok (.putfield 72, 3) := by decide +kernel
theorem dX5_range_45 : decode cX5_range 45 = .ok (.aload_n 0, 1) := by decide +kernel
theorem dX5_range_46 : decode cX5_range 46 = .ok (.aload_n 0, 1) := by decide +kernel
theorem dX5_range_47 : decode cX5_range 47 = .ok (.getfield 72, 3) := by decide +kernel
theorem dX5_range_50 : decode cX5_range 50 = .ok (.invokevirtual 75, 3) := by decide +kernel
theorem dX5_range_53 : decode cX5_range 53 = .ok (.ireturn, 1) := by decide +kernel
theorem dX5_shapeless_0 : decode cX5_shapeless 0 = .ok (.aload_n 0, 1) := by decide +kernel
theorem dX5_shapeless_1 : decode cX5_shapeless 1 = .ok (.getfield 72, 3) := by decide +kernel
theorem dX5_shapeless_4 : decode cX5_shapeless 4 = .ok (.istore_n 1, 1) := by decide +kernel
theorem dX5_shapeless_5 : decode cX5_shapeless 5 = .ok (.aload_n 0, 1) := by decide +kernel
theorem dX5_shapeless_6 : decode cX5_shapeless 6 = .ok (.iconst 0, 1) := by decide +kernel
theorem dX5_shapeless_7 : decode cX5_shapeless 7 = .ok (.putfield 72, 3) := by decide +kernel
theorem dX5_shapeless_10 : decode cX5_shapeless 10 = .ok (.aload_n 0, 1) := by decide +kernel
theorem dX5_shapeless_11 : decode cX5_shapeless 11 = .ok (.iload_n 1, 1) := by decide +kernel
theorem dX5_shapeless_12 : decode cX5_shapeless 12 = .ok (.invokevirtual 75, 3) := by decide +kernel
theorem dX5_shapeless_15 : decode cX5_shapeless 15 = .ok (.ireturn, 1) := by decide +kernel
theorem dX5_length_0 : decode cX5_length 0 = .ok (.iload_n 1, 1) := by decide +kernel
theorem dX5_length_1 : decode cX5_length 1 = .ok (.i2l, 1) := by decide +kernel
theorem dX5_length_2 : decode cX5_length 2 = .ok (.iload_n 0, 1) := by decide +kernel
theorem dX5_length_3 : decode cX5_length 3 = .ok (.i2l, 1) := by decide +kernel
theorem dX5_length_4 : decode cX5_length 4 = .ok (.lsub, 1) := by decide +kernel
theorem dX5_length_5 : decode cX5_length 5 = .ok (.lconst 1, 1) := by decide +kernel
theorem dX5_length_6 : decode cX5_length 6 = .ok (.ladd, 1) := by decide +kernel
theorem dX5_length_7 : decode cX5_length 7 = .ok (.lstore_n 2, 1) := by decide +kernel
theorem dX5_length_8 : decode cX5_length 8 = .ok (.lload_n 2, 1) := by decide +kernel
theorem dX5_length_9 : decode cX5_length 9 = .ok (.lconst 0, 1) := by decide +kernel
theorem dX5_length_10 : decode cX5_length 10 = .ok (.lcmp, 1) := by decide +kernel
theorem dX5_length_11 : decode cX5_length 11 = .ok (.ifCond .ge 7, 3) := by decide +kernel
theorem dX5_length_14 : decode cX5_length 14 = .ok (.lconst 0, 1) := by decide +kernel
theorem dX5_length_15 : decode cX5_length 15 = .ok (.goto 4, 3) := by decide +kernel
theorem dX5_length_18 : decode cX5_length 18 = .ok (.lload_n 2, 1) := by decide +kernel
theorem dX5_length_19 : decode cX5_length 19 = .ok (.lreturn, 1) := by decide +kernel
theorem dX5_shapeItems_0 : decode cX5_shapeItems 0 = .ok (.iconst 0, 1) := by decide +kernel
theorem dX5_shapeItems_1 : decode cX5_shapeItems 1 = .ok (.istore_n 1, 1) := by decide +kernel
theorem dX5_shapeItems_2 : decode cX5_shapeItems 2 = .ok (.lconst 1, 1) := by decide +kernel
theorem dX5_shapeItems_3 : decode cX5_shapeItems 3 = .ok (.lstore_n 2, 1) := by decide +kernel
theorem dX5_shapeItems_4 : decode cX5_shapeItems 4 = .ok (.iconst 0, 1) := by decide +kernel
theorem dX5_shapeItems_5 : decode cX5_shapeItems 5 = .ok (.istore 4, 2) := by decide +kernel
theorem dX5_shapeItems_7 : decode cX5_shapeItems 7 = .ok (.iload 4, 2) := by decide +kernel
theorem dX5_shapeItems_9 : decode cX5_shapeItems 9 = .ok (.aload_n 0, 1) := by decide +kernel
theorem dX5_shapeItems_10 : decode cX5_shapeItems 10 = .ok (.getfield 72, 3) := by decide +kernel
theorem dX5_shapeItems_13 : decode cX5_shapeItems 13 = .ok (.if_icmp .ge 66, 3) := by decide +kernel
theorem dX5_shapeItems_16 : decode cX5_shapeItems 16 = .ok (.aload_n 0, 1) := by decide +kernel
theorem dX5_shapeItems_17 : decode cX5_shapeItems 17 = .ok (.getfield 13, 3) := by decide +kernel
theorem dX5_shapeItems_20 : decode cX5_shapeItems 20 = .ok (.iload 4, 2) := by decide +kernel
theorem dX5_shapeItems_22 : decode cX5_shapeItems 22 = .ok (.iaload, 1) := by decide +kernel
theorem dX5_shapeItems_23 : decode cX5_shapeItems 23 = .ok (.aload_n 0, 1) := by decide +kernel
theorem dX5_shapeItems_24 : decode cX5_shapeItems 24 = .ok (.getfield 17, 3) := by decide +kernel
theorem dX5_shapeItems_27 : decode cX5_shapeItems 27 = .ok (.iload 4, 2) := by decide +kernel
theorem dX5_shapeItems_29 : decode cX5_shapeItems 29 = .ok (.iaload, 1) := by decide +kernel
theorem dX5_shapeItems_30 : decode cX5_shapeItems 30 = .ok (.invokestatic 78, 3) := by decide +kernel
theorem dX5_shapeItems_33 : decode cX5_shapeItems 33 = .ok (.lstore 5, 2) := by decide +kernel
theorem dX5_shapeItems_35 : decode cX5_shapeItems 35 = .ok (.iload_n 1, 1) := by decide +kernel
theorem dX5_shapeItems_36 : decode cX5_shapeItems 36 = .ok (.ifCond .ne 10, 3) := by decide +kernel
theorem dX5_shapeItems_39 : decode cX5_shapeItems 39 = .ok (.lload 5, 2) := by decide +kernel
theorem dX5_shapeItems_41 : decode cX5_shapeItems 41 = .ok (.lconst 0, 1) := by decide +kernel
theorem dX5_shapeItems_42 : decode cX5_shapeItems 42 = .ok (.lcmp, 1) := by decide +kernel
theorem dX5_shapeItems_43 : decode cX5_shapeItems 43 = .ok (.ifCond .ne 7, 3) := by decide +kernel
theorem dX5_shapeItems_46 : decode cX5_shapeItems 46 = .ok (.iconst 1, 1) := by decide +kernel
theorem dX5_shapeItems_47 : decode cX5_shapeItems 47 = .ok (.goto 4, 3) := by decide +kernel
theorem dX5_shapeItems_50 : decode cX5_shapeItems 50 = .ok (.iconst 0, 1) := by decide +kernel
theorem dX5_shapeItems_51 : decode cX5_shapeItems 51 = .ok (.istore_n 1, 1) := by decide +kernel
theorem dX5_shapeItems_52 : decode cX5_shapeItems 52 = .ok (.lload_n 2, 1) := by decide +kernel
theorem dX5_shapeItems_53 : decode cX5_shapeItems 53 = .ok (.lload 5, 2) := by decide +kernel
theorem dX5_shapeItems_55 : decode cX5_shapeItems 55 = .ok (.lmul, 1) := by decide +kernel
theorem dX5_shapeItems_56 : decode cX5_shapeItems 56 = .ok (.lstore_n 2, 1) := by decide +kernel
theorem dX5_shapeItems_57 : decode cX5_shapeItems 57 = .ok (.lload_n 2, 1) := by decide +kernel
theorem dX5_shapeItems_58 : decode cX5_shapeItems 58 = .ok (.ldc2_w 82, 3) := by decide +kernel
theorem dX5_shapeItems_61 : decode cX5_shapeItems 61 = .ok (.lcmp, 1) := by decide +kernel
theorem dX5_shapeItems_62 : decode cX5_shapeItems 62 = .ok (.ifCond .le 9, 3) := by decide +kernel
theorem dX5_shapeItems_65 : decode cX5_shapeItems 65 = .ok (.ldc2_w 84, 3) := by decide +kernel
theorem dX5_shapeItems_68 : decode cX5_shapeItems 68 = .ok (.goto 4, 3) := by decide +kernel
theorem dX5_shapeItems_71 : decode cX5_shapeItems 71 = .ok (.lload_n 2, 1) := by decide +kernel
theorem dX5_shapeItems_72 : decode cX5_shapeItems 72 = .ok (.lstore_n 2, 1) := by decide +kernel
theorem dX5_shapeItems_73 : decode cX5_shapeItems 73 = .ok (.iinc 4 1, 3) := by decide +kernel
theorem dX5_shapeItems_76 : decode cX5_shapeItems 76 = .ok (.goto (-69), 3) := by decide +kernel
theorem dX5_shapeItems_79 : decode cX5_shapeItems 79 = .ok (.iload_n 1, 1) := by decide +kernel
theorem dX5_shapeItems_80 : decode cX5_shapeItems 80 = .ok (.ifCond .eq 7, 3) := by decide +kernel
theorem dX5_shapeItems_83 : decode cX5_shapeItems 83 = .ok (.iconst 0, 1) := by decide +kernel
theorem dX5_shapeItems_84 : decode cX5_shapeItems 84 = .ok (.goto 5, 3) := by decide +kernel
theorem dX5_shapeItems_87 : decode cX5_shapeItems 87 = .ok (.lload_n 2, 1) := by decide +kernel
theorem dX5_shapeItems_88 : decode cX5_shapeItems 88 = .ok (.l2i, 1) := by decide +kernel
theorem dX5_shapeItems_89 : decode cX5_shapeItems 89 = .ok (.ireturn, 1) := by decide +kernel
theorem dX5_lengthOf_0 : decode cX5_lengthOf 0 = .ok (.aload_n 0, 1) := by decide +kernel
theorem dX5_lengthOf_1 : decode cX5_lengthOf 1 = .ok (.getfield 26, 3) := by decide +kernel
theorem dX5_lengthOf_4 : decode cX5_lengthOf 4 = .ok (.iconst 3, 1) := by decide +kernel
theorem dX5_lengthOf_5 : decode cX5_lengthOf 5 = .ok (.iload_n 1, 1) := by decide +kernel
theorem dX5_lengthOf_6 : decode cX5_lengthOf 6 = .ok (.imul, 1) := by decide +kernel
theorem dX5_lengthOf_7 : decode cX5_lengthOf 7 = .ok (.iload_n 2, 1) := by decide +kernel
theorem dX5_lengthOf_8 : decode cX5_lengthOf 8 = .ok (.iadd, 1) := by decide +kernel
theorem dX5_lengthOf_9 : decode cX5_lengthOf 9 = .ok (.iaload, 1) := by decide +kernel
theorem dX5_lengthOf_10 : decode cX5_lengthOf 10 = .ok (.aload_n 0, 1) := by decide +kernel
theorem dX5_lengthOf_11 : decode cX5_lengthOf 11 = .ok (.getfield 29, 3) := by decide +kernel
theorem dX5_lengthOf_14 : decode cX5_lengthOf 14 = .ok (.iconst 3, 1) := by decide +kernel
theorem dX5_lengthOf_15 : decode cX5_lengthOf 15 = .ok (.iload_n 1, 1) := by decide +kernel
theorem dX5_lengthOf_16 : decode cX5_lengthOf 16 = .ok (.imul, 1) := by decide +kernel
theorem dX5_lengthOf_17 : decode cX5_lengthOf 17 = .ok (.iload_n 2, 1) := by decide +kernel
theorem dX5_lengthOf_18 : decode cX5_lengthOf 18 = .ok (.iadd, 1) := by decide +kernel
theorem dX5_lengthOf_19 : decode cX5_lengthOf 19 = .ok (.iaload, 1) := by decide +kernel
theorem dX5_lengthOf_20 : decode cX5_lengthOf 20 = .ok (.invokestatic 78, 3) := by decide +kernel
theorem dX5_lengthOf_23 : decode cX5_lengthOf 23 = .ok (.lreturn, 1) := by decide +kernel
theorem dX5_newRow_0 : decode cX5_newRow 0 = .ok (.aload_n 0, 1) := by decide +kernel
theorem dX5_newRow_1 : decode cX5_newRow 1 = .ok (.getfield 35, 3) := by decide +kernel
theorem dX5_newRow_4 : decode cX5_newRow 4 = .ok (.aload_n 0, 1) := by decide +kernel
theorem dX5_newRow_5 : decode cX5_newRow 5 = .ok (.getfield 86, 3) := by decide +kernel
theorem dX5_newRow_8 : decode cX5_newRow 8 = .ok (.aload_n 0, 1) := by decide +kernel
theorem dX5_newRow_9 : decode cX5_newRow 9 = .ok (.getfield 89, 3) := by decide +kernel
theorem dX5_newRow_12 : decode cX5_newRow 12 = .ok (.iastore, 1) := by decide +kernel
theorem dX5_newRow_13 : decode cX5_newRow 13 = .ok (.aload_n 0, 1) := by decide +kernel
theorem dX5_newRow_14 : decode cX5_newRow 14 = .ok (.getfield 38, 3) := by decide +kernel
theorem dX5_newRow_17 : decode cX5_newRow 17 = .ok (.aload_n 0, 1) := by decide +kernel
theorem dX5_newRow_18 : decode cX5_newRow 18 = .ok (.getfield 86, 3) := by decide +kernel
theorem dX5_newRow_21 : decode cX5_newRow 21 = .ok (.iload_n 1, 1) := by decide +kernel
theorem dX5_newRow_22 : decode cX5_newRow 22 = .ok (.iastore, 1) := by decide +kernel
theorem dX5_newRow_23 : decode cX5_newRow 23 = .ok (.iconst 0, 1) := by decide +kernel
theorem dX5_newRow_24 : decode cX5_newRow 24 = .ok (.istore_n 2, 1) := by decide +kernel
theorem dX5_newRow_25 : decode cX5_newRow 25 = .ok (.iload_n 2, 1) := by decide +kernel
theorem dX5_newRow_26 : decode cX5_newRow 26 = .ok (.iload_n 1, 1) := by decide +kernel
theorem dX5_newRow_27 : decode cX5_newRow 27 = .ok (.if_icmp .ge 33, 3) := by decide +kernel
theorem dX5_newRow_30 : decode cX5_newRow 30 = .ok (.aload_n 0, 1) := by decide +kernel
theorem dX5_newRow_31 : decode cX5_newRow 31 = .ok (.getfield 42, 3) := by decide +kernel
theorem dX5_newRow_34 : decode cX5_newRow 34 = .ok (.aload_n 0, 1) := by decide +kernel
theorem dX5_newRow_35 : decode cX5_newRow 35 = .ok (.getfield 89, 3) := by decide +kernel
theorem dX5_newRow_38 : decode cX5_newRow 38 = .ok (.iload_n 2, 1) := by decide +kernel
theorem dX5_newRow_39 : decode cX5_newRow 39 = .ok (.iadd, 1) := by decide +kernel
theorem dX5_newRow_40 : decode cX5_newRow 40 = .ok (.lconst 0, 1) := by decide +kernel
theorem dX5_newRow_41 : decode cX5_newRow 41 = .ok (.lastore, 1) := by decide +kernel
theorem dX5_newRow_42 : decode cX5_newRow 42 = .ok (.aload_n 0, 1) := by decide +kernel
theorem dX5_newRow_43 : decode cX5_newRow 43 = .ok (.getfield 46, 3) := by decide +kernel
theorem dX5_newRow_46 : decode cX5_newRow 46 = .ok (.aload_n 0, 1) := by decide +kernel
theorem dX5_newRow_47 : decode cX5_newRow 47 = .ok (.getfield 89, 3) := by decide +kernel
theorem dX5_newRow_50 : decode cX5_newRow 50 = .ok (.iload_n 2, 1) := by decide +kernel
theorem dX5_newRow_51 : decode cX5_newRow 51 = .ok (.iadd, 1) := by decide +kernel
theorem dX5_newRow_52 : decode cX5_newRow 52 = .ok (.iconst 0, 1) := by decide +kernel
theorem dX5_newRow_53 : decode cX5_newRow 53 = .ok (.bastore, 1) := by decide +kernel
theorem dX5_newRow_54 : decode cX5_newRow 54 = .ok (.iinc 2 1, 3) := by decide +kernel
theorem dX5_newRow_57 : decode cX5_newRow 57 = .ok (.goto (-32), 3) := by decide +kernel
theorem dX5_newRow_60 : decode cX5_newRow 60 = .ok (.aload_n 0, 1) := by decide +kernel
theorem dX5_newRow_61 : decode cX5_newRow 61 = .ok (.dup, 1) := by decide +kernel
theorem dX5_newRow_62 : decode cX5_newRow 62 = .ok (.getfield 89, 3) := by decide +kernel
theorem dX5_newRow_65 : decode cX5_newRow 65 = .ok (.iload_n 1, 1) := by decide +kernel
theorem dX5_newRow_66 : decode cX5_newRow 66 = .ok (.iadd, 1) := by decide +kernel
theorem dX5_newRow_67 : decode cX5_newRow 67 = .ok (.putfield 89, 3) := by decide +kernel
theorem dX5_newRow_70 : decode cX5_newRow 70 = .ok (.aload_n 0, 1) := by decide +kernel
theorem dX5_newRow_71 : decode cX5_newRow 71 = .ok (.dup, 1) := by decide +kernel
theorem dX5_newRow_72 : decode cX5_newRow 72 = .ok (.getfield 86, 3) := by decide +kernel
theorem dX5_newRow_75 : decode cX5_newRow 75 = .ok (.iconst 1, 1) := by decide +kernel
theorem dX5_newRow_76 : decode cX5_newRow 76 = .ok (.iadd, 1) := by decide +kernel
theorem dX5_newRow_77 : decode cX5_newRow 77 = .ok (.putfield 86, 3) := by decide +kernel
theorem dX5_newRow_80 : decode cX5_newRow 80 = .ok (.aload_n 0, 1) := by decide +kernel
theorem dX5_newRow_81 : decode cX5_newRow 81 = .ok (.getfield 86, 3) := by decide +kernel
theorem dX5_newRow_84 : decode cX5_newRow 84 = .ok (.iconst 1, 1) := by decide +kernel
theorem dX5_newRow_85 : decode cX5_newRow 85 = .ok (.isub, 1) := by decide +kernel
theorem dX5_newRow_86 : decode cX5_newRow 86 = .ok (.ireturn, 1) := by decide +kernel
theorem dX5_as_0 : decode cX5_as 0 = .ok (.iload_n 0, 1) := by decide +kernel
theorem dX5_as_1 : decode cX5_as 1 = .ok (.ifCond .ne 27, 3) := by decide +kernel
theorem dX5_as_4 : decode cX5_as 4 = .ok (.lload_n 1, 1) := by decide +kernel
theorem dX5_as_5 : decode cX5_as 5 = .ok (.ldc2_w 92, 3) := by decide +kernel
theorem dX5_as_8 : decode cX5_as 8 = .ok (.land, 1) := by decide +kernel
theorem dX5_as_9 : decode cX5_as 9 = .ok (.lstore_n 3, 1) := by decide +kernel
theorem dX5_as_10 : decode cX5_as 10 = .ok (.lload_n 3, 1) := by decide +kernel
theorem dX5_as_11 : decode cX5_as 11 = .ok (.ldc2_w 94, 3) := by decide +kernel
theorem dX5_as_14 : decode cX5_as 14 = .ok (.lcmp, 1) := by decide +kernel
theorem dX5_as_15 : decode cX5_as 15 = .ok (.ifCond .le 11, 3) := by decide +kernel
theorem dX5_as_18 : decode cX5_as 18 = .ok (.lload_n 3, 1) := by decide +kernel
theorem dX5_as_19 : decode cX5_as 19 = .ok (.ldc2_w 96, 3) := by decide +kernel
theorem dX5_as_22 : decode cX5_as 22 = .ok (.lsub, 1) := by decide +kernel
theorem dX5_as_23 : decode cX5_as 23 = .ok (.goto 4, 3) := by decide +kernel
theorem dX5_as_26 : decode cX5_as 26 = .ok (.lload_n 3, 1) := by decide +kernel
theorem dX5_as_27 : decode cX5_as 27 = .ok (.lreturn, 1) := by decide +kernel
theorem dX5_as_28 : decode cX5_as 28 = .ok (.iload_n 0, 1) := by decide +kernel
theorem dX5_as_29 : decode cX5_as 29 = .ok (.iconst 1, 1) := by decide +kernel
theorem dX5_as_30 : decode cX5_as 30 = .ok (.if_icmp .eq 8, 3) := by decide +kernel
theorem dX5_as_33 : decode cX5_as 33 = .ok (.iload_n 0, 1) := by decide +kernel
theorem dX5_as_34 : decode cX5_as 34 = .ok (.iconst 4, 1) := by decide +kernel
theorem dX5_as_35 : decode cX5_as 35 = .ok (.if_icmp .ne 9, 3) := by decide +kernel
theorem dX5_as_38 : decode cX5_as 38 = .ok (.lload_n 1, 1) := by decide +kernel
theorem dX5_as_39 : decode cX5_as 39 = .ok (.l2i, 1) := by decide +kernel
theorem dX5_as_40 : decode cX5_as 40 = .ok (.i2l, 1) := by decide +kernel
theorem dX5_as_41 : decode cX5_as 41 = .ok (.goto 4, 3) := by decide +kernel
theorem dX5_as_44 : decode cX5_as 44 = .ok (.lload_n 1, 1) := by decide +kernel
theorem dX5_as_45 : decode cX5_as 45 = .ok (.lreturn, 1) := by decide +kernel
theorem dX5_isArray_0 : decode cX5_isArray 0 = .ok (.iload_n 1, 1) := by decide +kernel
theorem dX5_isArray_1 : decode cX5_isArray 1 = .ok (.i2l, 1) := by decide +kernel
theorem dX5_isArray_2 : decode cX5_isArray 2 = .ok (.lconst 0, 1) := by decide +kernel
theorem dX5_isArray_3 : decode cX5_isArray 3 = .ok (.aload_n 0, 1) := by decide +kernel
theorem dX5_isArray_4 : decode cX5_isArray 4 = .ok (.getfield 98, 3) := by decide +kernel
theorem dX5_isArray_7 : decode cX5_isArray 7 = .ok (.iconst 1, 1) := by decide +kernel
theorem dX5_isArray_8 : decode cX5_isArray 8 = .ok (.isub, 1) := by decide +kernel
theorem dX5_isArray_9 : decode cX5_isArray 9 = .ok (.i2l, 1) := by decide +kernel
theorem dX5_isArray_10 : decode cX5_isArray 10 = .ok (.invokestatic 101, 3) := by decide +kernel
theorem dX5_isArray_13 : decode cX5_isArray 13 = .ok (.ireturn, 1) := by decide +kernel
theorem dX5_newArray_0 : decode cX5_newArray 0 = .ok (.aload_n 0, 1) := by decide +kernel
theorem dX5_newArray_1 : decode cX5_newArray 1 = .ok (.getfield 20, 3) := by decide +kernel
theorem dX5_newArray_4 : decode cX5_newArray 4 = .ok (.aload_n 0, 1) := by decide +kernel
theorem dX5_newArray_5 : decode cX5_newArray 5 = .ok (.getfield 98, 3) := by decide +kernel
theorem dX5_newArray_8 : decode cX5_newArray 8 = .ok (.iload_n 1, 1) := by decide +kernel
theorem dX5_newArray_9 : decode cX5_newArray 9 = .ok (.iastore, 1) := by decide +kernel
theorem dX5_newArray_10 : decode cX5_newArray 10 = .ok (.aload_n 0, 1) := by decide +kernel
theorem dX5_newArray_11 : decode cX5_newArray 11 = .ok (.getfield 23, 3) := by decide +kernel
theorem dX5_newArray_14 : decode cX5_newArray 14 = .ok (.aload_n 0, 1) := by decide +kernel
theorem dX5_newArray_15 : decode cX5_newArray 15 = .ok (.getfield 98, 3) := by decide +kernel
theorem dX5_newArray_18 : decode cX5_newArray 18 = .ok (.iload_n 2, 1) := by decide +kernel
theorem dX5_newArray_19 : decode cX5_newArray 19 = .ok (.iconst (-1), 1) := by decide +kernel
theorem dX5_newArray_20 : decode cX5_newArray 20 = .ok (.if_icmp .ne 10, 3) := by decide +kernel
theorem dX5_newArray_23 : decode cX5_newArray 23 = .ok (.aload_n 0, 1) := by decide +kernel
theorem dX5_newArray_24 : decode cX5_newArray 24 = .ok (.getfield 72, 3) := by decide +kernel
theorem dX5_newArray_27 : decode cX5_newArray 27 = .ok (.goto 9, 3) := by decide +kernel
theorem dX5_newArray_30 : decode cX5_newArray 30 = .ok (.aload_n 0, 1) := by decide +kernel
theorem dX5_newArray_31 : decode cX5_newArray 31 = .ok (.getfield 23, 3) := by decide +kernel
theorem dX5_newArray_34 : decode cX5_newArray 34 = .ok (.iload_n 2, 1) := by decide +kernel
theorem dX5_newArray_35 : decode cX5_newArray 35 = .ok (.iaload, 1) := by decide +kernel
theorem dX5_newArray_36 : decode cX5_newArray 36 = .ok (.iastore, 1) := by decide +kernel
theorem dX5_newArray_37 : decode cX5_newArray 37 = .ok (.iconst 0, 1) := by decide +kernel
theorem dX5_newArray_38 : decode cX5_newArray 38 = .ok (.istore_n 3, 1) := by decide +kernel
theorem dX5_newArray_39 : decode cX5_newArray 39 = .ok (.iload_n 3, 1) := by decide +kernel
theorem dX5_newArray_40 : decode cX5_newArray 40 = .ok (.iconst 3, 1) := by decide +kernel
theorem dX5_newArray_41 : decode cX5_newArray 41 = .ok (.if_icmp .ge 83, 3) := by decide +kernel
theorem dX5_newArray_44 : decode cX5_newArray 44 = .ok (.aload_n 0, 1) := by decide +kernel
theorem dX5_newArray_45 : decode cX5_newArray 45 = .ok (.getfield 26, 3) := by decide +kernel
theorem dX5_newArray_48 : decode cX5_newArray 48 = .ok (.iconst 3, 1) := by decide +kernel
theorem dX5_newArray_49 : decode cX5_newArray 49 = .ok (.aload_n 0, 1) := by decide +kernel
theorem dX5_newArray_50 : decode cX5_newArray 50 = .ok (.getfield 98, 3) := by decide +kernel
theorem dX5_newArray_53 : decode cX5_newArray 53 = .ok (.imul, 1) := by decide +kernel
theorem dX5_newArray_54 : decode cX5_newArray 54 = .ok (.iload_n 3, 1) := by decide +kernel
theorem dX5_newArray_55 : decode cX5_newArray 55 = .ok (.iadd, 1) := by decide +kernel
theorem dX5_newArray_56 : decode cX5_newArray 56 = .ok (.iload_n 2, 1) := by decide +kernel
theorem dX5_newArray_57 : decode cX5_newArray 57 = .ok (.iconst (-1), 1) := by decide +kernel
theorem dX5_newArray_58 : decode cX5_newArray 58 = .ok (.if_icmp .ne 12, 3) := by decide +kernel
theorem dX5_newArray_61 : decode cX5_newArray 61 = .ok (.aload_n 0, 1) := by decide +kernel
theorem dX5_newArray_62 : decode cX5_newArray 62 = .ok (.getfield 13, 3) := by decide +kernel
theorem dX5_newArray_65 : decode cX5_newArray 65 = .ok (.iload_n 3, 1) := by decide +kernel
theorem dX5_newArray_66 : decode cX5_newArray 66 = .ok (.iaload, 1) := by decide +kernel
theorem dX5_newArray_67 : decode cX5_newArray 67 = .ok (.goto 13, 3) := by decide +kernel
theorem dX5_newArray_70 : decode cX5_newArray 70 = .ok (.aload_n 0, 1) := by decide +kernel
theorem dX5_newArray_71 : decode cX5_newArray 71 = .ok (.getfield 26, 3) := by decide +kernel
theorem dX5_newArray_74 : decode cX5_newArray 74 = .ok (.iconst 3, 1) := by decide +kernel
theorem dX5_newArray_75 : decode cX5_newArray 75 = .ok (.iload_n 2, 1) := by decide +kernel
theorem dX5_newArray_76 : decode cX5_newArray 76 = .ok (.imul, 1) := by decide +kernel
theorem dX5_newArray_77 : decode cX5_newArray 77 = .ok (.iload_n 3, 1) := by decide +kernel
theorem dX5_newArray_78 : decode cX5_newArray 78 = .ok (.iadd, 1) := by decide +kernel
theorem dX5_newArray_79 : decode cX5_newArray 79 = .ok (.iaload, 1) := by decide +kernel
theorem dX5_newArray_80 : decode cX5_newArray 80 = .ok (.iastore, 1) := by decide +kernel
theorem dX5_newArray_81 : decode cX5_newArray 81 = .ok (.aload_n 0, 1) := by decide +kernel
theorem dX5_newArray_82 : decode cX5_newArray 82 = .ok (.getfield 29, 3) := by decide +kernel
theorem dX5_newArray_85 : decode cX5_newArray 85 = .ok (.iconst 3, 1) := by decide +kernel
theorem dX5_newArray_86 : decode cX5_newArray 86 = .ok (.aload_n 0, 1) := by decide +kernel
theorem dX5_newArray_87 : decode cX5_newArray 87 = .ok (.getfield 98, 3) := by decide +kernel
theorem dX5_newArray_90 : decode cX5_newArray 90 = .ok (.imul, 1) := by decide +kernel
theorem dX5_newArray_91 : decode cX5_newArray 91 = .ok (.iload_n 3, 1) := by decide +kernel
theorem dX5_newArray_92 : decode cX5_newArray 92 = .ok (.iadd, 1) := by decide +kernel
theorem dX5_newArray_93 : decode cX5_newArray 93 = .ok (.iload_n 2, 1) := by decide +kernel
theorem dX5_newArray_94 : decode cX5_newArray 94 = .ok (.iconst (-1), 1) := by decide +kernel
theorem dX5_newArray_95 : decode cX5_newArray 95 = .ok (.if_icmp .ne 12, 3) := by decide +kernel
theorem dX5_newArray_98 : decode cX5_newArray 98 = .ok (.aload_n 0, 1) := by decide +kernel
theorem dX5_newArray_99 : decode cX5_newArray 99 = .ok (.getfield 17, 3) := by decide +kernel
theorem dX5_newArray_102 : decode cX5_newArray 102 = .ok (.iload_n 3, 1) := by decide +kernel
theorem dX5_newArray_103 : decode cX5_newArray 103 = .ok (.iaload, 1) := by decide +kernel
theorem dX5_newArray_104 : decode cX5_newArray 104 = .ok (.goto 13, 3) := by decide +kernel
theorem dX5_newArray_107 : decode cX5_newArray 107 = .ok (.aload_n 0, 1) := by decide +kernel
theorem dX5_newArray_108 : decode cX5_newArray 108 = .ok (.getfield 29, 3) := by decide +kernel
theorem dX5_newArray_111 : decode cX5_newArray 111 = .ok (.iconst 3, 1) := by decide +kernel
theorem dX5_newArray_112 : decode cX5_newArray 112 = .ok (.iload_n 2, 1) := by decide +kernel
theorem dX5_newArray_113 : decode cX5_newArray 113 = .ok (.imul, 1) := by decide +kernel
theorem dX5_newArray_114 : decode cX5_newArray 114 = .ok (.iload_n 3, 1) := by decide +kernel
theorem dX5_newArray_115 : decode cX5_newArray 115 = .ok (.iadd, 1) := by decide +kernel
theorem dX5_newArray_116 : decode cX5_newArray 116 = .ok (.iaload, 1) := by decide +kernel
theorem dX5_newArray_117 : decode cX5_newArray 117 = .ok (.iastore, 1) := by decide +kernel
theorem dX5_newArray_118 : decode cX5_newArray 118 = .ok (.iinc 3 1, 3) := by decide +kernel
theorem dX5_newArray_121 : decode cX5_newArray 121 = .ok (.goto (-82), 3) := by decide +kernel
theorem dX5_newArray_124 : decode cX5_newArray 124 = .ok (.aload_n 0, 1) := by decide +kernel
theorem dX5_newArray_125 : decode cX5_newArray 125 = .ok (.dup, 1) := by decide +kernel
theorem dX5_newArray_126 : decode cX5_newArray 126 = .ok (.getfield 98, 3) := by decide +kernel
theorem dX5_newArray_129 : decode cX5_newArray 129 = .ok (.iconst 1, 1) := by decide +kernel
theorem dX5_newArray_130 : decode cX5_newArray 130 = .ok (.iadd, 1) := by decide +kernel
theorem dX5_newArray_131 : decode cX5_newArray 131 = .ok (.putfield 98, 3) := by decide +kernel
theorem dX5_newArray_134 : decode cX5_newArray 134 = .ok (.aload_n 0, 1) := by decide +kernel
theorem dX5_newArray_135 : decode cX5_newArray 135 = .ok (.getfield 98, 3) := by decide +kernel
theorem dX5_newArray_138 : decode cX5_newArray 138 = .ok (.iconst 1, 1) := by decide +kernel
theorem dX5_newArray_139 : decode cX5_newArray 139 = .ok (.isub, 1) := by decide +kernel
theorem dX5_newArray_140 : decode cX5_newArray 140 = .ok (.ireturn, 1) := by decide +kernel
theorem dX5_newTable_0 : decode cX5_newTable 0 = .ok (.aload_n 0, 1) := by decide +kernel
theorem dX5_newTable_1 : decode cX5_newTable 1 = .ok (.getfield 32, 3) := by decide +kernel
theorem dX5_newTable_4 : decode cX5_newTable 4 = .ok (.iload_n 1, 1) := by decide +kernel
theorem dX5_newTable_5 : decode cX5_newTable 5 = .ok (.aload_n 0, 1) := by decide +kernel
theorem dX5_newTable_6 : decode cX5_newTable 6 = .ok (.getfield 105, 3) := by decide +kernel
theorem dX5_newTable_9 : decode cX5_newTable 9 = .ok (.iastore, 1) := by decide +kernel
theorem dX5_newTable_10 : decode cX5_newTable 10 = .ok (.aload_n 0, 1) := by decide +kernel
theorem dX5_newTable_11 : decode cX5_newTable 11 = .ok (.iload_n 1, 1) := by decide +kernel
theorem dX5_newTable_12 : decode cX5_newTable 12 = .ok (.iconst 0, 1) := by decide +kernel
theorem dX5_newTable_13 : decode cX5_newTable 13 = .ok (.invokevirtual 108, 3) := by decide +kernel
theorem dX5_newTable_16 : decode cX5_newTable 16 = .ok (.l2i, 1) := by decide +kernel
theorem dX5_newTable_17 : decode cX5_newTable 17 = .ok (.istore_n 2, 1) := by decide +kernel
theorem dX5_newTable_18 : decode cX5_newTable 18 = .ok (.iload_n 2, 1) := by decide +kernel
theorem dX5_newTable_19 : decode cX5_newTable 19 = .ok (.ifCond .ne 7, 3) := by decide +kernel
theorem dX5_newTable_22 : decode cX5_newTable 22 = .ok (.lconst 0, 1) := by decide +kernel
theorem dX5_newTable_23 : decode cX5_newTable 23 = .ok (.goto 9, 3) := by decide +kernel
theorem dX5_newTable_26 : decode cX5_newTable 26 = .ok (.aload_n 0, 1) := by decide +kernel
theorem dX5_newTable_27 : decode cX5_newTable 27 = .ok (.iload_n 1, 1) := by decide +kernel
theorem dX5_newTable_28 : decode cX5_newTable 28 = .ok (.iconst 1, 1) := by decide +kernel
theorem dX5_newTable_29 : decode cX5_newTable 29 = .ok (.invokevirtual 108, 3) := by decide +kernel
theorem dX5_newTable_32 : decode cX5_newTable 32 = .ok (.l2i, 1) := by decide +kernel
theorem dX5_newTable_33 : decode cX5_newTable 33 = .ok (.istore_n 3, 1) := by decide +kernel
theorem dX5_newTable_34 : decode cX5_newTable 34 = .ok (.iconst 0, 1) := by decide +kernel
theorem dX5_newTable_35 : decode cX5_newTable 35 = .ok (.istore 4, 2) := by decide +kernel
theorem dX5_newTable_37 : decode cX5_newTable 37 = .ok (.iload 4, 2) := by decide +kernel
theorem dX5_newTable_39 : decode cX5_newTable 39 = .ok (.iload_n 2, 1) := by decide +kernel
theorem dX5_newTable_40 : decode cX5_newTable 40 = .ok (.if_icmp .ge 33, 3) := by decide +kernel
theorem dX5_newTable_43 : decode cX5_newTable 43 = .ok (.aload_n 0, 1) := by decide +kernel
theorem dX5_newTable_44 : decode cX5_newTable 44 = .ok (.getfield 50, 3) := by decide +kernel
theorem dX5_newTable_47 : decode cX5_newTable 47 = .ok (.aload_n 0, 1) := by decide +kernel
theorem dX5_newTable_48 : decode cX5_newTable 48 = .ok (.getfield 105, 3) := by decide +kernel
theorem dX5_newTable_51 : decode cX5_newTable 51 = .ok (.aload_n 0, 1) := by decide +kernel
theorem dX5_newTable_52 : decode cX5_newTable 52 = .ok (.iload_n 3, 1) := by decide +kernel
theorem dX5_newTable_53 : decode cX5_newTable 53 = .ok (.invokevirtual 111, 3) := by decide +kernel
theorem dX5_newTable_56 : decode cX5_newTable 56 = .ok (.iastore, 1) := by decide +kernel
theorem dX5_newTable_57 : decode cX5_newTable 57 = .ok (.aload_n 0, 1) := by decide +kernel
theorem dX5_newTable_58 : decode cX5_newTable 58 = .ok (.dup, 1) := by decide +kernel
theorem dX5_newTable_59 : decode cX5_newTable 59 = .ok (.getfield 105, 3) := by decide +kernel
theorem dX5_newTable_62 : decode cX5_newTable 62 = .ok (.iconst 1, 1) := by decide +kernel
theorem dX5_newTable_63 : decode cX5_newTable 63 = .ok (.iadd, 1) := by decide +kernel
theorem dX5_newTable_64 : decode cX5_newTable 64 = .ok (.putfield 105, 3) := by decide +kernel
theorem dX5_newTable_67 : decode cX5_newTable 67 = .ok (.iinc 4 1, 3) := by decide +kernel
theorem dX5_newTable_70 : decode cX5_newTable 70 = .ok (.goto (-33), 3) := by decide +kernel
theorem dX5_newTable_73 : decode cX5_newTable 73 = .ok (.return_, 1) := by decide +kernel
theorem dX5_make_0 : decode cX5_make 0 = .ok (.iload_n 1, 1) := by decide +kernel
theorem dX5_make_1 : decode cX5_make 1 = .ok (.i2l, 1) := by decide +kernel
theorem dX5_make_2 : decode cX5_make 2 = .ok (.lconst 0, 1) := by decide +kernel
theorem dX5_make_3 : decode cX5_make 3 = .ok (.ldc2_w 114, 3) := by decide +kernel
theorem dX5_make_6 : decode cX5_make 6 = .ok (.invokestatic 101, 3) := by decide +kernel
theorem dX5_make_9 : decode cX5_make 9 = .ok (.ifCond .ne 6, 3) := by decide +kernel
theorem dX5_make_12 : decode cX5_make 12 = .ok (.ldc 116, 2) := by decide +kernel
theorem dX5_make_14 : decode cX5_make 14 = .ok (.ireturn, 1) := by decide +kernel
theorem dX5_make_15 : decode cX5_make 15 = .ok (.aload_n 0, 1) := by decide +kernel
theorem dX5_make_16 : decode cX5_make 16 = .ok (.getfield 72, 3) := by decide +kernel
theorem dX5_make_19 : decode cX5_make 19 = .ok (.ifCond .eq 16, 3) := by decide +kernel
theorem dX5_make_22 : decode cX5_make 22 = .ok (.iload_n 1, 1) := by decide +kernel
theorem dX5_make_23 : decode cX5_make 23 = .ok (.iconst 4, 1) := by decide +kernel
theorem dX5_make_24 : decode cX5_make 24 = .ok (.if_icmp .ne 18, 3) := by decide +kernel
theorem dX5_make_27 : decode cX5_make 27 = .ok (.aload_n 0, 1) := by decide +kernel
theorem dX5_make_28 : decode cX5_make 28 = .ok (.getfield 72, 3) := by decide +kernel
theorem dX5_make_31 : decode cX5_make 31 = .ok (.iconst 2, 1) := by decide +kernel
theorem dX5_make_32 : decode cX5_make 32 = .ok (.if_icmp .eq 10, 3) := by decide +kernel
theorem dX5_make_35 : decode cX5_make 35 = .ok (.aload_n 0, 1) := by decide +kernel
theorem dX5_make_36 : decode cX5_make 36 = .ok (.bipush 9, 2) := by decide +kernel
theorem dX5_make_38 : decode cX5_make 38 = .ok (.invokevirtual 68, 3) := by decide +kernel
theorem dX5_make_41 : decode cX5_make 41 = .ok (.ireturn, 1) := by decide +kernel
theorem dX5_make_42 : decode cX5_make 42 = .ok (.aload_n 0, 1) := by decide +kernel
theorem dX5_make_43 : decode cX5_make 43 = .ok (.invokevirtual 117, 3) := by decide +kernel
theorem dX5_make_46 : decode cX5_make 46 = .ok (.istore_n 2, 1) := by decide +kernel
theorem dX5_make_47 : decode cX5_make 47 = .ok (.iload_n 2, 1) := by decide +kernel
theorem dX5_make_48 : decode cX5_make 48 = .ok (.sipush 500, 3) := by decide +kernel
theorem dX5_make_51 : decode cX5_make 51 = .ok (.if_icmp .gt 30, 3) := by decide +kernel
theorem dX5_make_54 : decode cX5_make 54 = .ok (.iload_n 1, 1) := by decide +kernel
theorem dX5_make_55 : decode cX5_make 55 = .ok (.iconst 4, 1) := by decide +kernel
theorem dX5_make_56 : decode cX5_make 56 = .ok (.if_icmp .ne 31, 3) := by decide +kernel
theorem dX5_make_59 : decode cX5_make 59 = .ok (.aload_n 0, 1) := by decide +kernel
theorem dX5_make_60 : decode cX5_make 60 = .ok (.getfield 13, 3) := by decide +kernel
theorem dX5_make_63 : decode cX5_make 63 = .ok (.iconst 0, 1) := by decide +kernel
theorem dX5_make_64 : decode cX5_make 64 = .ok (.iaload, 1) := by decide +kernel
theorem dX5_make_65 : decode cX5_make 65 = .ok (.aload_n 0, 1) := by decide +kernel
theorem dX5_make_66 : decode cX5_make 66 = .ok (.getfield 17, 3) := by decide +kernel
theorem dX5_make_69 : decode cX5_make 69 = .ok (.iconst 0, 1) := by decide +kernel
theorem dX5_make_70 : decode cX5_make 70 = .ok (.iaload, 1) := by decide +kernel
theorem dX5_make_71 : decode cX5_make 71 = .ok (.invokestatic 78, 3) := by decide +kernel
theorem dX5_make_74 : decode cX5_make 74 = .ok (.ldc2_w 82, 3) := by decide +kernel
theorem dX5_make_77 : decode cX5_make 77 = .ok (.lcmp, 1) := by decide +kernel
theorem dX5_make_78 : decode cX5_make 78 = .ok (.ifCond .le 9, 3) := by decide +kernel
theorem dX5_make_81 : decode cX5_make 81 = .ok (.aload_n 0, 1) := by decide +kernel
theorem dX5_make_82 : decode cX5_make 82 = .ok (.iconst 5, 1) := by decide +kernel
theorem dX5_make_83 : decode cX5_make 83 = .ok (.invokevirtual 68, 3) := by decide +kernel
theorem dX5_make_86 : decode cX5_make 86 = .ok (.ireturn, 1) := by decide +kernel
theorem dX5_make_87 : decode cX5_make 87 = .ok (.aload_n 0, 1) := by decide +kernel
theorem dX5_make_88 : decode cX5_make 88 = .ok (.getfield 98, 3) := by decide +kernel
theorem dX5_make_91 : decode cX5_make 91 = .ok (.bipush 24, 2) := by decide +kernel
theorem dX5_make_93 : decode cX5_make 93 = .ok (.if_icmp .ne 10, 3) := by decide +kernel
theorem dX5_make_96 : decode cX5_make 96 = .ok (.aload_n 0, 1) := by decide +kernel
theorem dX5_make_97 : decode cX5_make 97 = .ok (.bipush 8, 2) := by decide +kernel
theorem dX5_make_99 : decode cX5_make 99 = .ok (.invokevirtual 68, 3) := by decide +kernel
theorem dX5_make_102 : decode cX5_make 102 = .ok (.ireturn, 1) := by decide +kernel
theorem dX5_make_103 : decode cX5_make 103 = .ok (.aload_n 0, 1) := by decide +kernel
theorem dX5_make_104 : decode cX5_make 104 = .ok (.iload_n 1, 1) := by decide +kernel
theorem dX5_make_105 : decode cX5_make 105 = .ok (.iconst (-1), 1) := by decide +kernel
theorem dX5_make_106 : decode cX5_make 106 = .ok (.invokevirtual 121, 3) := by decide +kernel
theorem dX5_make_109 : decode cX5_make 109 = .ok (.istore_n 3, 1) := by decide +kernel
theorem dX5_make_110 : decode cX5_make 110 = .ok (.iload_n 1, 1) := by decide +kernel
theorem dX5_make_111 : decode cX5_make 111 = .ok (.iconst 4, 1) := by decide +kernel
theorem dX5_make_112 : decode cX5_make 112 = .ok (.if_icmp .ne 11, 3) := by decide +kernel
theorem dX5_make_115 : decode cX5_make 115 = .ok (.aload_n 0, 1) := by decide +kernel
theorem dX5_make_116 : decode cX5_make 116 = .ok (.iload_n 3, 1) := by decide +kernel
theorem dX5_make_117 : decode cX5_make 117 = .ok (.invokevirtual 125, 3) := by decide +kernel
theorem dX5_make_120 : decode cX5_make 120 = .ok (.goto 14, 3) := by decide +kernel
theorem dX5_make_123 : decode cX5_make 123 = .ok (.aload_n 0, 1) := by decide +kernel
theorem dX5_make_124 : decode cX5_make 124 = .ok (.getfield 32, 3) := by decide +kernel
theorem dX5_make_127 : decode cX5_make 127 = .ok (.iload_n 3, 1) := by decide +kernel
theorem dX5_make_128 : decode cX5_make 128 = .ok (.aload_n 0, 1) := by decide +kernel
theorem dX5_make_129 : decode cX5_make 129 = .ok (.iload_n 2, 1) := by decide +kernel
theorem dX5_make_130 : decode cX5_make 130 = .ok (.invokevirtual 111, 3) := by decide +kernel
theorem dX5_make_133 : decode cX5_make 133 = .ok (.iastore, 1) := by decide +kernel
theorem dX5_make_134 : decode cX5_make 134 = .ok (.aload_n 0, 1) := by decide +kernel
theorem dX5_make_135 : decode cX5_make 135 = .ok (.iconst 0, 1) := by decide +kernel
theorem dX5_make_136 : decode cX5_make 136 = .ok (.putfield 72, 3) := by decide +kernel
theorem dX5_make_139 : decode cX5_make 139 = .ok (.aload_n 0, 1) := by decide +kernel
theorem dX5_make_140 : decode cX5_make 140 = .ok (.iload_n 3, 1) := by decide +kernel
theorem dX5_make_141 : decode cX5_make 141 = .ok (.invokevirtual 75, 3) := by decide +kernel
theorem dX5_make_144 : decode cX5_make 144 = .ok (.ireturn, 1) := by decide +kernel
theorem dX5_raw_0 : decode cX5_raw 0 = .ok (.iload_n 1, 1) := by decide +kernel
theorem dX5_raw_1 : decode cX5_raw 1 = .ok (.i2l, 1) := by decide +kernel
theorem dX5_raw_2 : decode cX5_raw 2 = .ok (.lconst 0, 1) := by decide +kernel
theorem dX5_raw_3 : decode cX5_raw 3 = .ok (.ldc2_w 129, 3) := by decide +kernel
theorem dX5_raw_6 : decode cX5_raw 6 = .ok (.invokestatic 101, 3) := by decide +kernel
theorem dX5_raw_9 : decode cX5_raw 9 = .ok (.ifCond .ne 6, 3) := by decide +kernel
theorem dX5_raw_12 : decode cX5_raw 12 = .ok (.ldc 116, 2) := by decide +kernel
theorem dX5_raw_14 : decode cX5_raw 14 = .ok (.ireturn, 1) := by decide +kernel
theorem dX5_raw_15 : decode cX5_raw 15 = .ok (.iload_n 2, 1) := by decide +kernel
theorem dX5_raw_16 : decode cX5_raw 16 = .ok (.ifCond .ge 9, 3) := by decide +kernel
theorem dX5_raw_19 : decode cX5_raw 19 = .ok (.aload_n 0, 1) := by decide +kernel
theorem dX5_raw_20 : decode cX5_raw 20 = .ok (.iconst 4, 1) := by decide +kernel
theorem dX5_raw_21 : decode cX5_raw 21 = .ok (.invokevirtual 68, 3) := by decide +kernel
theorem dX5_raw_24 : decode cX5_raw 24 = .ok (.ireturn, 1) := by decide +kernel
theorem dX5_raw_25 : decode cX5_raw 25 = .ok (.iload_n 2, 1) := by decide +kernel
theorem dX5_raw_26 : decode cX5_raw 26 = .ok (.sipush 500, 3) := by decide +kernel
theorem dX5_raw_29 : decode cX5_raw 29 = .ok (.if_icmp .le 9, 3) := by decide +kernel
theorem dX5_raw_32 : decode cX5_raw 32 = .ok (.aload_n 0, 1) := by decide +kernel
theorem dX5_raw_33 : decode cX5_raw 33 = .ok (.iconst 5, 1) := by decide +kernel
theorem dX5_raw_34 : decode cX5_raw 34 = .ok (.invokevirtual 68, 3) := by decide +kernel
theorem dX5_raw_37 : decode cX5_raw 37 = .ok (.ireturn, 1) := by decide +kernel
theorem dX5_raw_38 : decode cX5_raw 38 = .ok (.aload_n 0, 1) := by decide +kernel
theorem dX5_raw_39 : decode cX5_raw 39 = .ok (.getfield 98, 3) := by decide +kernel
theorem dX5_raw_42 : decode cX5_raw 42 = .ok (.bipush 24, 2) := by decide +kernel
theorem dX5_raw_44 : decode cX5_raw 44 = .ok (.if_icmp .ne 10, 3) := by decide +kernel
theorem dX5_raw_47 : decode cX5_raw 47 = .ok (.aload_n 0, 1) := by decide +kernel
theorem dX5_raw_48 : decode cX5_raw 48 = .ok (.bipush 8, 2) := by decide +kernel
theorem dX5_raw_50 : decode cX5_raw 50 = .ok (.invokevirtual 68, 3) := by decide +kernel
theorem dX5_raw_53 : decode cX5_raw 53 = .ok (.ireturn, 1) := by decide +kernel
theorem dX5_raw_54 : decode cX5_raw 54 = .ok (.aload_n 0, 1) := by decide +kernel
theorem dX5_raw_55 : decode cX5_raw 55 = .ok (.getfield 20, 3) := by decide +kernel
theorem dX5_raw_58 : decode cX5_raw 58 = .ok (.aload_n 0, 1) := by decide +kernel
theorem dX5_raw_59 : decode cX5_raw 59 = .ok (.getfield 98, 3) := by decide +kernel
theorem dX5_raw_62 : decode cX5_raw 62 = .ok (.iload_n 1, 1) := by decide +kernel
theorem dX5_raw_63 : decode cX5_raw 63 = .ok (.iastore, 1) := by decide +kernel
theorem dX5_raw_64 : decode cX5_raw 64 = .ok (.aload_n 0, 1) := by decide +kernel
theorem dX5_raw_65 : decode cX5_raw 65 = .ok (.getfield 23, 3) := by decide +kernel
theorem dX5_raw_68 : decode cX5_raw 68 = .ok (.aload_n 0, 1) := by decide +kernel
theorem dX5_raw_69 : decode cX5_raw 69 = .ok (.getfield 98, 3) := by decide +kernel
theorem dX5_raw_72 : decode cX5_raw 72 = .ok (.iconst 1, 1) := by decide +kernel
theorem dX5_raw_73 : decode cX5_raw 73 = .ok (.iastore, 1) := by decide +kernel
theorem dX5_raw_74 : decode cX5_raw 74 = .ok (.aload_n 0, 1) := by decide +kernel
theorem dX5_raw_75 : decode cX5_raw 75 = .ok (.getfield 26, 3) := by decide +kernel
theorem dX5_raw_78 : decode cX5_raw 78 = .ok (.iconst 3, 1) := by decide +kernel
theorem dX5_raw_79 : decode cX5_raw 79 = .ok (.aload_n 0, 1) := by decide +kernel
theorem dX5_raw_80 : decode cX5_raw 80 = .ok (.getfield 98, 3) := by decide +kernel
theorem dX5_raw_83 : decode cX5_raw 83 = .ok (.imul, 1) := by decide +kernel
theorem dX5_raw_84 : decode cX5_raw 84 = .ok (.iconst 0, 1) := by decide +kernel
theorem dX5_raw_85 : decode cX5_raw 85 = .ok (.iastore, 1) := by decide +kernel
theorem dX5_raw_86 : decode cX5_raw 86 = .ok (.aload_n 0, 1) := by decide +kernel
theorem dX5_raw_87 : decode cX5_raw 87 = .ok (.getfield 29, 3) := by decide +kernel
theorem dX5_raw_90 : decode cX5_raw 90 = .ok (.iconst 3, 1) := by decide +kernel
theorem dX5_raw_91 : decode cX5_raw 91 = .ok (.aload_n 0, 1) := by decide +kernel
theorem dX5_raw_92 : decode cX5_raw 92 = .ok (.getfield 98, 3) := by decide +kernel
theorem dX5_raw_95 : decode cX5_raw 95 = .ok (.imul, 1) := by decide +kernel
theorem dX5_raw_96 : decode cX5_raw 96 = .ok (.iload_n 2, 1) := by decide +kernel
theorem dX5_raw_97 : decode cX5_raw 97 = .ok (.iconst 1, 1) := by decide +kernel
theorem dX5_raw_98 : decode cX5_raw 98 = .ok (.isub, 1) := by decide +kernel
theorem dX5_raw_99 : decode cX5_raw 99 = .ok (.iastore, 1) := by decide +kernel
theorem dX5_raw_100 : decode cX5_raw 100 = .ok (.aload_n 0, 1) := by decide +kernel
theorem dX5_raw_101 : decode cX5_raw 101 = .ok (.getfield 32, 3) := by decide +kernel
theorem dX5_raw_104 : decode cX5_raw 104 = .ok (.aload_n 0, 1) := by decide +kernel
theorem dX5_raw_105 : decode cX5_raw 105 = .ok (.getfield 98, 3) := by decide +kernel
theorem dX5_raw_108 : decode cX5_raw 108 = .ok (.aload_n 0, 1) := by decide +kernel
theorem dX5_raw_109 : decode cX5_raw 109 = .ok (.iload_n 2, 1) := by decide +kernel
theorem dX5_raw_110 : decode cX5_raw 110 = .ok (.invokevirtual 111, 3) := by decide +kernel
theorem dX5_raw_113 : decode cX5_raw 113 = .ok (.iastore, 1) := by decide +kernel
theorem dX5_raw_114 : decode cX5_raw 114 = .ok (.aload_n 0, 1) := by decide +kernel
theorem dX5_raw_115 : decode cX5_raw 115 = .ok (.dup, 1) := by decide +kernel
theorem dX5_raw_116 : decode cX5_raw 116 = .ok (.getfield 98, 3) := by decide +kernel
theorem dX5_raw_119 : decode cX5_raw 119 = .ok (.iconst 1, 1) := by decide +kernel
theorem dX5_raw_120 : decode cX5_raw 120 = .ok (.iadd, 1) := by decide +kernel
theorem dX5_raw_121 : decode cX5_raw 121 = .ok (.putfield 98, 3) := by decide +kernel
theorem dX5_raw_124 : decode cX5_raw 124 = .ok (.aload_n 0, 1) := by decide +kernel
theorem dX5_raw_125 : decode cX5_raw 125 = .ok (.aload_n 0, 1) := by decide +kernel
theorem dX5_raw_126 : decode cX5_raw 126 = .ok (.getfield 98, 3) := by decide +kernel
theorem dX5_raw_129 : decode cX5_raw 129 = .ok (.iconst 1, 1) := by decide +kernel
theorem dX5_raw_130 : decode cX5_raw 130 = .ok (.isub, 1) := by decide +kernel
theorem dX5_raw_131 : decode cX5_raw 131 = .ok (.invokevirtual 75, 3) := by decide +kernel
theorem dX5_raw_134 : decode cX5_raw 134 = .ok (.ireturn, 1) := by decide +kernel
theorem dX5_wants_0 : decode cX5_wants 0 = .ok (.aload_n 0, 1) := by decide +kernel
theorem dX5_wants_1 : decode cX5_wants 1 = .ok (.iload_n 1, 1) := by decide +kernel
theorem dX5_wants_2 : decode cX5_wants 2 = .ok (.invokevirtual 131, 3) := by decide +kernel
theorem dX5_wants_5 : decode cX5_wants 5 = .ok (.ifCond .ne 8, 3) := by decide +kernel
theorem dX5_wants_8 : decode cX5_wants 8 = .ok (.bipush 7, 2) := by decide +kernel
theorem dX5_wants_10 : decode cX5_wants 10 = .ok (.goto 18, 3) := by decide +kernel
theorem dX5_wants_13 : decode cX5_wants 13 = .ok (.aload_n 0, 1) := by decide +kernel
theorem dX5_wants_14 : decode cX5_wants 14 = .ok (.getfield 20, 3) := by decide +kernel
theorem dX5_wants_17 : decode cX5_wants 17 = .ok (.iload_n 1, 1) := by decide +kernel
theorem dX5_wants_18 : decode cX5_wants 18 = .ok (.iaload, 1) := by decide +kernel
theorem dX5_wants_19 : decode cX5_wants 19 = .ok (.iconst 4, 1) := by decide +kernel
theorem dX5_wants_20 : decode cX5_wants 20 = .ok (.if_icmp .ne 7, 3) := by decide +kernel
theorem dX5_wants_23 : decode cX5_wants 23 = .ok (.iconst 2, 1) := by decide +kernel
theorem dX5_wants_24 : decode cX5_wants 24 = .ok (.goto 4, 3) := by decide +kernel
theorem dX5_wants_27 : decode cX5_wants 27 = .ok (.iconst 0, 1) := by decide +kernel
theorem dX5_wants_28 : decode cX5_wants 28 = .ok (.ireturn, 1) := by decide +kernel
theorem dX5_see_0 : decode cX5_see 0 = .ok (.aload_n 0, 1) := by decide +kernel
theorem dX5_see_1 : decode cX5_see 1 = .ok (.iload_n 1, 1) := by decide +kernel
theorem dX5_see_2 : decode cX5_see 2 = .ok (.invokevirtual 135, 3) := by decide +kernel
theorem dX5_see_5 : decode cX5_see 5 = .ok (.istore_n 2, 1) := by decide +kernel
theorem dX5_see_6 : decode cX5_see 6 = .ok (.iload_n 2, 1) := by decide +kernel
theorem dX5_see_7 : decode cX5_see 7 = .ok (.ifCond .ne 13, 3) := by decide +kernel
theorem dX5_see_10 : decode cX5_see 10 = .ok (.aload_n 0, 1) := by decide +kernel
theorem dX5_see_11 : decode cX5_see 11 = .ok (.getfield 72, 3) := by decide +kernel
theorem dX5_see_14 : decode cX5_see 14 = .ok (.ifCond .ne 6, 3) := by decide +kernel
theorem dX5_see_17 : decode cX5_see 17 = .ok (.bipush 9, 2) := by decide +kernel
theorem dX5_see_19 : decode cX5_see 19 = .ok (.istore_n 2, 1) := by decide +kernel
theorem dX5_see_20 : decode cX5_see 20 = .ok (.iload_n 2, 1) := by decide +kernel
theorem dX5_see_21 : decode cX5_see 21 = .ok (.ifCond .ne 24, 3) := by decide +kernel
theorem dX5_see_24 : decode cX5_see 24 = .ok (.aload_n 0, 1) := by decide +kernel
theorem dX5_see_25 : decode cX5_see 25 = .ok (.invokevirtual 117, 3) := by decide +kernel
theorem dX5_see_28 : decode cX5_see 28 = .ok (.aload_n 0, 1) := by decide +kernel
theorem dX5_see_29 : decode cX5_see 29 = .ok (.getfield 38, 3) := by decide +kernel
theorem dX5_see_32 : decode cX5_see 32 = .ok (.aload_n 0, 1) := by decide +kernel
theorem dX5_see_33 : decode cX5_see 33 = .ok (.getfield 32, 3) := by decide +kernel
theorem dX5_see_36 : decode cX5_see 36 = .ok (.iload_n 1, 1) := by decide +kernel
theorem dX5_see_37 : decode cX5_see 37 = .ok (.iaload, 1) := by decide +kernel
theorem dX5_see_38 : decode cX5_see 38 = .ok (.iaload, 1) := by decide +kernel
theorem dX5_see_39 : decode cX5_see 39 = .ok (.if_icmp .eq 6, 3) := by decide +kernel
theorem dX5_see_42 : decode cX5_see 42 = .ok (.bipush 10, 2) := by decide +kernel
theorem dX5_see_44 : decode cX5_see 44 = .ok (.istore_n 2, 1) := by decide +kernel
theorem dX5_see_45 : decode cX5_see 45 = .ok (.iload_n 2, 1) := by decide +kernel
theorem dX5_see_46 : decode cX5_see 46 = .ok (.ifCond .ne 15, 3) := by decide +kernel
theorem dX5_see_49 : decode cX5_see 49 = .ok (.aload_n 0, 1) := by decide +kernel
theorem dX5_see_50 : decode cX5_see 50 = .ok (.getfield 98, 3) := by decide +kernel
theorem dX5_see_53 : decode cX5_see 53 = .ok (.bipush 24, 2) := by decide +kernel
theorem dX5_see_55 : decode cX5_see 55 = .ok (.if_icmp .ne 6, 3) := by decide +kernel
theorem dX5_see_58 : decode cX5_see 58 = .ok (.bipush 8, 2) := by decide +kernel
theorem dX5_see_60 : decode cX5_see 60 = .ok (.istore_n 2, 1) := by decide +kernel
theorem dX5_see_61 : decode cX5_see 61 = .ok (.iload_n 2, 1) := by decide +kernel
theorem dX5_see_62 : decode cX5_see 62 = .ok (.ifCond .eq 9, 3) := by decide +kernel
theorem dX5_see_65 : decode cX5_see 65 = .ok (.aload_n 0, 1) := by decide +kernel
theorem dX5_see_66 : decode cX5_see 66 = .ok (.iload_n 2, 1) := by decide +kernel
theorem dX5_see_67 : decode cX5_see 67 = .ok (.invokevirtual 68, 3) := by decide +kernel
theorem dX5_see_70 : decode cX5_see 70 = .ok (.ireturn, 1) := by decide +kernel
theorem dX5_see_71 : decode cX5_see 71 = .ok (.aload_n 0, 1) := by decide +kernel
theorem dX5_see_72 : decode cX5_see 72 = .ok (.aload_n 0, 1) := by decide +kernel
theorem dX5_see_73 : decode cX5_see 73 = .ok (.getfield 20, 3) := by decide +kernel
theorem dX5_see_76 : decode cX5_see 76 = .ok (.iload_n 1, 1) := by decide +kernel
theorem dX5_see_77 : decode cX5_see 77 = .ok (.iaload, 1) := by decide +kernel
theorem dX5_see_78 : decode cX5_see 78 = .ok (.iconst (-1), 1) := by decide +kernel
theorem dX5_see_79 : decode cX5_see 79 = .ok (.invokevirtual 121, 3) := by decide +kernel
theorem dX5_see_82 : decode cX5_see 82 = .ok (.istore_n 3, 1) := by decide +kernel
theorem dX5_see_83 : decode cX5_see 83 = .ok (.aload_n 0, 1) := by decide +kernel
theorem dX5_see_84 : decode cX5_see 84 = .ok (.getfield 32, 3) := by decide +kernel
theorem dX5_see_87 : decode cX5_see 87 = .ok (.iload_n 3, 1) := by decide +kernel
theorem dX5_see_88 : decode cX5_see 88 = .ok (.aload_n 0, 1) := by decide +kernel
theorem dX5_see_89 : decode cX5_see 89 = .ok (.getfield 32, 3) := by decide +kernel
theorem dX5_see_92 : decode cX5_see 92 = .ok (.iload_n 1, 1) := by decide +kernel
theorem dX5_see_93 : decode cX5_see 93 = .ok (.iaload, 1) := by decide +kernel
theorem dX5_see_94 : decode cX5_see 94 = .ok (.iastore, 1) := by decide +kernel
theorem dX5_see_95 : decode cX5_see 95 = .ok (.aload_n 0, 1) := by decide +kernel
theorem dX5_see_96 : decode cX5_see 96 = .ok (.iconst 0, 1) := by decide +kernel
theorem dX5_see_97 : decode cX5_see 97 = .ok (.putfield 72, 3) := by decide +kernel
theorem dX5_see_100 : decode cX5_see 100 = .ok (.aload_n 0, 1) := by decide +kernel
theorem dX5_see_101 : decode cX5_see 101 = .ok (.iload_n 3, 1) := by decide +kernel
theorem dX5_see_102 : decode cX5_see 102 = .ok (.invokevirtual 75, 3) := by decide +kernel
theorem dX5_see_105 : decode cX5_see 105 = .ok (.ireturn, 1) := by decide +kernel
theorem dX5_copy_0 : decode cX5_copy 0 = .ok (.aload_n 0, 1) := by decide +kernel
theorem dX5_copy_1 : decode cX5_copy 1 = .ok (.getfield 42, 3) := by decide +kernel
theorem dX5_copy_4 : decode cX5_copy 4 = .ok (.iload_n 2, 1) := by decide +kernel
theorem dX5_copy_5 : decode cX5_copy 5 = .ok (.aload_n 0, 1) := by decide +kernel
theorem dX5_copy_6 : decode cX5_copy 6 = .ok (.getfield 42, 3) := by decide +kernel
theorem dX5_copy_9 : decode cX5_copy 9 = .ok (.iload_n 1, 1) := by decide +kernel
theorem dX5_copy_10 : decode cX5_copy 10 = .ok (.laload, 1) := by decide +kernel
theorem dX5_copy_11 : decode cX5_copy 11 = .ok (.lastore, 1) := by decide +kernel
theorem dX5_copy_12 : decode cX5_copy 12 = .ok (.aload_n 0, 1) := by decide +kernel
theorem dX5_copy_13 : decode cX5_copy 13 = .ok (.getfield 46, 3) := by decide +kernel
theorem dX5_copy_16 : decode cX5_copy 16 = .ok (.iload_n 2, 1) := by decide +kernel
theorem dX5_copy_17 : decode cX5_copy 17 = .ok (.aload_n 0, 1) := by decide +kernel
theorem dX5_copy_18 : decode cX5_copy 18 = .ok (.getfield 46, 3) := by decide +kernel
theorem dX5_copy_21 : decode cX5_copy 21 = .ok (.iload_n 1, 1) := by decide +kernel
theorem dX5_copy_22 : decode cX5_copy 22 = .ok (.baload, 1) := by decide +kernel
theorem dX5_copy_23 : decode cX5_copy 23 = .ok (.bastore, 1) := by decide +kernel
theorem dX5_copy_24 : decode cX5_copy 24 = .ok (.return_, 1) := by decide +kernel
theorem dX5_turn_0 : decode cX5_turn 0 = .ok (.aload_n 0, 1) := by decide +kernel
theorem dX5_turn_1 : decode cX5_turn 1 = .ok (.iload_n 1, 1) := by decide +kernel
theorem dX5_turn_2 : decode cX5_turn 2 = .ok (.invokevirtual 135, 3) := by decide +kernel
theorem dX5_turn_5 : decode cX5_turn 5 = .ok (.istore_n 2, 1) := by decide +kernel
theorem dX5_turn_6 : decode cX5_turn 6 = .ok (.iload_n 2, 1) := by decide +kernel
theorem dX5_turn_7 : decode cX5_turn 7 = .ok (.ifCond .ne 16, 3) := by decide +kernel
theorem dX5_turn_10 : decode cX5_turn 10 = .ok (.aload_n 0, 1) := by decide +kernel
theorem dX5_turn_11 : decode cX5_turn 11 = .ok (.getfield 23, 3) := by decide +kernel
theorem dX5_turn_14 : decode cX5_turn 14 = .ok (.iload_n 1, 1) := by decide +kernel
theorem dX5_turn_15 : decode cX5_turn 15 = .ok (.iaload, 1) := by decide +kernel
theorem dX5_turn_16 : decode cX5_turn 16 = .ok (.iconst 1, 1) := by decide +kernel
theorem dX5_turn_17 : decode cX5_turn 17 = .ok (.if_icmp .ne 6, 3) := by decide +kernel
theorem dX5_turn_20 : decode cX5_turn 20 = .ok (.bipush 9, 2) := by decide +kernel
theorem dX5_turn_22 : decode cX5_turn 22 = .ok (.istore_n 2, 1) := by decide +kernel
theorem dX5_turn_23 : decode cX5_turn 23 = .ok (.iload_n 2, 1) := by decide +kernel
theorem dX5_turn_24 : decode cX5_turn 24 = .ok (.ifCond .ne 15, 3) := by decide +kernel
theorem dX5_turn_27 : decode cX5_turn 27 = .ok (.aload_n 0, 1) := by decide +kernel
theorem dX5_turn_28 : decode cX5_turn 28 = .ok (.getfield 98, 3) := by decide +kernel
theorem dX5_turn_31 : decode cX5_turn 31 = .ok (.bipush 24, 2) := by decide +kernel
theorem dX5_turn_33 : decode cX5_turn 33 = .ok (.if_icmp .ne 6, 3) := by decide +kernel
theorem dX5_turn_36 : decode cX5_turn 36 = .ok (.bipush 8, 2) := by decide +kernel
theorem dX5_turn_38 : decode cX5_turn 38 = .ok (.istore_n 2, 1) := by decide +kernel
theorem dX5_turn_39 : decode cX5_turn 39 = .ok (.iload_n 2, 1) := by decide +kernel
theorem dX5_turn_40 : decode cX5_turn 40 = .ok (.ifCond .eq 9, 3) := by decide +kernel
theorem dX5_turn_43 : decode cX5_turn 43 = .ok (.aload_n 0, 1) := by decide +kernel
theorem dX5_turn_44 : decode cX5_turn 44 = .ok (.iload_n 2, 1) := by decide +kernel
theorem dX5_turn_45 : decode cX5_turn 45 = .ok (.invokevirtual 68, 3) := by decide +kernel
theorem dX5_turn_48 : decode cX5_turn 48 = .ok (.ireturn, 1) := by decide +kernel
theorem dX5_turn_49 : decode cX5_turn 49 = .ok (.aload_n 0, 1) := by decide +kernel
theorem dX5_turn_50 : decode cX5_turn 50 = .ok (.aload_n 0, 1) := by decide +kernel
theorem dX5_turn_51 : decode cX5_turn 51 = .ok (.getfield 20, 3) := by decide +kernel
theorem dX5_turn_54 : decode cX5_turn 54 = .ok (.iload_n 1, 1) := by decide +kernel
theorem dX5_turn_55 : decode cX5_turn 55 = .ok (.iaload, 1) := by decide +kernel
theorem dX5_turn_56 : decode cX5_turn 56 = .ok (.iload_n 1, 1) := by decide +kernel
theorem dX5_turn_57 : decode cX5_turn 57 = .ok (.invokevirtual 121, 3) := by decide +kernel
theorem dX5_turn_60 : decode cX5_turn 60 = .ok (.istore_n 3, 1) := by decide +kernel
theorem dX5_turn_61 : decode cX5_turn 61 = .ok (.aload_n 0, 1) := by decide +kernel
theorem dX5_turn_62 : decode cX5_turn 62 = .ok (.getfield 26, 3) := by decide +kernel
theorem dX5_turn_65 : decode cX5_turn 65 = .ok (.iconst 3, 1) := by decide +kernel
theorem dX5_turn_66 : decode cX5_turn 66 = .ok (.iload_n 3, 1) := by decide +kernel
theorem dX5_turn_67 : decode cX5_turn 67 = .ok (.imul, 1) := by decide +kernel
theorem dX5_turn_68 : decode cX5_turn 68 = .ok (.aload_n 0, 1) := by decide +kernel
theorem dX5_turn_69 : decode cX5_turn 69 = .ok (.getfield 26, 3) := by decide +kernel
theorem dX5_turn_72 : decode cX5_turn 72 = .ok (.iconst 3, 1) := by decide +kernel
theorem dX5_turn_73 : decode cX5_turn 73 = .ok (.iload_n 1, 1) := by decide +kernel
theorem dX5_turn_74 : decode cX5_turn 74 = .ok (.imul, 1) := by decide +kernel
theorem dX5_turn_75 : decode cX5_turn 75 = .ok (.iconst 1, 1) := by decide +kernel
theorem dX5_turn_76 : decode cX5_turn 76 = .ok (.iadd, 1) := by decide +kernel
theorem dX5_turn_77 : decode cX5_turn 77 = .ok (.iaload, 1) := by decide +kernel
theorem dX5_turn_78 : decode cX5_turn 78 = .ok (.iastore, 1) := by decide +kernel
theorem dX5_turn_79 : decode cX5_turn 79 = .ok (.aload_n 0, 1) := by decide +kernel
theorem dX5_turn_80 : decode cX5_turn 80 = .ok (.getfield 29, 3) := by decide +kernel
theorem dX5_turn_83 : decode cX5_turn 83 = .ok (.iconst 3, 1) := by decide +kernel
theorem dX5_turn_84 : decode cX5_turn 84 = .ok (.iload_n 3, 1) := by decide +kernel
theorem dX5_turn_85 : decode cX5_turn 85 = .ok (.imul, 1) := by decide +kernel
theorem dX5_turn_86 : decode cX5_turn 86 = .ok (.aload_n 0, 1) := by decide +kernel
theorem dX5_turn_87 : decode cX5_turn 87 = .ok (.getfield 29, 3) := by decide +kernel
theorem dX5_turn_90 : decode cX5_turn 90 = .ok (.iconst 3, 1) := by decide +kernel
theorem dX5_turn_91 : decode cX5_turn 91 = .ok (.iload_n 1, 1) := by decide +kernel
theorem dX5_turn_92 : decode cX5_turn 92 = .ok (.imul, 1) := by decide +kernel
theorem dX5_turn_93 : decode cX5_turn 93 = .ok (.iconst 1, 1) := by decide +kernel
theorem dX5_turn_94 : decode cX5_turn 94 = .ok (.iadd, 1) := by decide +kernel
theorem dX5_turn_95 : decode cX5_turn 95 = .ok (.iaload, 1) := by decide +kernel
theorem dX5_turn_96 : decode cX5_turn 96 = .ok (.iastore, 1) := by decide +kernel
theorem dX5_turn_97 : decode cX5_turn 97 = .ok (.aload_n 0, 1) := by decide +kernel
theorem dX5_turn_98 : decode cX5_turn 98 = .ok (.getfield 26, 3) := by decide +kernel
theorem dX5_turn_101 : decode cX5_turn 101 = .ok (.iconst 3, 1) := by decide +kernel
theorem dX5_turn_102 : decode cX5_turn 102 = .ok (.iload_n 3, 1) := by decide +kernel
theorem dX5_turn_103 : decode cX5_turn 103 = .ok (.imul, 1) := by decide +kernel
theorem dX5_turn_104 : decode cX5_turn 104 = .ok (.iconst 1, 1) := by decide +kernel
theorem dX5_turn_105 : decode cX5_turn 105 = .ok (.iadd, 1) := by decide +kernel
theorem dX5_turn_106 : decode cX5_turn 106 = .ok (.aload_n 0, 1) := by decide +kernel
theorem dX5_turn_107 : decode cX5_turn 107 = .ok (.getfield 26, 3) := by decide +kernel
theorem dX5_turn_110 : decode cX5_turn 110 = .ok (.iconst 3, 1) := by decide +kernel
theorem dX5_turn_111 : decode cX5_turn 111 = .ok (.iload_n 1, 1) := by decide +kernel
theorem dX5_turn_112 : decode cX5_turn 112 = .ok (.imul, 1) := by decide +kernel
theorem dX5_turn_113 : decode cX5_turn 113 = .ok (.iaload, 1) := by decide +kernel
theorem dX5_turn_114 : decode cX5_turn 114 = .ok (.iastore, 1) := by decide +kernel
theorem dX5_turn_115 : decode cX5_turn 115 = .ok (.aload_n 0, 1) := by decide +kernel
theorem dX5_turn_116 : decode cX5_turn 116 = .ok (.getfield 29, 3) := by decide +kernel
theorem dX5_turn_119 : decode cX5_turn 119 = .ok (.iconst 3, 1) := by decide +kernel
theorem dX5_turn_120 : decode cX5_turn 120 = .ok (.iload_n 3, 1) := by decide +kernel
theorem dX5_turn_121 : decode cX5_turn 121 = .ok (.imul, 1) := by decide +kernel
theorem dX5_turn_122 : decode cX5_turn 122 = .ok (.iconst 1, 1) := by decide +kernel
theorem dX5_turn_123 : decode cX5_turn 123 = .ok (.iadd, 1) := by decide +kernel
theorem dX5_turn_124 : decode cX5_turn 124 = .ok (.aload_n 0, 1) := by decide +kernel
theorem dX5_turn_125 : decode cX5_turn 125 = .ok (.getfield 29, 3) := by decide +kernel
theorem dX5_turn_128 : decode cX5_turn 128 = .ok (.iconst 3, 1) := by decide +kernel
theorem dX5_turn_129 : decode cX5_turn 129 = .ok (.iload_n 1, 1) := by decide +kernel
theorem dX5_turn_130 : decode cX5_turn 130 = .ok (.imul, 1) := by decide +kernel
theorem dX5_turn_131 : decode cX5_turn 131 = .ok (.iaload, 1) := by decide +kernel
theorem dX5_turn_132 : decode cX5_turn 132 = .ok (.iastore, 1) := by decide +kernel
theorem dX5_turn_133 : decode cX5_turn 133 = .ok (.aload_n 0, 1) := by decide +kernel
theorem dX5_turn_134 : decode cX5_turn 134 = .ok (.getfield 38, 3) := by decide +kernel
theorem dX5_turn_137 : decode cX5_turn 137 = .ok (.aload_n 0, 1) := by decide +kernel
theorem dX5_turn_138 : decode cX5_turn 138 = .ok (.getfield 32, 3) := by decide +kernel
theorem dX5_turn_141 : decode cX5_turn 141 = .ok (.iload_n 1, 1) := by decide +kernel
theorem dX5_turn_142 : decode cX5_turn 142 = .ok (.iaload, 1) := by decide +kernel
theorem dX5_turn_143 : decode cX5_turn 143 = .ok (.iaload, 1) := by decide +kernel
theorem dX5_turn_144 : decode cX5_turn 144 = .ok (.istore 4, 2) := by decide +kernel
theorem dX5_turn_146 : decode cX5_turn 146 = .ok (.aload_n 0, 1) := by decide +kernel
theorem dX5_turn_147 : decode cX5_turn 147 = .ok (.getfield 32, 3) := by decide +kernel
theorem dX5_turn_150 : decode cX5_turn 150 = .ok (.iload_n 3, 1) := by decide +kernel
theorem dX5_turn_151 : decode cX5_turn 151 = .ok (.aload_n 0, 1) := by decide +kernel
theorem dX5_turn_152 : decode cX5_turn 152 = .ok (.iload 4, 2) := by decide +kernel
theorem dX5_turn_154 : decode cX5_turn 154 = .ok (.invokevirtual 111, 3) := by decide +kernel
theorem dX5_turn_157 : decode cX5_turn 157 = .ok (.iastore, 1) := by decide +kernel
theorem dX5_turn_158 : decode cX5_turn 158 = .ok (.iload 4, 2) := by decide +kernel
theorem dX5_turn_160 : decode cX5_turn 160 = .ok (.ifCond .ne 7, 3) := by decide +kernel
theorem dX5_turn_163 : decode cX5_turn 163 = .ok (.iconst 1, 1) := by decide +kernel
theorem dX5_turn_164 : decode cX5_turn 164 = .ok (.goto 10, 3) := by decide +kernel
theorem dX5_turn_167 : decode cX5_turn 167 = .ok (.aload_n 0, 1) := by decide +kernel
theorem dX5_turn_168 : decode cX5_turn 168 = .ok (.iload_n 1, 1) := by decide +kernel
theorem dX5_turn_169 : decode cX5_turn 169 = .ok (.iconst 1, 1) := by decide +kernel
theorem dX5_turn_170 : decode cX5_turn 170 = .ok (.invokevirtual 108, 3) := by decide +kernel
theorem dX5_turn_173 : decode cX5_turn 173 = .ok (.l2i, 1) := by decide +kernel
theorem dX5_turn_174 : decode cX5_turn 174 = .ok (.istore 5, 2) := by decide +kernel
theorem dX5_turn_176 : decode cX5_turn 176 = .ok (.iload 4, 2) := by decide +kernel
theorem dX5_turn_178 : decode cX5_turn 178 = .ok (.ifCond .eq 13, 3) := by decide +kernel
theorem dX5_turn_181 : decode cX5_turn 181 = .ok (.aload_n 0, 1) := by decide +kernel
theorem dX5_turn_182 : decode cX5_turn 182 = .ok (.getfield 23, 3) := by decide +kernel
theorem dX5_turn_185 : decode cX5_turn 185 = .ok (.iload_n 1, 1) := by decide +kernel
theorem dX5_turn_186 : decode cX5_turn 186 = .ok (.iaload, 1) := by decide +kernel
theorem dX5_turn_187 : decode cX5_turn 187 = .ok (.iconst 2, 1) := by decide +kernel
theorem dX5_turn_188 : decode cX5_turn 188 = .ok (.if_icmp .ne 7, 3) := by decide +kernel
theorem dX5_turn_191 : decode cX5_turn 191 = .ok (.iconst 1, 1) := by decide +kernel
theorem dX5_turn_192 : decode cX5_turn 192 = .ok (.goto 10, 3) := by decide +kernel
theorem dX5_turn_195 : decode cX5_turn 195 = .ok (.aload_n 0, 1) := by decide +kernel
theorem dX5_turn_196 : decode cX5_turn 196 = .ok (.iload_n 1, 1) := by decide +kernel
theorem dX5_turn_197 : decode cX5_turn 197 = .ok (.iconst 2, 1) := by decide +kernel
theorem dX5_turn_198 : decode cX5_turn 198 = .ok (.invokevirtual 108, 3) := by decide +kernel
theorem dX5_turn_201 : decode cX5_turn 201 = .ok (.l2i, 1) := by decide +kernel
theorem dX5_turn_202 : decode cX5_turn 202 = .ok (.istore 6, 2) := by decide +kernel
theorem dX5_turn_204 : decode cX5_turn 204 = .ok (.iload 4, 2) := by decide +kernel
theorem dX5_turn_206 : decode cX5_turn 206 = .ok (.ifCond .ne 7, 3) := by decide +kernel
theorem dX5_turn_209 : decode cX5_turn 209 = .ok (.iconst 1, 1) := by decide +kernel
theorem dX5_turn_210 : decode cX5_turn 210 = .ok (.goto 10, 3) := by decide +kernel
theorem dX5_turn_213 : decode cX5_turn 213 = .ok (.aload_n 0, 1) := by decide +kernel
theorem dX5_turn_214 : decode cX5_turn 214 = .ok (.iload_n 1, 1) := by decide +kernel
theorem dX5_turn_215 : decode cX5_turn 215 = .ok (.iconst 0, 1) := by decide +kernel
theorem dX5_turn_216 : decode cX5_turn 216 = .ok (.invokevirtual 108, 3) := by decide +kernel
theorem dX5_turn_219 : decode cX5_turn 219 = .ok (.l2i, 1) := by decide +kernel
theorem dX5_turn_220 : decode cX5_turn 220 = .ok (.istore 7, 2) := by decide +kernel
theorem dX5_turn_222 : decode cX5_turn 222 = .ok (.iconst 0, 1) := by decide +kernel
theorem dX5_turn_223 : decode cX5_turn 223 = .ok (.istore 8, 2) := by decide +kernel
theorem dX5_turn_225 : decode cX5_turn 225 = .ok (.iload 8, 2) := by decide +kernel
theorem dX5_turn_227 : decode cX5_turn 227 = .ok (.iload 4, 2) := by decide +kernel
theorem dX5_turn_229 : decode cX5_turn 229 = .ok (.if_icmp .ge 80, 3) := by decide +kernel
theorem dX5_turn_232 : decode cX5_turn 232 = .ok (.iload 8, 2) := by decide +kernel
theorem dX5_turn_234 : decode cX5_turn 234 = .ok (.iload 6, 2) := by decide +kernel
theorem dX5_turn_236 : decode cX5_turn 236 = .ok (.irem, 1) := by decide +kernel
theorem dX5_turn_237 : decode cX5_turn 237 = .ok (.istore 9, 2) := by decide +kernel
theorem dX5_turn_239 : decode cX5_turn 239 = .ok (.iload 8, 2) := by decide +kernel
theorem dX5_turn_241 : decode cX5_turn 241 = .ok (.iload 6, 2) := by decide +kernel
theorem dX5_turn_243 : decode cX5_turn 243 = .ok (.idiv, 1) := by decide +kernel
theorem dX5_turn_244 : decode cX5_turn 244 = .ok (.iload 5, 2) := by decide +kernel
theorem dX5_turn_246 : decode cX5_turn 246 = .ok (.irem, 1) := by decide +kernel
theorem dX5_turn_247 : decode cX5_turn 247 = .ok (.istore 10, 2) := by decide +kernel
theorem dX5_turn_249 : decode cX5_turn 249 = .ok (.iload 8, 2) := by decide +kernel
theorem dX5_turn_251 : decode cX5_turn 251 = .ok (.iload 6, 2) := by decide +kernel
theorem dX5_turn_253 : decode cX5_turn 253 = .ok (.idiv, 1) := by decide +kernel
theorem dX5_turn_254 : decode cX5_turn 254 = .ok (.iload 5, 2) := by decide +kernel
theorem dX5_turn_256 : decode cX5_turn 256 = .ok (.idiv, 1) := by decide +kernel
theorem dX5_turn_257 : decode cX5_turn 257 = .ok (.istore 11, 2) := by decide +kernel
theorem dX5_turn_259 : decode cX5_turn 259 = .ok (.aload_n 0, 1) := by decide +kernel
theorem dX5_turn_260 : decode cX5_turn 260 = .ok (.aload_n 0, 1) := by decide +kernel
theorem dX5_turn_261 : decode cX5_turn 261 = .ok (.getfield 35, 3) := by decide +kernel
theorem dX5_turn_264 : decode cX5_turn 264 = .ok (.aload_n 0, 1) := by decide +kernel
theorem dX5_turn_265 : decode cX5_turn 265 = .ok (.getfield 32, 3) := by decide +kernel
theorem dX5_turn_268 : decode cX5_turn 268 = .ok (.iload_n 1, 1) := by decide +kernel
theorem dX5_turn_269 : decode cX5_turn 269 = .ok (.iaload, 1) := by decide +kernel
theorem dX5_turn_270 : decode cX5_turn 270 = .ok (.iaload, 1) := by decide +kernel
theorem dX5_turn_271 : decode cX5_turn 271 = .ok (.iload 8, 2) := by decide +kernel
theorem dX5_turn_273 : decode cX5_turn 273 = .ok (.iadd, 1) := by decide +kernel
theorem dX5_turn_274 : decode cX5_turn 274 = .ok (.aload_n 0, 1) := by decide +kernel
theorem dX5_turn_275 : decode cX5_turn 275 = .ok (.getfield 35, 3) := by decide +kernel
theorem dX5_turn_278 : decode cX5_turn 278 = .ok (.aload_n 0, 1) := by decide +kernel
theorem dX5_turn_279 : decode cX5_turn 279 = .ok (.getfield 32, 3) := by decide +kernel
theorem dX5_turn_282 : decode cX5_turn 282 = .ok (.iload_n 3, 1) := by decide +kernel
theorem dX5_turn_283 : decode cX5_turn 283 = .ok (.iaload, 1) := by decide +kernel
theorem dX5_turn_284 : decode cX5_turn 284 = .ok (.iaload, 1) := by decide +kernel
theorem dX5_turn_285 : decode cX5_turn 285 = .ok (.iload 10, 2) := by decide +kernel
theorem dX5_turn_287 : decode cX5_turn 287 = .ok (.iload 7, 2) := by decide +kernel
theorem dX5_turn_289 : decode cX5_turn 289 = .ok (.imul, 1) := by decide +kernel
theorem dX5_turn_290 : decode cX5_turn 290 = .ok (.iload 11, 2) := by decide +kernel
theorem dX5_turn_292 : decode cX5_turn 292 = .ok (.iadd, 1) := by decide +kernel
theorem dX5_turn_293 : decode cX5_turn 293 = .ok (.iload 6, 2) := by decide +kernel
theorem dX5_turn_295 : decode cX5_turn 295 = .ok (.imul, 1) := by decide +kernel
theorem dX5_turn_296 : decode cX5_turn 296 = .ok (.iadd, 1) := by decide +kernel
theorem dX5_turn_297 : decode cX5_turn 297 = .ok (.iload 9, 2) := by decide +kernel
theorem dX5_turn_299 : decode cX5_turn 299 = .ok (.iadd, 1) := by decide +kernel
theorem dX5_turn_300 : decode cX5_turn 300 = .ok (.invokevirtual 138, 3) := by decide +kernel
theorem dX5_turn_303 : decode cX5_turn 303 = .ok (.iinc 8 1, 3) := by decide +kernel
theorem dX5_turn_306 : decode cX5_turn 306 = .ok (.goto (-81), 3) := by decide +kernel
theorem dX5_turn_309 : decode cX5_turn 309 = .ok (.aload_n 0, 1) := by decide +kernel
theorem dX5_turn_310 : decode cX5_turn 310 = .ok (.iload_n 3, 1) := by decide +kernel
theorem dX5_turn_311 : decode cX5_turn 311 = .ok (.invokevirtual 75, 3) := by decide +kernel
theorem dX5_turn_314 : decode cX5_turn 314 = .ok (.ireturn, 1) := by decide +kernel
theorem dX5_placeOf_0 : decode cX5_placeOf 0 = .ok (.lconst 0, 1) := by decide +kernel
theorem dX5_placeOf_1 : decode cX5_placeOf 1 = .ok (.lstore 5, 2) := by decide +kernel
theorem dX5_placeOf_3 : decode cX5_placeOf 3 = .ok (.iconst 0, 1) := by decide +kernel
theorem dX5_placeOf_4 : decode cX5_placeOf 4 = .ok (.istore 7, 2) := by decide +kernel
theorem dX5_placeOf_6 : decode cX5_placeOf 6 = .ok (.iload 7, 2) := by decide +kernel
theorem dX5_placeOf_8 : decode cX5_placeOf 8 = .ok (.aload_n 0, 1) := by decide +kernel
theorem dX5_placeOf_9 : decode cX5_placeOf 9 = .ok (.getfield 23, 3) := by decide +kernel
theorem dX5_placeOf_12 : decode cX5_placeOf 12 = .ok (.iload_n 1, 1) := by decide +kernel
theorem dX5_placeOf_13 : decode cX5_placeOf 13 = .ok (.iaload, 1) := by decide +kernel
theorem dX5_placeOf_14 : decode cX5_placeOf 14 = .ok (.if_icmp .ge 102, 3) := by decide +kernel
theorem dX5_placeOf_17 : decode cX5_placeOf 17 = .ok (.iload 7, 2) := by decide +kernel
theorem dX5_placeOf_19 : decode cX5_placeOf 19 = .ok (.ifCond .ne 7, 3) := by decide +kernel
theorem dX5_placeOf_22 : decode cX5_placeOf 22 = .ok (.iload_n 2, 1) := by decide +kernel
theorem dX5_placeOf_23 : decode cX5_placeOf 23 = .ok (.goto 15, 3) := by decide +kernel
theorem dX5_placeOf_26 : decode cX5_placeOf 26 = .ok (.iload 7, 2) := by decide +kernel
theorem dX5_placeOf_28 : decode cX5_placeOf 28 = .ok (.iconst 1, 1) := by decide +kernel
theorem dX5_placeOf_29 : decode cX5_placeOf 29 = .ok (.if_icmp .ne 7, 3) := by decide +kernel
theorem dX5_placeOf_32 : decode cX5_placeOf 32 = .ok (.iload_n 3, 1) := by decide +kernel
theorem dX5_placeOf_33 : decode cX5_placeOf 33 = .ok (.goto 5, 3) := by decide +kernel
theorem dX5_placeOf_36 : decode cX5_placeOf 36 = .ok (.iload 4, 2) := by decide +kernel
theorem dX5_placeOf_38 : decode cX5_placeOf 38 = .ok (.istore 8, 2) := by decide +kernel
theorem dX5_placeOf_40 : decode cX5_placeOf 40 = .ok (.iload 8, 2) := by decide +kernel
theorem dX5_placeOf_42 : decode cX5_placeOf 42 = .ok (.i2l, 1) := by decide +kernel
theorem dX5_placeOf_43 : decode cX5_placeOf 43 = .ok (.aload_n 0, 1) := by decide +kernel
theorem dX5_placeOf_44 : decode cX5_placeOf 44 = .ok (.getfield 26, 3) := by decide +kernel
theorem dX5_placeOf_47 : decode cX5_placeOf 47 = .ok (.iconst 3, 1) := by decide +kernel
theorem dX5_placeOf_48 : decode cX5_placeOf 48 = .ok (.iload_n 1, 1) := by decide +kernel
theorem dX5_placeOf_49 : decode cX5_placeOf 49 = .ok (.imul, 1) := by decide +kernel
theorem dX5_placeOf_50 : decode cX5_placeOf 50 = .ok (.iload 7, 2) := by decide +kernel
theorem dX5_placeOf_52 : decode cX5_placeOf 52 = .ok (.iadd, 1) := by decide +kernel
theorem dX5_placeOf_53 : decode cX5_placeOf 53 = .ok (.iaload, 1) := by decide +kernel
theorem dX5_placeOf_54 : decode cX5_placeOf 54 = .ok (.i2l, 1) := by decide +kernel
theorem dX5_placeOf_55 : decode cX5_placeOf 55 = .ok (.aload_n 0, 1) := by decide +kernel
theorem dX5_placeOf_56 : decode cX5_placeOf 56 = .ok (.getfield 29, 3) := by decide +kernel
theorem dX5_placeOf_59 : decode cX5_placeOf 59 = .ok (.iconst 3, 1) := by decide +kernel
theorem dX5_placeOf_60 : decode cX5_placeOf 60 = .ok (.iload_n 1, 1) := by decide +kernel
theorem dX5_placeOf_61 : decode cX5_placeOf 61 = .ok (.imul, 1) := by decide +kernel
theorem dX5_placeOf_62 : decode cX5_placeOf 62 = .ok (.iload 7, 2) := by decide +kernel
theorem dX5_placeOf_64 : decode cX5_placeOf 64 = .ok (.iadd, 1) := by decide +kernel
theorem dX5_placeOf_65 : decode cX5_placeOf 65 = .ok (.iaload, 1) := by decide +kernel
theorem dX5_placeOf_66 : decode cX5_placeOf 66 = .ok (.i2l, 1) := by decide +kernel
theorem dX5_placeOf_67 : decode cX5_placeOf 67 = .ok (.invokestatic 101, 3) := by decide +kernel
theorem dX5_placeOf_70 : decode cX5_placeOf 70 = .ok (.ifCond .ne 11, 3) := by decide +kernel
theorem dX5_placeOf_73 : decode cX5_placeOf 73 = .ok (.aload_n 0, 1) := by decide +kernel
theorem dX5_placeOf_74 : decode cX5_placeOf 74 = .ok (.iload 7, 2) := by decide +kernel
theorem dX5_placeOf_76 : decode cX5_placeOf 76 = .ok (.putfield 142, 3) := by decide +kernel
theorem dX5_placeOf_79 : decode cX5_placeOf 79 = .ok (.iconst (-1), 1) := by decide +kernel
theorem dX5_placeOf_80 : decode cX5_placeOf 80 = .ok (.ireturn, 1) := by decide +kernel
theorem dX5_placeOf_81 : decode cX5_placeOf 81 = .ok (.lload 5, 2) := by decide +kernel
theorem dX5_placeOf_83 : decode cX5_placeOf 83 = .ok (.aload_n 0, 1) := by decide +kernel
theorem dX5_placeOf_84 : decode cX5_placeOf 84 = .ok (.iload_n 1, 1) := by decide +kernel
theorem dX5_placeOf_85 : decode cX5_placeOf 85 = .ok (.iload 7, 2) := by decide +kernel
theorem dX5_placeOf_87 : decode cX5_placeOf 87 = .ok (.invokevirtual 108, 3) := by decide +kernel
theorem dX5_placeOf_90 : decode cX5_placeOf 90 = .ok (.lmul, 1) := by decide +kernel
theorem dX5_placeOf_91 : decode cX5_placeOf 91 = .ok (.iload 8, 2) := by decide +kernel
theorem dX5_placeOf_93 : decode cX5_placeOf 93 = .ok (.i2l, 1) := by decide +kernel
theorem dX5_placeOf_94 : decode cX5_placeOf 94 = .ok (.aload_n 0, 1) := by decide +kernel
theorem dX5_placeOf_95 : decode cX5_placeOf 95 = .ok (.getfield 26, 3) := by decide +kernel
theorem dX5_placeOf_98 : decode cX5_placeOf 98 = .ok (.iconst 3, 1) := by decide +kernel
theorem dX5_placeOf_99 : decode cX5_placeOf 99 = .ok (.iload_n 1, 1) := by decide +kernel
theorem dX5_placeOf_100 : decode cX5_placeOf 100 = .ok (.imul, 1) := by decide +kernel
theorem dX5_placeOf_101 : decode cX5_placeOf 101 = .ok (.iload 7, 2) := by decide +kernel
theorem dX5_placeOf_103 : decode cX5_placeOf 103 = .ok (.iadd, 1) := by decide +kernel
theorem dX5_placeOf_104 : decode cX5_placeOf 104 = .ok (.iaload, 1) := by decide +kernel
theorem dX5_placeOf_105 : decode cX5_placeOf 105 = .ok (.i2l, 1) := by decide +kernel
theorem dX5_placeOf_106 : decode cX5_placeOf 106 = .ok (.lsub, 1) := by decide +kernel
theorem dX5_placeOf_107 : decode cX5_placeOf 107 = .ok (.ladd, 1) := by decide +kernel
theorem dX5_placeOf_108 : decode cX5_placeOf 108 = .ok (.lstore 5, 2) := by decide +kernel
theorem dX5_placeOf_110 : decode cX5_placeOf 110 = .ok (.iinc 7 1, 3) := by decide +kernel
theorem dX5_placeOf_113 : decode cX5_placeOf 113 = .ok (.goto (-107), 3) := by decide +kernel
theorem dX5_placeOf_116 : decode cX5_placeOf 116 = .ok (.lload 5, 2) := by decide +kernel
theorem dX5_placeOf_118 : decode cX5_placeOf 118 = .ok (.l2i, 1) := by decide +kernel
theorem dX5_placeOf_119 : decode cX5_placeOf 119 = .ok (.ireturn, 1) := by decide +kernel
theorem dX5_index_0 : decode cX5_index 0 = .ok (.iload_n 0, 1) := by decide +kernel
theorem dX5_index_1 : decode cX5_index 1 = .ok (.iload_n 1, 1) := by decide +kernel
theorem dX5_index_2 : decode cX5_index 2 = .ok (.iadd, 1) := by decide +kernel
theorem dX5_index_3 : decode cX5_index 3 = .ok (.ireturn, 1) := by decide +kernel
theorem dX5_cut_0 : decode cX5_cut 0 = .ok (.aload_n 0, 1) := by decide +kernel
theorem dX5_cut_1 : decode cX5_cut 1 = .ok (.iload_n 1, 1) := by decide +kernel
theorem dX5_cut_2 : decode cX5_cut 2 = .ok (.invokevirtual 135, 3) := by decide +kernel
theorem dX5_cut_5 : decode cX5_cut 5 = .ok (.istore_n 2, 1) := by decide +kernel
theorem dX5_cut_6 : decode cX5_cut 6 = .ok (.iload_n 2, 1) := by decide +kernel
theorem dX5_cut_7 : decode cX5_cut 7 = .ok (.ifCond .ne 19, 3) := by decide +kernel
theorem dX5_cut_10 : decode cX5_cut 10 = .ok (.aload_n 0, 1) := by decide +kernel
theorem dX5_cut_11 : decode cX5_cut 11 = .ok (.getfield 72, 3) := by decide +kernel
theorem dX5_cut_14 : decode cX5_cut 14 = .ok (.aload_n 0, 1) := by decide +kernel
theorem dX5_cut_15 : decode cX5_cut 15 = .ok (.getfield 23, 3) := by decide +kernel
theorem dX5_cut_18 : decode cX5_cut 18 = .ok (.iload_n 1, 1) := by decide +kernel
theorem dX5_cut_19 : decode cX5_cut 19 = .ok (.iaload, 1) := by decide +kernel
theorem dX5_cut_20 : decode cX5_cut 20 = .ok (.if_icmp .eq 6, 3) := by decide +kernel
theorem dX5_cut_23 : decode cX5_cut 23 = .ok (.bipush 9, 2) := by decide +kernel
end
section
theorem dX5_cut_25 : decode cX5_cut 25 = .ok (.istore_n 2, 1) := by decide +kernel
theorem dX5_cut_26 : decode cX5_cut 26 = .ok (.aload_n 0, 1) := by decide +kernel
theorem dX5_cut_27 : decode cX5_cut 27 = .ok (.invokevirtual 117, 3) := by decide +kernel
theorem dX5_cut_30 : decode cX5_cut 30 = .ok (.istore_n 3, 1) := by decide +kernel
theorem dX5_cut_31 : decode cX5_cut 31 = .ok (.iload_n 2, 1) := by decide +kernel
theorem dX5_cut_32 : decode cX5_cut 32 = .ok (.ifCond .ne 12, 3) := by decide +kernel
theorem dX5_cut_35 : decode cX5_cut 35 = .ok (.iload_n 3, 1) := by decide +kernel
theorem dX5_cut_36 : decode cX5_cut 36 = .ok (.sipush 500, 3) := by decide +kernel
theorem dX5_cut_39 : decode cX5_cut 39 = .ok (.if_icmp .le 5, 3) := by decide +kernel
theorem dX5_cut_42 : decode cX5_cut 42 = .ok (.iconst 5, 1) := by decide +kernel
theorem dX5_cut_43 : decode cX5_cut 43 = .ok (.istore_n 2, 1) := by decide +kernel
theorem dX5_cut_44 : decode cX5_cut 44 = .ok (.iload_n 2, 1) := by decide +kernel
theorem dX5_cut_45 : decode cX5_cut 45 = .ok (.ifCond .eq 9, 3) := by decide +kernel
theorem dX5_cut_48 : decode cX5_cut 48 = .ok (.aload_n 0, 1) := by decide +kernel
theorem dX5_cut_49 : decode cX5_cut 49 = .ok (.iload_n 2, 1) := by decide +kernel
theorem dX5_cut_50 : decode cX5_cut 50 = .ok (.invokevirtual 68, 3) := by decide +kernel
theorem dX5_cut_53 : decode cX5_cut 53 = .ok (.ireturn, 1) := by decide +kernel
theorem dX5_cut_54 : decode cX5_cut 54 = .ok (.iload_n 3, 1) := by decide +kernel
theorem dX5_cut_55 : decode cX5_cut 55 = .ok (.ifCond .eq 11, 3) := by decide +kernel
theorem dX5_cut_58 : decode cX5_cut 58 = .ok (.aload_n 0, 1) := by decide +kernel
theorem dX5_cut_59 : decode cX5_cut 59 = .ok (.getfield 72, 3) := by decide +kernel
theorem dX5_cut_62 : decode cX5_cut 62 = .ok (.iconst 2, 1) := by decide +kernel
theorem dX5_cut_63 : decode cX5_cut 63 = .ok (.if_icmp .ge 7, 3) := by decide +kernel
theorem dX5_cut_66 : decode cX5_cut 66 = .ok (.iconst 1, 1) := by decide +kernel
theorem dX5_cut_67 : decode cX5_cut 67 = .ok (.goto 19, 3) := by decide +kernel
theorem dX5_cut_70 : decode cX5_cut 70 = .ok (.aload_n 0, 1) := by decide +kernel
theorem dX5_cut_71 : decode cX5_cut 71 = .ok (.getfield 13, 3) := by decide +kernel
theorem dX5_cut_74 : decode cX5_cut 74 = .ok (.iconst 1, 1) := by decide +kernel
theorem dX5_cut_75 : decode cX5_cut 75 = .ok (.iaload, 1) := by decide +kernel
theorem dX5_cut_76 : decode cX5_cut 76 = .ok (.aload_n 0, 1) := by decide +kernel
theorem dX5_cut_77 : decode cX5_cut 77 = .ok (.getfield 17, 3) := by decide +kernel
theorem dX5_cut_80 : decode cX5_cut 80 = .ok (.iconst 1, 1) := by decide +kernel
theorem dX5_cut_81 : decode cX5_cut 81 = .ok (.iaload, 1) := by decide +kernel
theorem dX5_cut_82 : decode cX5_cut 82 = .ok (.invokestatic 78, 3) := by decide +kernel
theorem dX5_cut_85 : decode cX5_cut 85 = .ok (.l2i, 1) := by decide +kernel
theorem dX5_cut_86 : decode cX5_cut 86 = .ok (.istore 4, 2) := by decide +kernel
theorem dX5_cut_88 : decode cX5_cut 88 = .ok (.iload_n 3, 1) := by decide +kernel
theorem dX5_cut_89 : decode cX5_cut 89 = .ok (.ifCond .eq 11, 3) := by decide +kernel
theorem dX5_cut_92 : decode cX5_cut 92 = .ok (.aload_n 0, 1) := by decide +kernel
theorem dX5_cut_93 : decode cX5_cut 93 = .ok (.getfield 72, 3) := by decide +kernel
theorem dX5_cut_96 : decode cX5_cut 96 = .ok (.iconst 3, 1) := by decide +kernel
theorem dX5_cut_97 : decode cX5_cut 97 = .ok (.if_icmp .ge 7, 3) := by decide +kernel
theorem dX5_cut_100 : decode cX5_cut 100 = .ok (.iconst 1, 1) := by decide +kernel
theorem dX5_cut_101 : decode cX5_cut 101 = .ok (.goto 19, 3) := by decide +kernel
theorem dX5_cut_104 : decode cX5_cut 104 = .ok (.aload_n 0, 1) := by decide +kernel
theorem dX5_cut_105 : decode cX5_cut 105 = .ok (.getfield 13, 3) := by decide +kernel
theorem dX5_cut_108 : decode cX5_cut 108 = .ok (.iconst 2, 1) := by decide +kernel
theorem dX5_cut_109 : decode cX5_cut 109 = .ok (.iaload, 1) := by decide +kernel
theorem dX5_cut_110 : decode cX5_cut 110 = .ok (.aload_n 0, 1) := by decide +kernel
theorem dX5_cut_111 : decode cX5_cut 111 = .ok (.getfield 17, 3) := by decide +kernel
theorem dX5_cut_114 : decode cX5_cut 114 = .ok (.iconst 2, 1) := by decide +kernel
theorem dX5_cut_115 : decode cX5_cut 115 = .ok (.iaload, 1) := by decide +kernel
theorem dX5_cut_116 : decode cX5_cut 116 = .ok (.invokestatic 78, 3) := by decide +kernel
theorem dX5_cut_119 : decode cX5_cut 119 = .ok (.l2i, 1) := by decide +kernel
theorem dX5_cut_120 : decode cX5_cut 120 = .ok (.istore 5, 2) := by decide +kernel
theorem dX5_cut_122 : decode cX5_cut 122 = .ok (.iconst 0, 1) := by decide +kernel
theorem dX5_cut_123 : decode cX5_cut 123 = .ok (.istore 6, 2) := by decide +kernel
theorem dX5_cut_125 : decode cX5_cut 125 = .ok (.iload 6, 2) := by decide +kernel
theorem dX5_cut_127 : decode cX5_cut 127 = .ok (.iload_n 3, 1) := by decide +kernel
theorem dX5_cut_128 : decode cX5_cut 128 = .ok (.if_icmp .ge 75, 3) := by decide +kernel
theorem dX5_cut_131 : decode cX5_cut 131 = .ok (.aload_n 0, 1) := by decide +kernel
theorem dX5_cut_132 : decode cX5_cut 132 = .ok (.iload_n 1, 1) := by decide +kernel
theorem dX5_cut_133 : decode cX5_cut 133 = .ok (.aload_n 0, 1) := by decide +kernel
theorem dX5_cut_134 : decode cX5_cut 134 = .ok (.getfield 13, 3) := by decide +kernel
theorem dX5_cut_137 : decode cX5_cut 137 = .ok (.iconst 0, 1) := by decide +kernel
theorem dX5_cut_138 : decode cX5_cut 138 = .ok (.iaload, 1) := by decide +kernel
theorem dX5_cut_139 : decode cX5_cut 139 = .ok (.iload 6, 2) := by decide +kernel
theorem dX5_cut_141 : decode cX5_cut 141 = .ok (.iload 5, 2) := by decide +kernel
theorem dX5_cut_143 : decode cX5_cut 143 = .ok (.idiv, 1) := by decide +kernel
theorem dX5_cut_144 : decode cX5_cut 144 = .ok (.iload 4, 2) := by decide +kernel
theorem dX5_cut_146 : decode cX5_cut 146 = .ok (.idiv, 1) := by decide +kernel
theorem dX5_cut_147 : decode cX5_cut 147 = .ok (.invokestatic 145, 3) := by decide +kernel
theorem dX5_cut_150 : decode cX5_cut 150 = .ok (.aload_n 0, 1) := by decide +kernel
theorem dX5_cut_151 : decode cX5_cut 151 = .ok (.getfield 13, 3) := by decide +kernel
theorem dX5_cut_154 : decode cX5_cut 154 = .ok (.iconst 1, 1) := by decide +kernel
theorem dX5_cut_155 : decode cX5_cut 155 = .ok (.iaload, 1) := by decide +kernel
theorem dX5_cut_156 : decode cX5_cut 156 = .ok (.iload 6, 2) := by decide +kernel
theorem dX5_cut_158 : decode cX5_cut 158 = .ok (.iload 5, 2) := by decide +kernel
theorem dX5_cut_160 : decode cX5_cut 160 = .ok (.idiv, 1) := by decide +kernel
theorem dX5_cut_161 : decode cX5_cut 161 = .ok (.iload 4, 2) := by decide +kernel
theorem dX5_cut_163 : decode cX5_cut 163 = .ok (.irem, 1) := by decide +kernel
theorem dX5_cut_164 : decode cX5_cut 164 = .ok (.invokestatic 145, 3) := by decide +kernel
theorem dX5_cut_167 : decode cX5_cut 167 = .ok (.aload_n 0, 1) := by decide +kernel
theorem dX5_cut_168 : decode cX5_cut 168 = .ok (.getfield 13, 3) := by decide +kernel
theorem dX5_cut_171 : decode cX5_cut 171 = .ok (.iconst 2, 1) := by decide +kernel
theorem dX5_cut_172 : decode cX5_cut 172 = .ok (.iaload, 1) := by decide +kernel
theorem dX5_cut_173 : decode cX5_cut 173 = .ok (.iload 6, 2) := by decide +kernel
theorem dX5_cut_175 : decode cX5_cut 175 = .ok (.iload 5, 2) := by decide +kernel
theorem dX5_cut_177 : decode cX5_cut 177 = .ok (.irem, 1) := by decide +kernel
theorem dX5_cut_178 : decode cX5_cut 178 = .ok (.invokestatic 145, 3) := by decide +kernel
theorem dX5_cut_181 : decode cX5_cut 181 = .ok (.invokevirtual 148, 3) := by decide +kernel
theorem dX5_cut_184 : decode cX5_cut 184 = .ok (.iconst (-1), 1) := by decide +kernel
theorem dX5_cut_185 : decode cX5_cut 185 = .ok (.if_icmp .ne 12, 3) := by decide +kernel
theorem dX5_cut_188 : decode cX5_cut 188 = .ok (.aload_n 0, 1) := by decide +kernel
theorem dX5_cut_189 : decode cX5_cut 189 = .ok (.aload_n 0, 1) := by decide +kernel
theorem dX5_cut_190 : decode cX5_cut 190 = .ok (.getfield 142, 3) := by decide +kernel
theorem dX5_cut_193 : decode cX5_cut 193 = .ok (.invokevirtual 152, 3) := by decide +kernel
theorem dX5_cut_196 : decode cX5_cut 196 = .ok (.ireturn, 1) := by decide +kernel
theorem dX5_cut_197 : decode cX5_cut 197 = .ok (.iinc 6 1, 3) := by decide +kernel
theorem dX5_cut_200 : decode cX5_cut 200 = .ok (.goto (-75), 3) := by decide +kernel
theorem dX5_cut_203 : decode cX5_cut 203 = .ok (.aload_n 0, 1) := by decide +kernel
theorem dX5_cut_204 : decode cX5_cut 204 = .ok (.getfield 98, 3) := by decide +kernel
theorem dX5_cut_207 : decode cX5_cut 207 = .ok (.bipush 24, 2) := by decide +kernel
theorem dX5_cut_209 : decode cX5_cut 209 = .ok (.if_icmp .ne 10, 3) := by decide +kernel
theorem dX5_cut_212 : decode cX5_cut 212 = .ok (.aload_n 0, 1) := by decide +kernel
theorem dX5_cut_213 : decode cX5_cut 213 = .ok (.bipush 8, 2) := by decide +kernel
theorem dX5_cut_215 : decode cX5_cut 215 = .ok (.invokevirtual 68, 3) := by decide +kernel
theorem dX5_cut_218 : decode cX5_cut 218 = .ok (.ireturn, 1) := by decide +kernel
theorem dX5_cut_219 : decode cX5_cut 219 = .ok (.aload_n 0, 1) := by decide +kernel
theorem dX5_cut_220 : decode cX5_cut 220 = .ok (.aload_n 0, 1) := by decide +kernel
theorem dX5_cut_221 : decode cX5_cut 221 = .ok (.getfield 20, 3) := by decide +kernel
theorem dX5_cut_224 : decode cX5_cut 224 = .ok (.iload_n 1, 1) := by decide +kernel
theorem dX5_cut_225 : decode cX5_cut 225 = .ok (.iaload, 1) := by decide +kernel
theorem dX5_cut_226 : decode cX5_cut 226 = .ok (.iconst (-1), 1) := by decide +kernel
theorem dX5_cut_227 : decode cX5_cut 227 = .ok (.invokevirtual 121, 3) := by decide +kernel
theorem dX5_cut_230 : decode cX5_cut 230 = .ok (.istore 6, 2) := by decide +kernel
theorem dX5_cut_232 : decode cX5_cut 232 = .ok (.aload_n 0, 1) := by decide +kernel
theorem dX5_cut_233 : decode cX5_cut 233 = .ok (.getfield 32, 3) := by decide +kernel
theorem dX5_cut_236 : decode cX5_cut 236 = .ok (.iload 6, 2) := by decide +kernel
theorem dX5_cut_238 : decode cX5_cut 238 = .ok (.aload_n 0, 1) := by decide +kernel
theorem dX5_cut_239 : decode cX5_cut 239 = .ok (.iload_n 3, 1) := by decide +kernel
theorem dX5_cut_240 : decode cX5_cut 240 = .ok (.invokevirtual 111, 3) := by decide +kernel
theorem dX5_cut_243 : decode cX5_cut 243 = .ok (.iastore, 1) := by decide +kernel
theorem dX5_cut_244 : decode cX5_cut 244 = .ok (.iconst 0, 1) := by decide +kernel
theorem dX5_cut_245 : decode cX5_cut 245 = .ok (.istore 7, 2) := by decide +kernel
theorem dX5_cut_247 : decode cX5_cut 247 = .ok (.iload 7, 2) := by decide +kernel
theorem dX5_cut_249 : decode cX5_cut 249 = .ok (.iload_n 3, 1) := by decide +kernel
theorem dX5_cut_250 : decode cX5_cut 250 = .ok (.if_icmp .ge 97, 3) := by decide +kernel
theorem dX5_cut_253 : decode cX5_cut 253 = .ok (.aload_n 0, 1) := by decide +kernel
theorem dX5_cut_254 : decode cX5_cut 254 = .ok (.iload_n 1, 1) := by decide +kernel
theorem dX5_cut_255 : decode cX5_cut 255 = .ok (.aload_n 0, 1) := by decide +kernel
theorem dX5_cut_256 : decode cX5_cut 256 = .ok (.getfield 13, 3) := by decide +kernel
theorem dX5_cut_259 : decode cX5_cut 259 = .ok (.iconst 0, 1) := by decide +kernel
theorem dX5_cut_260 : decode cX5_cut 260 = .ok (.iaload, 1) := by decide +kernel
theorem dX5_cut_261 : decode cX5_cut 261 = .ok (.iload 7, 2) := by decide +kernel
theorem dX5_cut_263 : decode cX5_cut 263 = .ok (.iload 5, 2) := by decide +kernel
theorem dX5_cut_265 : decode cX5_cut 265 = .ok (.idiv, 1) := by decide +kernel
theorem dX5_cut_266 : decode cX5_cut 266 = .ok (.iload 4, 2) := by decide +kernel
theorem dX5_cut_268 : decode cX5_cut 268 = .ok (.idiv, 1) := by decide +kernel
theorem dX5_cut_269 : decode cX5_cut 269 = .ok (.invokestatic 145, 3) := by decide +kernel
theorem dX5_cut_272 : decode cX5_cut 272 = .ok (.aload_n 0, 1) := by decide +kernel
theorem dX5_cut_273 : decode cX5_cut 273 = .ok (.getfield 13, 3) := by decide +kernel
theorem dX5_cut_276 : decode cX5_cut 276 = .ok (.iconst 1, 1) := by decide +kernel
theorem dX5_cut_277 : decode cX5_cut 277 = .ok (.iaload, 1) := by decide +kernel
theorem dX5_cut_278 : decode cX5_cut 278 = .ok (.iload 7, 2) := by decide +kernel
theorem dX5_cut_280 : decode cX5_cut 280 = .ok (.iload 5, 2) := by decide +kernel
theorem dX5_cut_282 : decode cX5_cut 282 = .ok (.idiv, 1) := by decide +kernel
theorem dX5_cut_283 : decode cX5_cut 283 = .ok (.iload 4, 2) := by decide +kernel
theorem dX5_cut_285 : decode cX5_cut 285 = .ok (.irem, 1) := by decide +kernel
theorem dX5_cut_286 : decode cX5_cut 286 = .ok (.invokestatic 145, 3) := by decide +kernel
theorem dX5_cut_289 : decode cX5_cut 289 = .ok (.aload_n 0, 1) := by decide +kernel
theorem dX5_cut_290 : decode cX5_cut 290 = .ok (.getfield 13, 3) := by decide +kernel
theorem dX5_cut_293 : decode cX5_cut 293 = .ok (.iconst 2, 1) := by decide +kernel
theorem dX5_cut_294 : decode cX5_cut 294 = .ok (.iaload, 1) := by decide +kernel
theorem dX5_cut_295 : decode cX5_cut 295 = .ok (.iload 7, 2) := by decide +kernel
theorem dX5_cut_297 : decode cX5_cut 297 = .ok (.iload 5, 2) := by decide +kernel
theorem dX5_cut_299 : decode cX5_cut 299 = .ok (.irem, 1) := by decide +kernel
theorem dX5_cut_300 : decode cX5_cut 300 = .ok (.invokestatic 145, 3) := by decide +kernel
theorem dX5_cut_303 : decode cX5_cut 303 = .ok (.invokevirtual 148, 3) := by decide +kernel
theorem dX5_cut_306 : decode cX5_cut 306 = .ok (.istore 8, 2) := by decide +kernel
theorem dX5_cut_308 : decode cX5_cut 308 = .ok (.aload_n 0, 1) := by decide +kernel
theorem dX5_cut_309 : decode cX5_cut 309 = .ok (.aload_n 0, 1) := by decide +kernel
theorem dX5_cut_310 : decode cX5_cut 310 = .ok (.getfield 35, 3) := by decide +kernel
theorem dX5_cut_313 : decode cX5_cut 313 = .ok (.aload_n 0, 1) := by decide +kernel
theorem dX5_cut_314 : decode cX5_cut 314 = .ok (.getfield 32, 3) := by decide +kernel
theorem dX5_cut_317 : decode cX5_cut 317 = .ok (.iload_n 1, 1) := by decide +kernel
theorem dX5_cut_318 : decode cX5_cut 318 = .ok (.iaload, 1) := by decide +kernel
theorem dX5_cut_319 : decode cX5_cut 319 = .ok (.iaload, 1) := by decide +kernel
theorem dX5_cut_320 : decode cX5_cut 320 = .ok (.iload 8, 2) := by decide +kernel
theorem dX5_cut_322 : decode cX5_cut 322 = .ok (.iadd, 1) := by decide +kernel
theorem dX5_cut_323 : decode cX5_cut 323 = .ok (.aload_n 0, 1) := by decide +kernel
theorem dX5_cut_324 : decode cX5_cut 324 = .ok (.getfield 35, 3) := by decide +kernel
theorem dX5_cut_327 : decode cX5_cut 327 = .ok (.aload_n 0, 1) := by decide +kernel
theorem dX5_cut_328 : decode cX5_cut 328 = .ok (.getfield 32, 3) := by decide +kernel
theorem dX5_cut_331 : decode cX5_cut 331 = .ok (.iload 6, 2) := by decide +kernel
theorem dX5_cut_333 : decode cX5_cut 333 = .ok (.iaload, 1) := by decide +kernel
theorem dX5_cut_334 : decode cX5_cut 334 = .ok (.iaload, 1) := by decide +kernel
theorem dX5_cut_335 : decode cX5_cut 335 = .ok (.iload 7, 2) := by decide +kernel
theorem dX5_cut_337 : decode cX5_cut 337 = .ok (.iadd, 1) := by decide +kernel
theorem dX5_cut_338 : decode cX5_cut 338 = .ok (.invokevirtual 138, 3) := by decide +kernel
theorem dX5_cut_341 : decode cX5_cut 341 = .ok (.iinc 7 1, 3) := by decide +kernel
theorem dX5_cut_344 : decode cX5_cut 344 = .ok (.goto (-97), 3) := by decide +kernel
theorem dX5_cut_347 : decode cX5_cut 347 = .ok (.aload_n 0, 1) := by decide +kernel
theorem dX5_cut_348 : decode cX5_cut 348 = .ok (.iconst 0, 1) := by decide +kernel
theorem dX5_cut_349 : decode cX5_cut 349 = .ok (.putfield 72, 3) := by decide +kernel
theorem dX5_cut_352 : decode cX5_cut 352 = .ok (.aload_n 0, 1) := by decide +kernel
theorem dX5_cut_353 : decode cX5_cut 353 = .ok (.iload 6, 2) := by decide +kernel
theorem dX5_cut_355 : decode cX5_cut 355 = .ok (.invokevirtual 75, 3) := by decide +kernel
theorem dX5_cut_358 : decode cX5_cut 358 = .ok (.ireturn, 1) := by decide +kernel
theorem dX5_deep_0 : decode cX5_deep 0 = .ok (.aload_n 0, 1) := by decide +kernel
theorem dX5_deep_1 : decode cX5_deep 1 = .ok (.iload_n 1, 1) := by decide +kernel
theorem dX5_deep_2 : decode cX5_deep 2 = .ok (.invokevirtual 131, 3) := by decide +kernel
theorem dX5_deep_5 : decode cX5_deep 5 = .ok (.ifCond .ne 8, 3) := by decide +kernel
theorem dX5_deep_8 : decode cX5_deep 8 = .ok (.bipush 7, 2) := by decide +kernel
theorem dX5_deep_10 : decode cX5_deep 10 = .ok (.goto 64, 3) := by decide +kernel
theorem dX5_deep_13 : decode cX5_deep 13 = .ok (.aload_n 0, 1) := by decide +kernel
theorem dX5_deep_14 : decode cX5_deep 14 = .ok (.getfield 20, 3) := by decide +kernel
theorem dX5_deep_17 : decode cX5_deep 17 = .ok (.iload_n 1, 1) := by decide +kernel
theorem dX5_deep_18 : decode cX5_deep 18 = .ok (.iaload, 1) := by decide +kernel
theorem dX5_deep_19 : decode cX5_deep 19 = .ok (.iconst 1, 1) := by decide +kernel
theorem dX5_deep_20 : decode cX5_deep 20 = .ok (.if_icmp .eq 7, 3) := by decide +kernel
theorem dX5_deep_23 : decode cX5_deep 23 = .ok (.iconst 2, 1) := by decide +kernel
theorem dX5_deep_24 : decode cX5_deep 24 = .ok (.goto 50, 3) := by decide +kernel
theorem dX5_deep_27 : decode cX5_deep 27 = .ok (.aload_n 0, 1) := by decide +kernel
theorem dX5_deep_28 : decode cX5_deep 28 = .ok (.getfield 23, 3) := by decide +kernel
theorem dX5_deep_31 : decode cX5_deep 31 = .ok (.iload_n 1, 1) := by decide +kernel
theorem dX5_deep_32 : decode cX5_deep 32 = .ok (.iaload, 1) := by decide +kernel
theorem dX5_deep_33 : decode cX5_deep 33 = .ok (.iconst 2, 1) := by decide +kernel
theorem dX5_deep_34 : decode cX5_deep 34 = .ok (.if_icmp .eq 8, 3) := by decide +kernel
theorem dX5_deep_37 : decode cX5_deep 37 = .ok (.bipush 9, 2) := by decide +kernel
theorem dX5_deep_39 : decode cX5_deep 39 = .ok (.goto 35, 3) := by decide +kernel
theorem dX5_deep_42 : decode cX5_deep 42 = .ok (.aload_n 0, 1) := by decide +kernel
theorem dX5_deep_43 : decode cX5_deep 43 = .ok (.iload_n 1, 1) := by decide +kernel
theorem dX5_deep_44 : decode cX5_deep 44 = .ok (.iconst 0, 1) := by decide +kernel
theorem dX5_deep_45 : decode cX5_deep 45 = .ok (.invokevirtual 108, 3) := by decide +kernel
theorem dX5_deep_48 : decode cX5_deep 48 = .ok (.ldc2_w 82, 3) := by decide +kernel
theorem dX5_deep_51 : decode cX5_deep 51 = .ok (.lcmp, 1) := by decide +kernel
theorem dX5_deep_52 : decode cX5_deep 52 = .ok (.ifCond .le 7, 3) := by decide +kernel
theorem dX5_deep_55 : decode cX5_deep 55 = .ok (.iconst 5, 1) := by decide +kernel
theorem dX5_deep_56 : decode cX5_deep 56 = .ok (.goto 18, 3) := by decide +kernel
theorem dX5_deep_59 : decode cX5_deep 59 = .ok (.aload_n 0, 1) := by decide +kernel
theorem dX5_deep_60 : decode cX5_deep 60 = .ok (.getfield 98, 3) := by decide +kernel
theorem dX5_deep_63 : decode cX5_deep 63 = .ok (.bipush 24, 2) := by decide +kernel
theorem dX5_deep_65 : decode cX5_deep 65 = .ok (.if_icmp .ne 8, 3) := by decide +kernel
theorem dX5_deep_68 : decode cX5_deep 68 = .ok (.bipush 8, 2) := by decide +kernel
theorem dX5_deep_70 : decode cX5_deep 70 = .ok (.goto 4, 3) := by decide +kernel
theorem dX5_deep_73 : decode cX5_deep 73 = .ok (.iconst 0, 1) := by decide +kernel
theorem dX5_deep_74 : decode cX5_deep 74 = .ok (.istore_n 2, 1) := by decide +kernel
theorem dX5_deep_75 : decode cX5_deep 75 = .ok (.iload_n 2, 1) := by decide +kernel
theorem dX5_deep_76 : decode cX5_deep 76 = .ok (.ifCond .eq 9, 3) := by decide +kernel
theorem dX5_deep_79 : decode cX5_deep 79 = .ok (.aload_n 0, 1) := by decide +kernel
theorem dX5_deep_80 : decode cX5_deep 80 = .ok (.iload_n 2, 1) := by decide +kernel
theorem dX5_deep_81 : decode cX5_deep 81 = .ok (.invokevirtual 68, 3) := by decide +kernel
theorem dX5_deep_84 : decode cX5_deep 84 = .ok (.ireturn, 1) := by decide +kernel
theorem dX5_deep_85 : decode cX5_deep 85 = .ok (.aload_n 0, 1) := by decide +kernel
theorem dX5_deep_86 : decode cX5_deep 86 = .ok (.iconst 4, 1) := by decide +kernel
theorem dX5_deep_87 : decode cX5_deep 87 = .ok (.iload_n 1, 1) := by decide +kernel
theorem dX5_deep_88 : decode cX5_deep 88 = .ok (.invokevirtual 121, 3) := by decide +kernel
theorem dX5_deep_91 : decode cX5_deep 91 = .ok (.istore_n 3, 1) := by decide +kernel
theorem dX5_deep_92 : decode cX5_deep 92 = .ok (.aload_n 0, 1) := by decide +kernel
theorem dX5_deep_93 : decode cX5_deep 93 = .ok (.iload_n 3, 1) := by decide +kernel
theorem dX5_deep_94 : decode cX5_deep 94 = .ok (.invokevirtual 125, 3) := by decide +kernel
theorem dX5_deep_97 : decode cX5_deep 97 = .ok (.aload_n 0, 1) := by decide +kernel
theorem dX5_deep_98 : decode cX5_deep 98 = .ok (.getfield 38, 3) := by decide +kernel
theorem dX5_deep_101 : decode cX5_deep 101 = .ok (.aload_n 0, 1) := by decide +kernel
theorem dX5_deep_102 : decode cX5_deep 102 = .ok (.getfield 32, 3) := by decide +kernel
theorem dX5_deep_105 : decode cX5_deep 105 = .ok (.iload_n 1, 1) := by decide +kernel
theorem dX5_deep_106 : decode cX5_deep 106 = .ok (.iaload, 1) := by decide +kernel
theorem dX5_deep_107 : decode cX5_deep 107 = .ok (.iaload, 1) := by decide +kernel
theorem dX5_deep_108 : decode cX5_deep 108 = .ok (.ifCond .ne 7, 3) := by decide +kernel
theorem dX5_deep_111 : decode cX5_deep 111 = .ok (.lconst 0, 1) := by decide +kernel
theorem dX5_deep_112 : decode cX5_deep 112 = .ok (.goto 9, 3) := by decide +kernel
theorem dX5_deep_115 : decode cX5_deep 115 = .ok (.aload_n 0, 1) := by decide +kernel
theorem dX5_deep_116 : decode cX5_deep 116 = .ok (.iload_n 1, 1) := by decide +kernel
theorem dX5_deep_117 : decode cX5_deep 117 = .ok (.iconst 1, 1) := by decide +kernel
theorem dX5_deep_118 : decode cX5_deep 118 = .ok (.invokevirtual 108, 3) := by decide +kernel
theorem dX5_deep_121 : decode cX5_deep 121 = .ok (.l2i, 1) := by decide +kernel
theorem dX5_deep_122 : decode cX5_deep 122 = .ok (.istore 4, 2) := by decide +kernel
theorem dX5_deep_124 : decode cX5_deep 124 = .ok (.iconst 0, 1) := by decide +kernel
theorem dX5_deep_125 : decode cX5_deep 125 = .ok (.istore 5, 2) := by decide +kernel
theorem dX5_deep_127 : decode cX5_deep 127 = .ok (.iload 5, 2) := by decide +kernel
theorem dX5_deep_129 : decode cX5_deep 129 = .ok (.aload_n 0, 1) := by decide +kernel
theorem dX5_deep_130 : decode cX5_deep 130 = .ok (.getfield 38, 3) := by decide +kernel
theorem dX5_deep_133 : decode cX5_deep 133 = .ok (.aload_n 0, 1) := by decide +kernel
theorem dX5_deep_134 : decode cX5_deep 134 = .ok (.getfield 32, 3) := by decide +kernel
theorem dX5_deep_137 : decode cX5_deep 137 = .ok (.iload_n 1, 1) := by decide +kernel
theorem dX5_deep_138 : decode cX5_deep 138 = .ok (.iaload, 1) := by decide +kernel
theorem dX5_deep_139 : decode cX5_deep 139 = .ok (.iaload, 1) := by decide +kernel
theorem dX5_deep_140 : decode cX5_deep 140 = .ok (.if_icmp .ge 55, 3) := by decide +kernel
theorem dX5_deep_143 : decode cX5_deep 143 = .ok (.aload_n 0, 1) := by decide +kernel
theorem dX5_deep_144 : decode cX5_deep 144 = .ok (.aload_n 0, 1) := by decide +kernel
theorem dX5_deep_145 : decode cX5_deep 145 = .ok (.getfield 35, 3) := by decide +kernel
theorem dX5_deep_148 : decode cX5_deep 148 = .ok (.aload_n 0, 1) := by decide +kernel
theorem dX5_deep_149 : decode cX5_deep 149 = .ok (.getfield 32, 3) := by decide +kernel
theorem dX5_deep_152 : decode cX5_deep 152 = .ok (.iload_n 1, 1) := by decide +kernel
theorem dX5_deep_153 : decode cX5_deep 153 = .ok (.iaload, 1) := by decide +kernel
theorem dX5_deep_154 : decode cX5_deep 154 = .ok (.iaload, 1) := by decide +kernel
theorem dX5_deep_155 : decode cX5_deep 155 = .ok (.iload 5, 2) := by decide +kernel
theorem dX5_deep_157 : decode cX5_deep 157 = .ok (.iadd, 1) := by decide +kernel
theorem dX5_deep_158 : decode cX5_deep 158 = .ok (.aload_n 0, 1) := by decide +kernel
theorem dX5_deep_159 : decode cX5_deep 159 = .ok (.getfield 35, 3) := by decide +kernel
theorem dX5_deep_162 : decode cX5_deep 162 = .ok (.aload_n 0, 1) := by decide +kernel
theorem dX5_deep_163 : decode cX5_deep 163 = .ok (.getfield 50, 3) := by decide +kernel
theorem dX5_deep_166 : decode cX5_deep 166 = .ok (.aload_n 0, 1) := by decide +kernel
theorem dX5_deep_167 : decode cX5_deep 167 = .ok (.getfield 32, 3) := by decide +kernel
theorem dX5_deep_170 : decode cX5_deep 170 = .ok (.iload_n 3, 1) := by decide +kernel
theorem dX5_deep_171 : decode cX5_deep 171 = .ok (.iaload, 1) := by decide +kernel
theorem dX5_deep_172 : decode cX5_deep 172 = .ok (.iload 5, 2) := by decide +kernel
theorem dX5_deep_174 : decode cX5_deep 174 = .ok (.iload 4, 2) := by decide +kernel
theorem dX5_deep_176 : decode cX5_deep 176 = .ok (.idiv, 1) := by decide +kernel
theorem dX5_deep_177 : decode cX5_deep 177 = .ok (.iadd, 1) := by decide +kernel
theorem dX5_deep_178 : decode cX5_deep 178 = .ok (.iaload, 1) := by decide +kernel
theorem dX5_deep_179 : decode cX5_deep 179 = .ok (.iaload, 1) := by decide +kernel
theorem dX5_deep_180 : decode cX5_deep 180 = .ok (.iload 5, 2) := by decide +kernel
theorem dX5_deep_182 : decode cX5_deep 182 = .ok (.iload 4, 2) := by decide +kernel
theorem dX5_deep_184 : decode cX5_deep 184 = .ok (.irem, 1) := by decide +kernel
theorem dX5_deep_185 : decode cX5_deep 185 = .ok (.iadd, 1) := by decide +kernel
theorem dX5_deep_186 : decode cX5_deep 186 = .ok (.invokevirtual 138, 3) := by decide +kernel
theorem dX5_deep_189 : decode cX5_deep 189 = .ok (.iinc 5 1, 3) := by decide +kernel
theorem dX5_deep_192 : decode cX5_deep 192 = .ok (.goto (-65), 3) := by decide +kernel
theorem dX5_deep_195 : decode cX5_deep 195 = .ok (.aload_n 0, 1) := by decide +kernel
theorem dX5_deep_196 : decode cX5_deep 196 = .ok (.iload_n 3, 1) := by decide +kernel
theorem dX5_deep_197 : decode cX5_deep 197 = .ok (.invokevirtual 75, 3) := by decide +kernel
theorem dX5_deep_200 : decode cX5_deep 200 = .ok (.ireturn, 1) := by decide +kernel
theorem dX5_tableRows_0 : decode cX5_tableRows 0 = .ok (.aload_n 0, 1) := by decide +kernel
theorem dX5_tableRows_1 : decode cX5_tableRows 1 = .ok (.iload_n 1, 1) := by decide +kernel
theorem dX5_tableRows_2 : decode cX5_tableRows 2 = .ok (.iconst 0, 1) := by decide +kernel
theorem dX5_tableRows_3 : decode cX5_tableRows 3 = .ok (.invokevirtual 108, 3) := by decide +kernel
theorem dX5_tableRows_6 : decode cX5_tableRows 6 = .ok (.l2i, 1) := by decide +kernel
theorem dX5_tableRows_7 : decode cX5_tableRows 7 = .ok (.ireturn, 1) := by decide +kernel
theorem dX5_flat_0 : decode cX5_flat 0 = .ok (.aload_n 0, 1) := by decide +kernel
theorem dX5_flat_1 : decode cX5_flat 1 = .ok (.iload_n 1, 1) := by decide +kernel
theorem dX5_flat_2 : decode cX5_flat 2 = .ok (.invokevirtual 131, 3) := by decide +kernel
theorem dX5_flat_5 : decode cX5_flat 5 = .ok (.ifCond .ne 8, 3) := by decide +kernel
theorem dX5_flat_8 : decode cX5_flat 8 = .ok (.bipush 7, 2) := by decide +kernel
theorem dX5_flat_10 : decode cX5_flat 10 = .ok (.goto 18, 3) := by decide +kernel
theorem dX5_flat_13 : decode cX5_flat 13 = .ok (.aload_n 0, 1) := by decide +kernel
theorem dX5_flat_14 : decode cX5_flat 14 = .ok (.getfield 20, 3) := by decide +kernel
theorem dX5_flat_17 : decode cX5_flat 17 = .ok (.iload_n 1, 1) := by decide +kernel
theorem dX5_flat_18 : decode cX5_flat 18 = .ok (.iaload, 1) := by decide +kernel
theorem dX5_flat_19 : decode cX5_flat 19 = .ok (.iconst 4, 1) := by decide +kernel
theorem dX5_flat_20 : decode cX5_flat 20 = .ok (.if_icmp .eq 7, 3) := by decide +kernel
theorem dX5_flat_23 : decode cX5_flat 23 = .ok (.iconst 2, 1) := by decide +kernel
theorem dX5_flat_24 : decode cX5_flat 24 = .ok (.goto 4, 3) := by decide +kernel
theorem dX5_flat_27 : decode cX5_flat 27 = .ok (.iconst 0, 1) := by decide +kernel
theorem dX5_flat_28 : decode cX5_flat 28 = .ok (.istore_n 2, 1) := by decide +kernel
theorem dX5_flat_29 : decode cX5_flat 29 = .ok (.iconst 0, 1) := by decide +kernel
theorem dX5_flat_30 : decode cX5_flat 30 = .ok (.istore_n 3, 1) := by decide +kernel
theorem dX5_flat_31 : decode cX5_flat 31 = .ok (.iconst 0, 1) := by decide +kernel
theorem dX5_flat_32 : decode cX5_flat 32 = .ok (.istore 4, 2) := by decide +kernel
theorem dX5_flat_34 : decode cX5_flat 34 = .ok (.iload_n 2, 1) := by decide +kernel
theorem dX5_flat_35 : decode cX5_flat 35 = .ok (.ifCond .ne 88, 3) := by decide +kernel
theorem dX5_flat_38 : decode cX5_flat 38 = .ok (.iload 4, 2) := by decide +kernel
theorem dX5_flat_40 : decode cX5_flat 40 = .ok (.aload_n 0, 1) := by decide +kernel
theorem dX5_flat_41 : decode cX5_flat 41 = .ok (.iload_n 1, 1) := by decide +kernel
theorem dX5_flat_42 : decode cX5_flat 42 = .ok (.invokevirtual 155, 3) := by decide +kernel
theorem dX5_flat_45 : decode cX5_flat 45 = .ok (.if_icmp .ge 78, 3) := by decide +kernel
theorem dX5_flat_48 : decode cX5_flat 48 = .ok (.aload_n 0, 1) := by decide +kernel
theorem dX5_flat_49 : decode cX5_flat 49 = .ok (.getfield 50, 3) := by decide +kernel
theorem dX5_flat_52 : decode cX5_flat 52 = .ok (.aload_n 0, 1) := by decide +kernel
theorem dX5_flat_53 : decode cX5_flat 53 = .ok (.getfield 32, 3) := by decide +kernel
theorem dX5_flat_56 : decode cX5_flat 56 = .ok (.iload_n 1, 1) := by decide +kernel
theorem dX5_flat_57 : decode cX5_flat 57 = .ok (.iaload, 1) := by decide +kernel
theorem dX5_flat_58 : decode cX5_flat 58 = .ok (.iload 4, 2) := by decide +kernel
theorem dX5_flat_60 : decode cX5_flat 60 = .ok (.iadd, 1) := by decide +kernel
theorem dX5_flat_61 : decode cX5_flat 61 = .ok (.iaload, 1) := by decide +kernel
theorem dX5_flat_62 : decode cX5_flat 62 = .ok (.istore 5, 2) := by decide +kernel
theorem dX5_flat_64 : decode cX5_flat 64 = .ok (.iload 5, 2) := by decide +kernel
theorem dX5_flat_66 : decode cX5_flat 66 = .ok (.iconst (-1), 1) := by decide +kernel
theorem dX5_flat_67 : decode cX5_flat 67 = .ok (.if_icmp .ne 7, 3) := by decide +kernel
theorem dX5_flat_70 : decode cX5_flat 70 = .ok (.iconst 1, 1) := by decide +kernel
theorem dX5_flat_71 : decode cX5_flat 71 = .ok (.goto 27, 3) := by decide +kernel
theorem dX5_flat_74 : decode cX5_flat 74 = .ok (.aload_n 0, 1) := by decide +kernel
theorem dX5_flat_75 : decode cX5_flat 75 = .ok (.getfield 38, 3) := by decide +kernel
theorem dX5_flat_78 : decode cX5_flat 78 = .ok (.iload 5, 2) := by decide +kernel
theorem dX5_flat_80 : decode cX5_flat 80 = .ok (.iaload, 1) := by decide +kernel
theorem dX5_flat_81 : decode cX5_flat 81 = .ok (.i2l, 1) := by decide +kernel
theorem dX5_flat_82 : decode cX5_flat 82 = .ok (.aload_n 0, 1) := by decide +kernel
theorem dX5_flat_83 : decode cX5_flat 83 = .ok (.iload_n 1, 1) := by decide +kernel
theorem dX5_flat_84 : decode cX5_flat 84 = .ok (.iconst 1, 1) := by decide +kernel
theorem dX5_flat_85 : decode cX5_flat 85 = .ok (.invokevirtual 108, 3) := by decide +kernel
theorem dX5_flat_88 : decode cX5_flat 88 = .ok (.lcmp, 1) := by decide +kernel
theorem dX5_flat_89 : decode cX5_flat 89 = .ok (.ifCond .eq 8, 3) := by decide +kernel
theorem dX5_flat_92 : decode cX5_flat 92 = .ok (.bipush 11, 2) := by decide +kernel
theorem dX5_flat_94 : decode cX5_flat 94 = .ok (.goto 4, 3) := by decide +kernel
theorem dX5_flat_97 : decode cX5_flat 97 = .ok (.iconst 0, 1) := by decide +kernel
theorem dX5_flat_98 : decode cX5_flat 98 = .ok (.istore_n 2, 1) := by decide +kernel
theorem dX5_flat_99 : decode cX5_flat 99 = .ok (.iload_n 3, 1) := by decide +kernel
theorem dX5_flat_100 : decode cX5_flat 100 = .ok (.iload_n 2, 1) := by decide +kernel
theorem dX5_flat_101 : decode cX5_flat 101 = .ok (.ifCond .ne 13, 3) := by decide +kernel
theorem dX5_flat_104 : decode cX5_flat 104 = .ok (.aload_n 0, 1) := by decide +kernel
theorem dX5_flat_105 : decode cX5_flat 105 = .ok (.getfield 38, 3) := by decide +kernel
theorem dX5_flat_108 : decode cX5_flat 108 = .ok (.iload 5, 2) := by decide +kernel
theorem dX5_flat_110 : decode cX5_flat 110 = .ok (.iaload, 1) := by decide +kernel
theorem dX5_flat_111 : decode cX5_flat 111 = .ok (.goto 4, 3) := by decide +kernel
theorem dX5_flat_114 : decode cX5_flat 114 = .ok (.iconst 0, 1) := by decide +kernel
theorem dX5_flat_115 : decode cX5_flat 115 = .ok (.iadd, 1) := by decide +kernel
theorem dX5_flat_116 : decode cX5_flat 116 = .ok (.istore_n 3, 1) := by decide +kernel
theorem dX5_flat_117 : decode cX5_flat 117 = .ok (.iinc 4 1, 3) := by decide +kernel
theorem dX5_flat_120 : decode cX5_flat 120 = .ok (.goto (-86), 3) := by decide +kernel
theorem dX5_flat_123 : decode cX5_flat 123 = .ok (.iload_n 2, 1) := by decide +kernel
theorem dX5_flat_124 : decode cX5_flat 124 = .ok (.ifCond .ne 15, 3) := by decide +kernel
theorem dX5_flat_127 : decode cX5_flat 127 = .ok (.aload_n 0, 1) := by decide +kernel
theorem dX5_flat_128 : decode cX5_flat 128 = .ok (.getfield 98, 3) := by decide +kernel
theorem dX5_flat_131 : decode cX5_flat 131 = .ok (.bipush 24, 2) := by decide +kernel
theorem dX5_flat_133 : decode cX5_flat 133 = .ok (.if_icmp .ne 6, 3) := by decide +kernel
theorem dX5_flat_136 : decode cX5_flat 136 = .ok (.bipush 8, 2) := by decide +kernel
theorem dX5_flat_138 : decode cX5_flat 138 = .ok (.istore_n 2, 1) := by decide +kernel
theorem dX5_flat_139 : decode cX5_flat 139 = .ok (.iload_n 2, 1) := by decide +kernel
theorem dX5_flat_140 : decode cX5_flat 140 = .ok (.ifCond .eq 9, 3) := by decide +kernel
theorem dX5_flat_143 : decode cX5_flat 143 = .ok (.aload_n 0, 1) := by decide +kernel
theorem dX5_flat_144 : decode cX5_flat 144 = .ok (.iload_n 2, 1) := by decide +kernel
theorem dX5_flat_145 : decode cX5_flat 145 = .ok (.invokevirtual 68, 3) := by decide +kernel
theorem dX5_flat_148 : decode cX5_flat 148 = .ok (.ireturn, 1) := by decide +kernel
theorem dX5_flat_149 : decode cX5_flat 149 = .ok (.aload_n 0, 1) := by decide +kernel
theorem dX5_flat_150 : decode cX5_flat 150 = .ok (.iconst 1, 1) := by decide +kernel
theorem dX5_flat_151 : decode cX5_flat 151 = .ok (.iload_n 1, 1) := by decide +kernel
theorem dX5_flat_152 : decode cX5_flat 152 = .ok (.invokevirtual 121, 3) := by decide +kernel
theorem dX5_flat_155 : decode cX5_flat 155 = .ok (.istore 4, 2) := by decide +kernel
theorem dX5_flat_157 : decode cX5_flat 157 = .ok (.aload_n 0, 1) := by decide +kernel
theorem dX5_flat_158 : decode cX5_flat 158 = .ok (.getfield 32, 3) := by decide +kernel
theorem dX5_flat_161 : decode cX5_flat 161 = .ok (.iload 4, 2) := by decide +kernel
theorem dX5_flat_163 : decode cX5_flat 163 = .ok (.aload_n 0, 1) := by decide +kernel
theorem dX5_flat_164 : decode cX5_flat 164 = .ok (.iload_n 3, 1) := by decide +kernel
theorem dX5_flat_165 : decode cX5_flat 165 = .ok (.invokevirtual 111, 3) := by decide +kernel
theorem dX5_flat_168 : decode cX5_flat 168 = .ok (.iastore, 1) := by decide +kernel
theorem dX5_flat_169 : decode cX5_flat 169 = .ok (.aload_n 0, 1) := by decide +kernel
theorem dX5_flat_170 : decode cX5_flat 170 = .ok (.getfield 35, 3) := by decide +kernel
theorem dX5_flat_173 : decode cX5_flat 173 = .ok (.aload_n 0, 1) := by decide +kernel
theorem dX5_flat_174 : decode cX5_flat 174 = .ok (.getfield 32, 3) := by decide +kernel
theorem dX5_flat_177 : decode cX5_flat 177 = .ok (.iload 4, 2) := by decide +kernel
theorem dX5_flat_179 : decode cX5_flat 179 = .ok (.iaload, 1) := by decide +kernel
theorem dX5_flat_180 : decode cX5_flat 180 = .ok (.iaload, 1) := by decide +kernel
theorem dX5_flat_181 : decode cX5_flat 181 = .ok (.istore 5, 2) := by decide +kernel
theorem dX5_flat_183 : decode cX5_flat 183 = .ok (.iconst 0, 1) := by decide +kernel
theorem dX5_flat_184 : decode cX5_flat 184 = .ok (.istore 6, 2) := by decide +kernel
theorem dX5_flat_186 : decode cX5_flat 186 = .ok (.iload 6, 2) := by decide +kernel
theorem dX5_flat_188 : decode cX5_flat 188 = .ok (.aload_n 0, 1) := by decide +kernel
theorem dX5_flat_189 : decode cX5_flat 189 = .ok (.iload_n 1, 1) := by decide +kernel
theorem dX5_flat_190 : decode cX5_flat 190 = .ok (.invokevirtual 155, 3) := by decide +kernel
theorem dX5_flat_193 : decode cX5_flat 193 = .ok (.if_icmp .ge 65, 3) := by decide +kernel
theorem dX5_flat_196 : decode cX5_flat 196 = .ok (.aload_n 0, 1) := by decide +kernel
theorem dX5_flat_197 : decode cX5_flat 197 = .ok (.getfield 50, 3) := by decide +kernel
theorem dX5_flat_200 : decode cX5_flat 200 = .ok (.aload_n 0, 1) := by decide +kernel
theorem dX5_flat_201 : decode cX5_flat 201 = .ok (.getfield 32, 3) := by decide +kernel
theorem dX5_flat_204 : decode cX5_flat 204 = .ok (.iload_n 1, 1) := by decide +kernel
theorem dX5_flat_205 : decode cX5_flat 205 = .ok (.iaload, 1) := by decide +kernel
theorem dX5_flat_206 : decode cX5_flat 206 = .ok (.iload 6, 2) := by decide +kernel
theorem dX5_flat_208 : decode cX5_flat 208 = .ok (.iadd, 1) := by decide +kernel
theorem dX5_flat_209 : decode cX5_flat 209 = .ok (.iaload, 1) := by decide +kernel
theorem dX5_flat_210 : decode cX5_flat 210 = .ok (.istore 7, 2) := by decide +kernel
theorem dX5_flat_212 : decode cX5_flat 212 = .ok (.iconst 0, 1) := by decide +kernel
theorem dX5_flat_213 : decode cX5_flat 213 = .ok (.istore 8, 2) := by decide +kernel
theorem dX5_flat_215 : decode cX5_flat 215 = .ok (.iload 8, 2) := by decide +kernel
theorem dX5_flat_217 : decode cX5_flat 217 = .ok (.aload_n 0, 1) := by decide +kernel
theorem dX5_flat_218 : decode cX5_flat 218 = .ok (.getfield 38, 3) := by decide +kernel
theorem dX5_flat_221 : decode cX5_flat 221 = .ok (.iload 7, 2) := by decide +kernel
theorem dX5_flat_223 : decode cX5_flat 223 = .ok (.iaload, 1) := by decide +kernel
theorem dX5_flat_224 : decode cX5_flat 224 = .ok (.if_icmp .ge 28, 3) := by decide +kernel
theorem dX5_flat_227 : decode cX5_flat 227 = .ok (.aload_n 0, 1) := by decide +kernel
theorem dX5_flat_228 : decode cX5_flat 228 = .ok (.aload_n 0, 1) := by decide +kernel
theorem dX5_flat_229 : decode cX5_flat 229 = .ok (.getfield 35, 3) := by decide +kernel
theorem dX5_flat_232 : decode cX5_flat 232 = .ok (.iload 7, 2) := by decide +kernel
theorem dX5_flat_234 : decode cX5_flat 234 = .ok (.iaload, 1) := by decide +kernel
theorem dX5_flat_235 : decode cX5_flat 235 = .ok (.iload 8, 2) := by decide +kernel
theorem dX5_flat_237 : decode cX5_flat 237 = .ok (.iadd, 1) := by decide +kernel
theorem dX5_flat_238 : decode cX5_flat 238 = .ok (.iload 5, 2) := by decide +kernel
theorem dX5_flat_240 : decode cX5_flat 240 = .ok (.invokevirtual 138, 3) := by decide +kernel
theorem dX5_flat_243 : decode cX5_flat 243 = .ok (.iinc 5 1, 3) := by decide +kernel
theorem dX5_flat_246 : decode cX5_flat 246 = .ok (.iinc 8 1, 3) := by decide +kernel
theorem dX5_flat_249 : decode cX5_flat 249 = .ok (.goto (-34), 3) := by decide +kernel
theorem dX5_flat_252 : decode cX5_flat 252 = .ok (.iinc 6 1, 3) := by decide +kernel
theorem dX5_flat_255 : decode cX5_flat 255 = .ok (.goto (-69), 3) := by decide +kernel
theorem dX5_flat_258 : decode cX5_flat 258 = .ok (.aload_n 0, 1) := by decide +kernel
theorem dX5_flat_259 : decode cX5_flat 259 = .ok (.iload 4, 2) := by decide +kernel
theorem dX5_flat_261 : decode cX5_flat 261 = .ok (.invokevirtual 75, 3) := by decide +kernel
theorem dX5_flat_264 : decode cX5_flat 264 = .ok (.ireturn, 1) := by decide +kernel
theorem dX5_wantsRow_0 : decode cX5_wantsRow 0 = .ok (.aload_n 0, 1) := by decide +kernel
theorem dX5_wantsRow_1 : decode cX5_wantsRow 1 = .ok (.iload_n 1, 1) := by decide +kernel
theorem dX5_wantsRow_2 : decode cX5_wantsRow 2 = .ok (.invokevirtual 131, 3) := by decide +kernel
theorem dX5_wantsRow_5 : decode cX5_wantsRow 5 = .ok (.ifCond .ne 8, 3) := by decide +kernel
theorem dX5_wantsRow_8 : decode cX5_wantsRow 8 = .ok (.bipush 7, 2) := by decide +kernel
theorem dX5_wantsRow_10 : decode cX5_wantsRow 10 = .ok (.goto 48, 3) := by decide +kernel
theorem dX5_wantsRow_13 : decode cX5_wantsRow 13 = .ok (.aload_n 0, 1) := by decide +kernel
theorem dX5_wantsRow_14 : decode cX5_wantsRow 14 = .ok (.getfield 20, 3) := by decide +kernel
theorem dX5_wantsRow_17 : decode cX5_wantsRow 17 = .ok (.iload_n 1, 1) := by decide +kernel
theorem dX5_wantsRow_18 : decode cX5_wantsRow 18 = .ok (.iaload, 1) := by decide +kernel
theorem dX5_wantsRow_19 : decode cX5_wantsRow 19 = .ok (.iconst 4, 1) := by decide +kernel
theorem dX5_wantsRow_20 : decode cX5_wantsRow 20 = .ok (.if_icmp .eq 7, 3) := by decide +kernel
theorem dX5_wantsRow_23 : decode cX5_wantsRow 23 = .ok (.iconst 2, 1) := by decide +kernel
theorem dX5_wantsRow_24 : decode cX5_wantsRow 24 = .ok (.goto 34, 3) := by decide +kernel
theorem dX5_wantsRow_27 : decode cX5_wantsRow 27 = .ok (.iload_n 2, 1) := by decide +kernel
theorem dX5_wantsRow_28 : decode cX5_wantsRow 28 = .ok (.i2l, 1) := by decide +kernel
theorem dX5_wantsRow_29 : decode cX5_wantsRow 29 = .ok (.aload_n 0, 1) := by decide +kernel
theorem dX5_wantsRow_30 : decode cX5_wantsRow 30 = .ok (.getfield 26, 3) := by decide +kernel
theorem dX5_wantsRow_33 : decode cX5_wantsRow 33 = .ok (.iconst 3, 1) := by decide +kernel
theorem dX5_wantsRow_34 : decode cX5_wantsRow 34 = .ok (.iload_n 1, 1) := by decide +kernel
theorem dX5_wantsRow_35 : decode cX5_wantsRow 35 = .ok (.imul, 1) := by decide +kernel
theorem dX5_wantsRow_36 : decode cX5_wantsRow 36 = .ok (.iaload, 1) := by decide +kernel
theorem dX5_wantsRow_37 : decode cX5_wantsRow 37 = .ok (.i2l, 1) := by decide +kernel
theorem dX5_wantsRow_38 : decode cX5_wantsRow 38 = .ok (.aload_n 0, 1) := by decide +kernel
theorem dX5_wantsRow_39 : decode cX5_wantsRow 39 = .ok (.getfield 29, 3) := by decide +kernel
theorem dX5_wantsRow_42 : decode cX5_wantsRow 42 = .ok (.iconst 3, 1) := by decide +kernel
theorem dX5_wantsRow_43 : decode cX5_wantsRow 43 = .ok (.iload_n 1, 1) := by decide +kernel
theorem dX5_wantsRow_44 : decode cX5_wantsRow 44 = .ok (.imul, 1) := by decide +kernel
theorem dX5_wantsRow_45 : decode cX5_wantsRow 45 = .ok (.iaload, 1) := by decide +kernel
theorem dX5_wantsRow_46 : decode cX5_wantsRow 46 = .ok (.i2l, 1) := by decide +kernel
theorem dX5_wantsRow_47 : decode cX5_wantsRow 47 = .ok (.invokestatic 101, 3) := by decide +kernel
theorem dX5_wantsRow_50 : decode cX5_wantsRow 50 = .ok (.ifCond .eq 7, 3) := by decide +kernel
theorem dX5_wantsRow_53 : decode cX5_wantsRow 53 = .ok (.iconst 0, 1) := by decide +kernel
theorem dX5_wantsRow_54 : decode cX5_wantsRow 54 = .ok (.goto 4, 3) := by decide +kernel
theorem dX5_wantsRow_57 : decode cX5_wantsRow 57 = .ok (.iconst 3, 1) := by decide +kernel
theorem dX5_wantsRow_58 : decode cX5_wantsRow 58 = .ok (.ireturn, 1) := by decide +kernel
theorem dX5_slotOf_0 : decode cX5_slotOf 0 = .ok (.aload_n 0, 1) := by decide +kernel
theorem dX5_slotOf_1 : decode cX5_slotOf 1 = .ok (.getfield 32, 3) := by decide +kernel
theorem dX5_slotOf_4 : decode cX5_slotOf 4 = .ok (.iload_n 1, 1) := by decide +kernel
theorem dX5_slotOf_5 : decode cX5_slotOf 5 = .ok (.iaload, 1) := by decide +kernel
theorem dX5_slotOf_6 : decode cX5_slotOf 6 = .ok (.iload_n 2, 1) := by decide +kernel
theorem dX5_slotOf_7 : decode cX5_slotOf 7 = .ok (.iadd, 1) := by decide +kernel
theorem dX5_slotOf_8 : decode cX5_slotOf 8 = .ok (.aload_n 0, 1) := by decide +kernel
theorem dX5_slotOf_9 : decode cX5_slotOf 9 = .ok (.getfield 26, 3) := by decide +kernel
theorem dX5_slotOf_12 : decode cX5_slotOf 12 = .ok (.iconst 3, 1) := by decide +kernel
theorem dX5_slotOf_13 : decode cX5_slotOf 13 = .ok (.iload_n 1, 1) := by decide +kernel
theorem dX5_slotOf_14 : decode cX5_slotOf 14 = .ok (.imul, 1) := by decide +kernel
theorem dX5_slotOf_15 : decode cX5_slotOf 15 = .ok (.iaload, 1) := by decide +kernel
theorem dX5_slotOf_16 : decode cX5_slotOf 16 = .ok (.isub, 1) := by decide +kernel
theorem dX5_slotOf_17 : decode cX5_slotOf 17 = .ok (.ireturn, 1) := by decide +kernel
theorem dX5_ragged_0 : decode cX5_ragged 0 = .ok (.aload_n 0, 1) := by decide +kernel
theorem dX5_ragged_1 : decode cX5_ragged 1 = .ok (.iload_n 1, 1) := by decide +kernel
theorem dX5_ragged_2 : decode cX5_ragged 2 = .ok (.iload_n 2, 1) := by decide +kernel
theorem dX5_ragged_3 : decode cX5_ragged 3 = .ok (.invokevirtual 158, 3) := by decide +kernel
theorem dX5_ragged_6 : decode cX5_ragged 6 = .ok (.istore 4, 2) := by decide +kernel
theorem dX5_ragged_8 : decode cX5_ragged 8 = .ok (.iload 4, 2) := by decide +kernel
theorem dX5_ragged_10 : decode cX5_ragged 10 = .ok (.iconst 3, 1) := by decide +kernel
theorem dX5_ragged_11 : decode cX5_ragged 11 = .ok (.if_icmp .ne 9, 3) := by decide +kernel
theorem dX5_ragged_14 : decode cX5_ragged 14 = .ok (.aload_n 0, 1) := by decide +kernel
theorem dX5_ragged_15 : decode cX5_ragged 15 = .ok (.iconst 0, 1) := by decide +kernel
theorem dX5_ragged_16 : decode cX5_ragged 16 = .ok (.invokevirtual 152, 3) := by decide +kernel
theorem dX5_ragged_19 : decode cX5_ragged 19 = .ok (.ireturn, 1) := by decide +kernel
theorem dX5_ragged_20 : decode cX5_ragged 20 = .ok (.iload 4, 2) := by decide +kernel
theorem dX5_ragged_22 : decode cX5_ragged 22 = .ok (.ifCond .ne 25, 3) := by decide +kernel
theorem dX5_ragged_25 : decode cX5_ragged 25 = .ok (.iload_n 3, 1) := by decide +kernel
theorem dX5_ragged_26 : decode cX5_ragged 26 = .ok (.ifCond .ge 7, 3) := by decide +kernel
theorem dX5_ragged_29 : decode cX5_ragged 29 = .ok (.iconst 4, 1) := by decide +kernel
theorem dX5_ragged_30 : decode cX5_ragged 30 = .ok (.goto 19, 3) := by decide +kernel
theorem dX5_ragged_33 : decode cX5_ragged 33 = .ok (.iload_n 3, 1) := by decide +kernel
theorem dX5_ragged_34 : decode cX5_ragged 34 = .ok (.bipush 100, 2) := by decide +kernel
theorem dX5_ragged_36 : decode cX5_ragged 36 = .ok (.if_icmp .le 7, 3) := by decide +kernel
theorem dX5_ragged_39 : decode cX5_ragged 39 = .ok (.iconst 5, 1) := by decide +kernel
theorem dX5_ragged_40 : decode cX5_ragged 40 = .ok (.goto 9, 3) := by decide +kernel
theorem dX5_ragged_43 : decode cX5_ragged 43 = .ok (.iconst 0, 1) := by decide +kernel
theorem dX5_ragged_44 : decode cX5_ragged 44 = .ok (.goto 5, 3) := by decide +kernel
theorem dX5_ragged_47 : decode cX5_ragged 47 = .ok (.iload 4, 2) := by decide +kernel
theorem dX5_ragged_49 : decode cX5_ragged 49 = .ok (.istore 4, 2) := by decide +kernel
theorem dX5_ragged_51 : decode cX5_ragged 51 = .ok (.iload 4, 2) := by decide +kernel
theorem dX5_ragged_53 : decode cX5_ragged 53 = .ok (.ifCond .eq 10, 3) := by decide +kernel
theorem dX5_ragged_56 : decode cX5_ragged 56 = .ok (.aload_n 0, 1) := by decide +kernel
theorem dX5_ragged_57 : decode cX5_ragged 57 = .ok (.iload 4, 2) := by decide +kernel
theorem dX5_ragged_59 : decode cX5_ragged 59 = .ok (.invokevirtual 68, 3) := by decide +kernel
theorem dX5_ragged_62 : decode cX5_ragged 62 = .ok (.ireturn, 1) := by decide +kernel
theorem dX5_ragged_63 : decode cX5_ragged 63 = .ok (.aload_n 0, 1) := by decide +kernel
theorem dX5_ragged_64 : decode cX5_ragged 64 = .ok (.getfield 50, 3) := by decide +kernel
theorem dX5_ragged_67 : decode cX5_ragged 67 = .ok (.aload_n 0, 1) := by decide +kernel
theorem dX5_ragged_68 : decode cX5_ragged 68 = .ok (.iload_n 1, 1) := by decide +kernel
theorem dX5_ragged_69 : decode cX5_ragged 69 = .ok (.iload_n 2, 1) := by decide +kernel
theorem dX5_ragged_70 : decode cX5_ragged 70 = .ok (.invokevirtual 161, 3) := by decide +kernel
theorem dX5_ragged_73 : decode cX5_ragged 73 = .ok (.aload_n 0, 1) := by decide +kernel
theorem dX5_ragged_74 : decode cX5_ragged 74 = .ok (.iload_n 3, 1) := by decide +kernel
theorem dX5_ragged_75 : decode cX5_ragged 75 = .ok (.invokevirtual 111, 3) := by decide +kernel
theorem dX5_ragged_78 : decode cX5_ragged 78 = .ok (.iastore, 1) := by decide +kernel
theorem dX5_ragged_79 : decode cX5_ragged 79 = .ok (.aload_n 0, 1) := by decide +kernel
theorem dX5_ragged_80 : decode cX5_ragged 80 = .ok (.iconst 1, 1) := by decide +kernel
theorem dX5_ragged_81 : decode cX5_ragged 81 = .ok (.invokevirtual 75, 3) := by decide +kernel
theorem dX5_ragged_84 : decode cX5_ragged 84 = .ok (.ireturn, 1) := by decide +kernel
theorem dX5_without_0 : decode cX5_without 0 = .ok (.aload_n 0, 1) := by decide +kernel
theorem dX5_without_1 : decode cX5_without 1 = .ok (.iload_n 1, 1) := by decide +kernel
theorem dX5_without_2 : decode cX5_without 2 = .ok (.iload_n 2, 1) := by decide +kernel
theorem dX5_without_3 : decode cX5_without 3 = .ok (.invokevirtual 158, 3) := by decide +kernel
theorem dX5_without_6 : decode cX5_without 6 = .ok (.istore_n 3, 1) := by decide +kernel
theorem dX5_without_7 : decode cX5_without 7 = .ok (.iload_n 3, 1) := by decide +kernel
theorem dX5_without_8 : decode cX5_without 8 = .ok (.iconst 3, 1) := by decide +kernel
theorem dX5_without_9 : decode cX5_without 9 = .ok (.if_icmp .ne 9, 3) := by decide +kernel
theorem dX5_without_12 : decode cX5_without 12 = .ok (.aload_n 0, 1) := by decide +kernel
theorem dX5_without_13 : decode cX5_without 13 = .ok (.iconst 0, 1) := by decide +kernel
theorem dX5_without_14 : decode cX5_without 14 = .ok (.invokevirtual 152, 3) := by decide +kernel
theorem dX5_without_17 : decode cX5_without 17 = .ok (.ireturn, 1) := by decide +kernel
theorem dX5_without_18 : decode cX5_without 18 = .ok (.iload_n 3, 1) := by decide +kernel
theorem dX5_without_19 : decode cX5_without 19 = .ok (.ifCond .eq 9, 3) := by decide +kernel
theorem dX5_without_22 : decode cX5_without 22 = .ok (.aload_n 0, 1) := by decide +kernel
theorem dX5_without_23 : decode cX5_without 23 = .ok (.iload_n 3, 1) := by decide +kernel
theorem dX5_without_24 : decode cX5_without 24 = .ok (.invokevirtual 68, 3) := by decide +kernel
theorem dX5_without_27 : decode cX5_without 27 = .ok (.ireturn, 1) := by decide +kernel
theorem dX5_without_28 : decode cX5_without 28 = .ok (.aload_n 0, 1) := by decide +kernel
theorem dX5_without_29 : decode cX5_without 29 = .ok (.getfield 50, 3) := by decide +kernel
theorem dX5_without_32 : decode cX5_without 32 = .ok (.aload_n 0, 1) := by decide +kernel
theorem dX5_without_33 : decode cX5_without 33 = .ok (.iload_n 1, 1) := by decide +kernel
theorem dX5_without_34 : decode cX5_without 34 = .ok (.iload_n 2, 1) := by decide +kernel
theorem dX5_without_35 : decode cX5_without 35 = .ok (.invokevirtual 161, 3) := by decide +kernel
theorem dX5_without_38 : decode cX5_without 38 = .ok (.iconst (-1), 1) := by decide +kernel
theorem dX5_without_39 : decode cX5_without 39 = .ok (.iastore, 1) := by decide +kernel
theorem dX5_without_40 : decode cX5_without 40 = .ok (.aload_n 0, 1) := by decide +kernel
theorem dX5_without_41 : decode cX5_without 41 = .ok (.iconst 1, 1) := by decide +kernel
theorem dX5_without_42 : decode cX5_without 42 = .ok (.invokevirtual 75, 3) := by decide +kernel
theorem dX5_without_45 : decode cX5_without 45 = .ok (.ireturn, 1) := by decide +kernel
theorem dX5_tie_0 : decode cX5_tie 0 = .ok (.aload_n 0, 1) := by decide +kernel
theorem dX5_tie_1 : decode cX5_tie 1 = .ok (.iload_n 1, 1) := by decide +kernel
theorem dX5_tie_2 : decode cX5_tie 2 = .ok (.invokevirtual 131, 3) := by decide +kernel
theorem dX5_tie_5 : decode cX5_tie 5 = .ok (.ifCond .eq 11, 3) := by decide +kernel
theorem dX5_tie_8 : decode cX5_tie 8 = .ok (.aload_n 0, 1) := by decide +kernel
theorem dX5_tie_9 : decode cX5_tie 9 = .ok (.iload_n 3, 1) := by decide +kernel
theorem dX5_tie_10 : decode cX5_tie 10 = .ok (.invokevirtual 131, 3) := by decide +kernel
theorem dX5_tie_13 : decode cX5_tie 13 = .ok (.ifCond .ne 10, 3) := by decide +kernel
theorem dX5_tie_16 : decode cX5_tie 16 = .ok (.aload_n 0, 1) := by decide +kernel
theorem dX5_tie_17 : decode cX5_tie 17 = .ok (.bipush 7, 2) := by decide +kernel
theorem dX5_tie_19 : decode cX5_tie 19 = .ok (.invokevirtual 68, 3) := by decide +kernel
theorem dX5_tie_22 : decode cX5_tie 22 = .ok (.ireturn, 1) := by decide +kernel
theorem dX5_tie_23 : decode cX5_tie 23 = .ok (.aload_n 0, 1) := by decide +kernel
theorem dX5_tie_24 : decode cX5_tie 24 = .ok (.getfield 20, 3) := by decide +kernel
theorem dX5_tie_27 : decode cX5_tie 27 = .ok (.iload_n 1, 1) := by decide +kernel
theorem dX5_tie_28 : decode cX5_tie 28 = .ok (.iaload, 1) := by decide +kernel
theorem dX5_tie_29 : decode cX5_tie 29 = .ok (.iconst 4, 1) := by decide +kernel
theorem dX5_tie_30 : decode cX5_tie 30 = .ok (.if_icmp .ne 13, 3) := by decide +kernel
theorem dX5_tie_33 : decode cX5_tie 33 = .ok (.aload_n 0, 1) := by decide +kernel
theorem dX5_tie_34 : decode cX5_tie 34 = .ok (.getfield 20, 3) := by decide +kernel
theorem dX5_tie_37 : decode cX5_tie 37 = .ok (.iload_n 3, 1) := by decide +kernel
theorem dX5_tie_38 : decode cX5_tie 38 = .ok (.iaload, 1) := by decide +kernel
theorem dX5_tie_39 : decode cX5_tie 39 = .ok (.iconst 4, 1) := by decide +kernel
theorem dX5_tie_40 : decode cX5_tie 40 = .ok (.if_icmp .eq 9, 3) := by decide +kernel
theorem dX5_tie_43 : decode cX5_tie 43 = .ok (.aload_n 0, 1) := by decide +kernel
theorem dX5_tie_44 : decode cX5_tie 44 = .ok (.iconst 2, 1) := by decide +kernel
theorem dX5_tie_45 : decode cX5_tie 45 = .ok (.invokevirtual 68, 3) := by decide +kernel
theorem dX5_tie_48 : decode cX5_tie 48 = .ok (.ireturn, 1) := by decide +kernel
theorem dX5_tie_49 : decode cX5_tie 49 = .ok (.aload_n 0, 1) := by decide +kernel
theorem dX5_tie_50 : decode cX5_tie 50 = .ok (.iload_n 1, 1) := by decide +kernel
theorem dX5_tie_51 : decode cX5_tie 51 = .ok (.iload_n 2, 1) := by decide +kernel
theorem dX5_tie_52 : decode cX5_tie 52 = .ok (.invokevirtual 158, 3) := by decide +kernel
theorem dX5_tie_55 : decode cX5_tie 55 = .ok (.ifCond .eq 9, 3) := by decide +kernel
theorem dX5_tie_58 : decode cX5_tie 58 = .ok (.aload_n 0, 1) := by decide +kernel
theorem dX5_tie_59 : decode cX5_tie 59 = .ok (.iconst 0, 1) := by decide +kernel
theorem dX5_tie_60 : decode cX5_tie 60 = .ok (.invokevirtual 152, 3) := by decide +kernel
theorem dX5_tie_63 : decode cX5_tie 63 = .ok (.ireturn, 1) := by decide +kernel
theorem dX5_tie_64 : decode cX5_tie 64 = .ok (.aload_n 0, 1) := by decide +kernel
theorem dX5_tie_65 : decode cX5_tie 65 = .ok (.iload_n 3, 1) := by decide +kernel
theorem dX5_tie_66 : decode cX5_tie 66 = .ok (.iload 4, 2) := by decide +kernel
theorem dX5_tie_68 : decode cX5_tie 68 = .ok (.invokevirtual 158, 3) := by decide +kernel
theorem dX5_tie_71 : decode cX5_tie 71 = .ok (.ifCond .eq 9, 3) := by decide +kernel
theorem dX5_tie_74 : decode cX5_tie 74 = .ok (.aload_n 0, 1) := by decide +kernel
theorem dX5_tie_75 : decode cX5_tie 75 = .ok (.iconst 1, 1) := by decide +kernel
theorem dX5_tie_76 : decode cX5_tie 76 = .ok (.invokevirtual 152, 3) := by decide +kernel
theorem dX5_tie_79 : decode cX5_tie 79 = .ok (.ireturn, 1) := by decide +kernel
theorem dX5_tie_80 : decode cX5_tie 80 = .ok (.aload_n 0, 1) := by decide +kernel
theorem dX5_tie_81 : decode cX5_tie 81 = .ok (.getfield 50, 3) := by decide +kernel
theorem dX5_tie_84 : decode cX5_tie 84 = .ok (.aload_n 0, 1) := by decide +kernel
theorem dX5_tie_85 : decode cX5_tie 85 = .ok (.iload_n 1, 1) := by decide +kernel
theorem dX5_tie_86 : decode cX5_tie 86 = .ok (.iload_n 2, 1) := by decide +kernel
theorem dX5_tie_87 : decode cX5_tie 87 = .ok (.invokevirtual 161, 3) := by decide +kernel
theorem dX5_tie_90 : decode cX5_tie 90 = .ok (.aload_n 0, 1) := by decide +kernel
theorem dX5_tie_91 : decode cX5_tie 91 = .ok (.getfield 50, 3) := by decide +kernel
theorem dX5_tie_94 : decode cX5_tie 94 = .ok (.aload_n 0, 1) := by decide +kernel
theorem dX5_tie_95 : decode cX5_tie 95 = .ok (.iload_n 3, 1) := by decide +kernel
theorem dX5_tie_96 : decode cX5_tie 96 = .ok (.iload 4, 2) := by decide +kernel
theorem dX5_tie_98 : decode cX5_tie 98 = .ok (.invokevirtual 161, 3) := by decide +kernel
theorem dX5_tie_101 : decode cX5_tie 101 = .ok (.iaload, 1) := by decide +kernel
theorem dX5_tie_102 : decode cX5_tie 102 = .ok (.iastore, 1) := by decide +kernel
theorem dX5_tie_103 : decode cX5_tie 103 = .ok (.aload_n 0, 1) := by decide +kernel
theorem dX5_tie_104 : decode cX5_tie 104 = .ok (.iconst 1, 1) := by decide +kernel
theorem dX5_tie_105 : decode cX5_tie 105 = .ok (.invokevirtual 75, 3) := by decide +kernel
theorem dX5_tie_108 : decode cX5_tie 108 = .ok (.ireturn, 1) := by decide +kernel
theorem dX5_find_0 : decode cX5_find 0 = .ok (.aload_n 0, 1) := by decide +kernel
theorem dX5_find_1 : decode cX5_find 1 = .ok (.iload_n 1, 1) := by decide +kernel
theorem dX5_find_2 : decode cX5_find 2 = .ok (.invokevirtual 131, 3) := by decide +kernel
theorem dX5_find_5 : decode cX5_find 5 = .ok (.ifCond .ne 11, 3) := by decide +kernel
theorem dX5_find_8 : decode cX5_find 8 = .ok (.aload_n 0, 1) := by decide +kernel
theorem dX5_find_9 : decode cX5_find 9 = .ok (.bipush 7, 2) := by decide +kernel
theorem dX5_find_11 : decode cX5_find 11 = .ok (.putfield 65, 3) := by decide +kernel
theorem dX5_find_14 : decode cX5_find 14 = .ok (.iconst (-1), 1) := by decide +kernel
theorem dX5_find_15 : decode cX5_find 15 = .ok (.ireturn, 1) := by decide +kernel
theorem dX5_find_16 : decode cX5_find 16 = .ok (.aload_n 0, 1) := by decide +kernel
theorem dX5_find_17 : decode cX5_find 17 = .ok (.getfield 20, 3) := by decide +kernel
theorem dX5_find_20 : decode cX5_find 20 = .ok (.iload_n 1, 1) := by decide +kernel
theorem dX5_find_21 : decode cX5_find 21 = .ok (.iaload, 1) := by decide +kernel
theorem dX5_find_22 : decode cX5_find 22 = .ok (.iconst 4, 1) := by decide +kernel
theorem dX5_find_23 : decode cX5_find 23 = .ok (.if_icmp .eq 47, 3) := by decide +kernel
theorem dX5_find_26 : decode cX5_find 26 = .ok (.aload_n 0, 1) := by decide +kernel
theorem dX5_find_27 : decode cX5_find 27 = .ok (.iload_n 1, 1) := by decide +kernel
theorem dX5_find_28 : decode cX5_find 28 = .ok (.iload_n 2, 1) := by decide +kernel
theorem dX5_find_29 : decode cX5_find 29 = .ok (.iload_n 3, 1) := by decide +kernel
theorem dX5_find_30 : decode cX5_find 30 = .ok (.iload 4, 2) := by decide +kernel
theorem dX5_find_32 : decode cX5_find 32 = .ok (.invokevirtual 148, 3) := by decide +kernel
theorem dX5_find_35 : decode cX5_find 35 = .ok (.istore 5, 2) := by decide +kernel
theorem dX5_find_37 : decode cX5_find 37 = .ok (.iload 5, 2) := by decide +kernel
theorem dX5_find_39 : decode cX5_find 39 = .ok (.iconst (-1), 1) := by decide +kernel
theorem dX5_find_40 : decode cX5_find 40 = .ok (.if_icmp .ne 15, 3) := by decide +kernel
theorem dX5_find_43 : decode cX5_find 43 = .ok (.aload_n 0, 1) := by decide +kernel
theorem dX5_find_44 : decode cX5_find 44 = .ok (.aload_n 0, 1) := by decide +kernel
theorem dX5_find_45 : decode cX5_find 45 = .ok (.getfield 142, 3) := by decide +kernel
theorem dX5_find_48 : decode cX5_find 48 = .ok (.invokevirtual 152, 3) := by decide +kernel
theorem dX5_find_51 : decode cX5_find 51 = .ok (.istore 6, 2) := by decide +kernel
theorem dX5_find_53 : decode cX5_find 53 = .ok (.iconst (-1), 1) := by decide +kernel
theorem dX5_find_54 : decode cX5_find 54 = .ok (.ireturn, 1) := by decide +kernel
theorem dX5_find_55 : decode cX5_find 55 = .ok (.aload_n 0, 1) := by decide +kernel
theorem dX5_find_56 : decode cX5_find 56 = .ok (.getfield 35, 3) := by decide +kernel
theorem dX5_find_59 : decode cX5_find 59 = .ok (.aload_n 0, 1) := by decide +kernel
theorem dX5_find_60 : decode cX5_find 60 = .ok (.getfield 32, 3) := by decide +kernel
theorem dX5_find_63 : decode cX5_find 63 = .ok (.iload_n 1, 1) := by decide +kernel
theorem dX5_find_64 : decode cX5_find 64 = .ok (.iaload, 1) := by decide +kernel
theorem dX5_find_65 : decode cX5_find 65 = .ok (.iaload, 1) := by decide +kernel
theorem dX5_find_66 : decode cX5_find 66 = .ok (.iload 5, 2) := by decide +kernel
theorem dX5_find_68 : decode cX5_find 68 = .ok (.iadd, 1) := by decide +kernel
theorem dX5_find_69 : decode cX5_find 69 = .ok (.ireturn, 1) := by decide +kernel
theorem dX5_find_70 : decode cX5_find 70 = .ok (.aload_n 0, 1) := by decide +kernel
theorem dX5_find_71 : decode cX5_find 71 = .ok (.iload_n 1, 1) := by decide +kernel
theorem dX5_find_72 : decode cX5_find 72 = .ok (.iload_n 2, 1) := by decide +kernel
theorem dX5_find_73 : decode cX5_find 73 = .ok (.invokevirtual 158, 3) := by decide +kernel
theorem dX5_find_76 : decode cX5_find 76 = .ok (.ifCond .eq 12, 3) := by decide +kernel
theorem dX5_find_79 : decode cX5_find 79 = .ok (.aload_n 0, 1) := by decide +kernel
theorem dX5_find_80 : decode cX5_find 80 = .ok (.iconst 0, 1) := by decide +kernel
theorem dX5_find_81 : decode cX5_find 81 = .ok (.invokevirtual 152, 3) := by decide +kernel
theorem dX5_find_84 : decode cX5_find 84 = .ok (.istore 5, 2) := by decide +kernel
theorem dX5_find_86 : decode cX5_find 86 = .ok (.iconst (-1), 1) := by decide +kernel
theorem dX5_find_87 : decode cX5_find 87 = .ok (.ireturn, 1) := by decide +kernel
theorem dX5_find_88 : decode cX5_find 88 = .ok (.aload_n 0, 1) := by decide +kernel
theorem dX5_find_89 : decode cX5_find 89 = .ok (.getfield 50, 3) := by decide +kernel
theorem dX5_find_92 : decode cX5_find 92 = .ok (.aload_n 0, 1) := by decide +kernel
theorem dX5_find_93 : decode cX5_find 93 = .ok (.iload_n 1, 1) := by decide +kernel
theorem dX5_find_94 : decode cX5_find 94 = .ok (.iload_n 2, 1) := by decide +kernel
theorem dX5_find_95 : decode cX5_find 95 = .ok (.invokevirtual 161, 3) := by decide +kernel
theorem dX5_find_98 : decode cX5_find 98 = .ok (.iaload, 1) := by decide +kernel
theorem dX5_find_99 : decode cX5_find 99 = .ok (.istore 5, 2) := by decide +kernel
theorem dX5_find_101 : decode cX5_find 101 = .ok (.iload 5, 2) := by decide +kernel
theorem dX5_find_103 : decode cX5_find 103 = .ok (.iconst (-1), 1) := by decide +kernel
theorem dX5_find_104 : decode cX5_find 104 = .ok (.if_icmp .ne 10, 3) := by decide +kernel
theorem dX5_find_107 : decode cX5_find 107 = .ok (.aload_n 0, 1) := by decide +kernel
theorem dX5_find_108 : decode cX5_find 108 = .ok (.iconst 1, 1) := by decide +kernel
theorem dX5_find_109 : decode cX5_find 109 = .ok (.putfield 65, 3) := by decide +kernel
theorem dX5_find_112 : decode cX5_find 112 = .ok (.iconst (-1), 1) := by decide +kernel
theorem dX5_find_113 : decode cX5_find 113 = .ok (.ireturn, 1) := by decide +kernel
theorem dX5_find_114 : decode cX5_find 114 = .ok (.iload_n 3, 1) := by decide +kernel
theorem dX5_find_115 : decode cX5_find 115 = .ok (.i2l, 1) := by decide +kernel
theorem dX5_find_116 : decode cX5_find 116 = .ok (.aload_n 0, 1) := by decide +kernel
theorem dX5_find_117 : decode cX5_find 117 = .ok (.getfield 26, 3) := by decide +kernel
theorem dX5_find_120 : decode cX5_find 120 = .ok (.iconst 3, 1) := by decide +kernel
theorem dX5_find_121 : decode cX5_find 121 = .ok (.iload_n 1, 1) := by decide +kernel
theorem dX5_find_122 : decode cX5_find 122 = .ok (.imul, 1) := by decide +kernel
theorem dX5_find_123 : decode cX5_find 123 = .ok (.iconst 1, 1) := by decide +kernel
theorem dX5_find_124 : decode cX5_find 124 = .ok (.iadd, 1) := by decide +kernel
theorem dX5_find_125 : decode cX5_find 125 = .ok (.iaload, 1) := by decide +kernel
theorem dX5_find_126 : decode cX5_find 126 = .ok (.i2l, 1) := by decide +kernel
theorem dX5_find_127 : decode cX5_find 127 = .ok (.lsub, 1) := by decide +kernel
theorem dX5_find_128 : decode cX5_find 128 = .ok (.lstore 6, 2) := by decide +kernel
theorem dX5_find_130 : decode cX5_find 130 = .ok (.lload 6, 2) := by decide +kernel
theorem dX5_find_132 : decode cX5_find 132 = .ok (.lconst 0, 1) := by decide +kernel
theorem dX5_find_133 : decode cX5_find 133 = .ok (.aload_n 0, 1) := by decide +kernel
theorem dX5_find_134 : decode cX5_find 134 = .ok (.getfield 38, 3) := by decide +kernel
theorem dX5_find_137 : decode cX5_find 137 = .ok (.iload 5, 2) := by decide +kernel
theorem dX5_find_139 : decode cX5_find 139 = .ok (.iaload, 1) := by decide +kernel
theorem dX5_find_140 : decode cX5_find 140 = .ok (.iconst 1, 1) := by decide +kernel
theorem dX5_find_141 : decode cX5_find 141 = .ok (.isub, 1) := by decide +kernel
theorem dX5_find_142 : decode cX5_find 142 = .ok (.i2l, 1) := by decide +kernel
theorem dX5_find_143 : decode cX5_find 143 = .ok (.invokestatic 101, 3) := by decide +kernel
theorem dX5_find_146 : decode cX5_find 146 = .ok (.ifCond .ne 12, 3) := by decide +kernel
theorem dX5_find_149 : decode cX5_find 149 = .ok (.aload_n 0, 1) := by decide +kernel
theorem dX5_find_150 : decode cX5_find 150 = .ok (.iconst 1, 1) := by decide +kernel
theorem dX5_find_151 : decode cX5_find 151 = .ok (.invokevirtual 152, 3) := by decide +kernel
theorem dX5_find_154 : decode cX5_find 154 = .ok (.istore 8, 2) := by decide +kernel
theorem dX5_find_156 : decode cX5_find 156 = .ok (.iconst (-1), 1) := by decide +kernel
theorem dX5_find_157 : decode cX5_find 157 = .ok (.ireturn, 1) := by decide +kernel
theorem dX5_find_158 : decode cX5_find 158 = .ok (.aload_n 0, 1) := by decide +kernel
theorem dX5_find_159 : decode cX5_find 159 = .ok (.getfield 35, 3) := by decide +kernel
theorem dX5_find_162 : decode cX5_find 162 = .ok (.iload 5, 2) := by decide +kernel
theorem dX5_find_164 : decode cX5_find 164 = .ok (.iaload, 1) := by decide +kernel
theorem dX5_find_165 : decode cX5_find 165 = .ok (.lload 6, 2) := by decide +kernel
theorem dX5_find_167 : decode cX5_find 167 = .ok (.l2i, 1) := by decide +kernel
theorem dX5_find_168 : decode cX5_find 168 = .ok (.iadd, 1) := by decide +kernel
theorem dX5_find_169 : decode cX5_find 169 = .ok (.ireturn, 1) := by decide +kernel
theorem dX5_get_0 : decode cX5_get 0 = .ok (.aload_n 0, 1) := by decide +kernel
theorem dX5_get_1 : decode cX5_get 1 = .ok (.iload_n 1, 1) := by decide +kernel
theorem dX5_get_2 : decode cX5_get 2 = .ok (.iload_n 2, 1) := by decide +kernel
theorem dX5_get_3 : decode cX5_get 3 = .ok (.iload_n 3, 1) := by decide +kernel
theorem dX5_get_4 : decode cX5_get 4 = .ok (.iload 4, 2) := by decide +kernel
theorem dX5_get_6 : decode cX5_get 6 = .ok (.invokevirtual 164, 3) := by decide +kernel
theorem dX5_get_9 : decode cX5_get 9 = .ok (.istore 5, 2) := by decide +kernel
theorem dX5_get_11 : decode cX5_get 11 = .ok (.iload 5, 2) := by decide +kernel
theorem dX5_get_13 : decode cX5_get 13 = .ok (.iconst (-1), 1) := by decide +kernel
theorem dX5_get_14 : decode cX5_get 14 = .ok (.if_icmp .ne 5, 3) := by decide +kernel
theorem dX5_get_17 : decode cX5_get 17 = .ok (.lconst 0, 1) := by decide +kernel
theorem dX5_get_18 : decode cX5_get 18 = .ok (.lreturn, 1) := by decide +kernel
theorem dX5_get_19 : decode cX5_get 19 = .ok (.aload_n 0, 1) := by decide +kernel
theorem dX5_get_20 : decode cX5_get 20 = .ok (.getfield 20, 3) := by decide +kernel
theorem dX5_get_23 : decode cX5_get 23 = .ok (.iload_n 1, 1) := by decide +kernel
theorem dX5_get_24 : decode cX5_get 24 = .ok (.iaload, 1) := by decide +kernel
theorem dX5_get_25 : decode cX5_get 25 = .ok (.iconst 3, 1) := by decide +kernel
theorem dX5_get_26 : decode cX5_get 26 = .ok (.if_icmp .ne 20, 3) := by decide +kernel
theorem dX5_get_29 : decode cX5_get 29 = .ok (.aload_n 0, 1) := by decide +kernel
theorem dX5_get_30 : decode cX5_get 30 = .ok (.getfield 46, 3) := by decide +kernel
theorem dX5_get_33 : decode cX5_get 33 = .ok (.iload 5, 2) := by decide +kernel
theorem dX5_get_35 : decode cX5_get 35 = .ok (.baload, 1) := by decide +kernel
theorem dX5_get_36 : decode cX5_get 36 = .ok (.ifCond .ne 10, 3) := by decide +kernel
theorem dX5_get_39 : decode cX5_get 39 = .ok (.aload_n 0, 1) := by decide +kernel
theorem dX5_get_40 : decode cX5_get 40 = .ok (.iconst 1, 1) := by decide +kernel
theorem dX5_get_41 : decode cX5_get 41 = .ok (.invokevirtual 68, 3) := by decide +kernel
theorem dX5_get_44 : decode cX5_get 44 = .ok (.i2l, 1) := by decide +kernel
theorem dX5_get_45 : decode cX5_get 45 = .ok (.lreturn, 1) := by decide +kernel
theorem dX5_get_46 : decode cX5_get 46 = .ok (.aload_n 0, 1) := by decide +kernel
theorem dX5_get_47 : decode cX5_get 47 = .ok (.iconst 0, 1) := by decide +kernel
theorem dX5_get_48 : decode cX5_get 48 = .ok (.putfield 65, 3) := by decide +kernel
theorem dX5_get_51 : decode cX5_get 51 = .ok (.aload_n 0, 1) := by decide +kernel
theorem dX5_get_52 : decode cX5_get 52 = .ok (.getfield 42, 3) := by decide +kernel
theorem dX5_get_55 : decode cX5_get 55 = .ok (.iload 5, 2) := by decide +kernel
theorem dX5_get_57 : decode cX5_get 57 = .ok (.laload, 1) := by decide +kernel
theorem dX5_get_58 : decode cX5_get 58 = .ok (.lreturn, 1) := by decide +kernel
theorem dX5_lay_0 : decode cX5_lay 0 = .ok (.aload_n 0, 1) := by decide +kernel
theorem dX5_lay_1 : decode cX5_lay 1 = .ok (.getfield 42, 3) := by decide +kernel
theorem dX5_lay_4 : decode cX5_lay 4 = .ok (.iload_n 1, 1) := by decide +kernel
theorem dX5_lay_5 : decode cX5_lay 5 = .ok (.iload_n 2, 1) := by decide +kernel
theorem dX5_lay_6 : decode cX5_lay 6 = .ok (.lload_n 3, 1) := by decide +kernel
theorem dX5_lay_7 : decode cX5_lay 7 = .ok (.invokestatic 167, 3) := by decide +kernel
theorem dX5_lay_10 : decode cX5_lay 10 = .ok (.lastore, 1) := by decide +kernel
theorem dX5_lay_11 : decode cX5_lay 11 = .ok (.aload_n 0, 1) := by decide +kernel
theorem dX5_lay_12 : decode cX5_lay 12 = .ok (.getfield 46, 3) := by decide +kernel
theorem dX5_lay_15 : decode cX5_lay 15 = .ok (.iload_n 1, 1) := by decide +kernel
theorem dX5_lay_16 : decode cX5_lay 16 = .ok (.iload_n 2, 1) := by decide +kernel
theorem dX5_lay_17 : decode cX5_lay 17 = .ok (.iconst 3, 1) := by decide +kernel
theorem dX5_lay_18 : decode cX5_lay 18 = .ok (.if_icmp .ne 7, 3) := by decide +kernel
theorem dX5_lay_21 : decode cX5_lay 21 = .ok (.iconst 1, 1) := by decide +kernel
theorem dX5_lay_22 : decode cX5_lay 22 = .ok (.goto 4, 3) := by decide +kernel
theorem dX5_lay_25 : decode cX5_lay 25 = .ok (.iconst 0, 1) := by decide +kernel
theorem dX5_lay_26 : decode cX5_lay 26 = .ok (.bastore, 1) := by decide +kernel
theorem dX5_lay_27 : decode cX5_lay 27 = .ok (.return_, 1) := by decide +kernel
theorem dX5_put_0 : decode cX5_put 0 = .ok (.aload_n 0, 1) := by decide +kernel
theorem dX5_put_1 : decode cX5_put 1 = .ok (.iload_n 1, 1) := by decide +kernel
theorem dX5_put_2 : decode cX5_put 2 = .ok (.iload_n 2, 1) := by decide +kernel
theorem dX5_put_3 : decode cX5_put 3 = .ok (.iload_n 3, 1) := by decide +kernel
theorem dX5_put_4 : decode cX5_put 4 = .ok (.iload 4, 2) := by decide +kernel
theorem dX5_put_6 : decode cX5_put 6 = .ok (.invokevirtual 164, 3) := by decide +kernel
theorem dX5_put_9 : decode cX5_put 9 = .ok (.istore 7, 2) := by decide +kernel
theorem dX5_put_11 : decode cX5_put 11 = .ok (.iload 7, 2) := by decide +kernel
theorem dX5_put_13 : decode cX5_put 13 = .ok (.iconst (-1), 1) := by decide +kernel
theorem dX5_put_14 : decode cX5_put 14 = .ok (.if_icmp .ne 5, 3) := by decide +kernel
theorem dX5_put_17 : decode cX5_put 17 = .ok (.iconst 0, 1) := by decide +kernel
theorem dX5_put_18 : decode cX5_put 18 = .ok (.ireturn, 1) := by decide +kernel
theorem dX5_put_19 : decode cX5_put 19 = .ok (.aload_n 0, 1) := by decide +kernel
theorem dX5_put_20 : decode cX5_put 20 = .ok (.iload 7, 2) := by decide +kernel
theorem dX5_put_22 : decode cX5_put 22 = .ok (.aload_n 0, 1) := by decide +kernel
theorem dX5_put_23 : decode cX5_put 23 = .ok (.getfield 20, 3) := by decide +kernel
theorem dX5_put_26 : decode cX5_put 26 = .ok (.iload_n 1, 1) := by decide +kernel
theorem dX5_put_27 : decode cX5_put 27 = .ok (.iaload, 1) := by decide +kernel
theorem dX5_put_28 : decode cX5_put 28 = .ok (.lload 5, 2) := by decide +kernel
theorem dX5_put_30 : decode cX5_put 30 = .ok (.invokevirtual 171, 3) := by decide +kernel
theorem dX5_put_33 : decode cX5_put 33 = .ok (.aload_n 0, 1) := by decide +kernel
theorem dX5_put_34 : decode cX5_put 34 = .ok (.iconst 1, 1) := by decide +kernel
theorem dX5_put_35 : decode cX5_put 35 = .ok (.invokevirtual 75, 3) := by decide +kernel
theorem dX5_put_38 : decode cX5_put 38 = .ok (.ireturn, 1) := by decide +kernel
theorem dX5_empty_0 : decode cX5_empty 0 = .ok (.aload_n 0, 1) := by decide +kernel
theorem dX5_empty_1 : decode cX5_empty 1 = .ok (.iload_n 1, 1) := by decide +kernel
theorem dX5_empty_2 : decode cX5_empty 2 = .ok (.invokevirtual 131, 3) := by decide +kernel
theorem dX5_empty_5 : decode cX5_empty 5 = .ok (.ifCond .ne 10, 3) := by decide +kernel
theorem dX5_empty_8 : decode cX5_empty 8 = .ok (.aload_n 0, 1) := by decide +kernel
theorem dX5_empty_9 : decode cX5_empty 9 = .ok (.bipush 7, 2) := by decide +kernel
theorem dX5_empty_11 : decode cX5_empty 11 = .ok (.invokevirtual 68, 3) := by decide +kernel
theorem dX5_empty_14 : decode cX5_empty 14 = .ok (.ireturn, 1) := by decide +kernel
theorem dX5_empty_15 : decode cX5_empty 15 = .ok (.aload_n 0, 1) := by decide +kernel
theorem dX5_empty_16 : decode cX5_empty 16 = .ok (.getfield 20, 3) := by decide +kernel
theorem dX5_empty_19 : decode cX5_empty 19 = .ok (.iload_n 1, 1) := by decide +kernel
theorem dX5_empty_20 : decode cX5_empty 20 = .ok (.iaload, 1) := by decide +kernel
theorem dX5_empty_21 : decode cX5_empty 21 = .ok (.iconst 3, 1) := by decide +kernel
theorem dX5_empty_22 : decode cX5_empty 22 = .ok (.if_icmp .eq 9, 3) := by decide +kernel
theorem dX5_empty_25 : decode cX5_empty 25 = .ok (.aload_n 0, 1) := by decide +kernel
theorem dX5_empty_26 : decode cX5_empty 26 = .ok (.iconst 2, 1) := by decide +kernel
theorem dX5_empty_27 : decode cX5_empty 27 = .ok (.invokevirtual 68, 3) := by decide +kernel
theorem dX5_empty_30 : decode cX5_empty 30 = .ok (.ireturn, 1) := by decide +kernel
theorem dX5_empty_31 : decode cX5_empty 31 = .ok (.aload_n 0, 1) := by decide +kernel
theorem dX5_empty_32 : decode cX5_empty 32 = .ok (.iload_n 1, 1) := by decide +kernel
theorem dX5_empty_33 : decode cX5_empty 33 = .ok (.iload_n 2, 1) := by decide +kernel
theorem dX5_empty_34 : decode cX5_empty 34 = .ok (.iload_n 3, 1) := by decide +kernel
theorem dX5_empty_35 : decode cX5_empty 35 = .ok (.iload 4, 2) := by decide +kernel
theorem dX5_empty_37 : decode cX5_empty 37 = .ok (.invokevirtual 164, 3) := by decide +kernel
theorem dX5_empty_40 : decode cX5_empty 40 = .ok (.istore 5, 2) := by decide +kernel
theorem dX5_empty_42 : decode cX5_empty 42 = .ok (.iload 5, 2) := by decide +kernel
theorem dX5_empty_44 : decode cX5_empty 44 = .ok (.iconst (-1), 1) := by decide +kernel
theorem dX5_empty_45 : decode cX5_empty 45 = .ok (.if_icmp .ne 5, 3) := by decide +kernel
theorem dX5_empty_48 : decode cX5_empty 48 = .ok (.iconst 0, 1) := by decide +kernel
theorem dX5_empty_49 : decode cX5_empty 49 = .ok (.ireturn, 1) := by decide +kernel
theorem dX5_empty_50 : decode cX5_empty 50 = .ok (.aload_n 0, 1) := by decide +kernel
theorem dX5_empty_51 : decode cX5_empty 51 = .ok (.getfield 42, 3) := by decide +kernel
theorem dX5_empty_54 : decode cX5_empty 54 = .ok (.iload 5, 2) := by decide +kernel
theorem dX5_empty_56 : decode cX5_empty 56 = .ok (.lconst 0, 1) := by decide +kernel
theorem dX5_empty_57 : decode cX5_empty 57 = .ok (.lastore, 1) := by decide +kernel
theorem dX5_empty_58 : decode cX5_empty 58 = .ok (.aload_n 0, 1) := by decide +kernel
theorem dX5_empty_59 : decode cX5_empty 59 = .ok (.getfield 46, 3) := by decide +kernel
theorem dX5_empty_62 : decode cX5_empty 62 = .ok (.iload 5, 2) := by decide +kernel
theorem dX5_empty_64 : decode cX5_empty 64 = .ok (.iconst 0, 1) := by decide +kernel
theorem dX5_empty_65 : decode cX5_empty 65 = .ok (.bastore, 1) := by decide +kernel
theorem dX5_empty_66 : decode cX5_empty 66 = .ok (.aload_n 0, 1) := by decide +kernel
theorem dX5_empty_67 : decode cX5_empty 67 = .ok (.iconst 1, 1) := by decide +kernel
theorem dX5_empty_68 : decode cX5_empty 68 = .ok (.invokevirtual 75, 3) := by decide +kernel
theorem dX5_empty_71 : decode cX5_empty 71 = .ok (.ireturn, 1) := by decide +kernel
theorem dX5_pair_0 : decode cX5_pair 0 = .ok (.aload_n 0, 1) := by decide +kernel
theorem dX5_pair_1 : decode cX5_pair 1 = .ok (.getfield 175, 3) := by decide +kernel
theorem dX5_pair_4 : decode cX5_pair 4 = .ok (.bipush 30, 2) := by decide +kernel
theorem dX5_pair_6 : decode cX5_pair 6 = .ok (.if_icmp .ne 10, 3) := by decide +kernel
theorem dX5_pair_9 : decode cX5_pair 9 = .ok (.aload_n 0, 1) := by decide +kernel
theorem dX5_pair_10 : decode cX5_pair 10 = .ok (.bipush 8, 2) := by decide +kernel
theorem dX5_pair_12 : decode cX5_pair 12 = .ok (.invokevirtual 68, 3) := by decide +kernel
theorem dX5_pair_15 : decode cX5_pair 15 = .ok (.ireturn, 1) := by decide +kernel
theorem dX5_pair_16 : decode cX5_pair 16 = .ok (.aload_n 0, 1) := by decide +kernel
theorem dX5_pair_17 : decode cX5_pair 17 = .ok (.getfield 53, 3) := by decide +kernel
theorem dX5_pair_20 : decode cX5_pair 20 = .ok (.aload_n 0, 1) := by decide +kernel
theorem dX5_pair_21 : decode cX5_pair 21 = .ok (.getfield 175, 3) := by decide +kernel
theorem dX5_pair_24 : decode cX5_pair 24 = .ok (.iload_n 1, 1) := by decide +kernel
theorem dX5_pair_25 : decode cX5_pair 25 = .ok (.iastore, 1) := by decide +kernel
theorem dX5_pair_26 : decode cX5_pair 26 = .ok (.aload_n 0, 1) := by decide +kernel
theorem dX5_pair_27 : decode cX5_pair 27 = .ok (.getfield 56, 3) := by decide +kernel
theorem dX5_pair_30 : decode cX5_pair 30 = .ok (.aload_n 0, 1) := by decide +kernel
theorem dX5_pair_31 : decode cX5_pair 31 = .ok (.getfield 175, 3) := by decide +kernel
theorem dX5_pair_34 : decode cX5_pair 34 = .ok (.iload_n 2, 1) := by decide +kernel
theorem dX5_pair_35 : decode cX5_pair 35 = .ok (.iastore, 1) := by decide +kernel
theorem dX5_pair_36 : decode cX5_pair 36 = .ok (.aload_n 0, 1) := by decide +kernel
theorem dX5_pair_37 : decode cX5_pair 37 = .ok (.getfield 59, 3) := by decide +kernel
theorem dX5_pair_40 : decode cX5_pair 40 = .ok (.aload_n 0, 1) := by decide +kernel
theorem dX5_pair_41 : decode cX5_pair 41 = .ok (.getfield 175, 3) := by decide +kernel
theorem dX5_pair_44 : decode cX5_pair 44 = .ok (.iload_n 3, 1) := by decide +kernel
theorem dX5_pair_45 : decode cX5_pair 45 = .ok (.iastore, 1) := by decide +kernel
theorem dX5_pair_46 : decode cX5_pair 46 = .ok (.aload_n 0, 1) := by decide +kernel
theorem dX5_pair_47 : decode cX5_pair 47 = .ok (.getfield 62, 3) := by decide +kernel
theorem dX5_pair_50 : decode cX5_pair 50 = .ok (.aload_n 0, 1) := by decide +kernel
theorem dX5_pair_51 : decode cX5_pair 51 = .ok (.getfield 175, 3) := by decide +kernel
theorem dX5_pair_54 : decode cX5_pair 54 = .ok (.lload 4, 2) := by decide +kernel
theorem dX5_pair_56 : decode cX5_pair 56 = .ok (.lastore, 1) := by decide +kernel
theorem dX5_pair_57 : decode cX5_pair 57 = .ok (.aload_n 0, 1) := by decide +kernel
theorem dX5_pair_58 : decode cX5_pair 58 = .ok (.dup, 1) := by decide +kernel
theorem dX5_pair_59 : decode cX5_pair 59 = .ok (.getfield 175, 3) := by decide +kernel
theorem dX5_pair_62 : decode cX5_pair 62 = .ok (.iconst 1, 1) := by decide +kernel
theorem dX5_pair_63 : decode cX5_pair 63 = .ok (.iadd, 1) := by decide +kernel
theorem dX5_pair_64 : decode cX5_pair 64 = .ok (.putfield 175, 3) := by decide +kernel
theorem dX5_pair_67 : decode cX5_pair 67 = .ok (.aload_n 0, 1) := by decide +kernel
theorem dX5_pair_68 : decode cX5_pair 68 = .ok (.aload_n 0, 1) := by decide +kernel
theorem dX5_pair_69 : decode cX5_pair 69 = .ok (.getfield 175, 3) := by decide +kernel
theorem dX5_pair_72 : decode cX5_pair 72 = .ok (.invokevirtual 75, 3) := by decide +kernel
theorem dX5_pair_75 : decode cX5_pair 75 = .ok (.ireturn, 1) := by decide +kernel
theorem dX5_joins_0 : decode cX5_joins 0 = .ok (.iload_n 2, 1) := by decide +kernel
theorem dX5_joins_1 : decode cX5_joins 1 = .ok (.iconst 3, 1) := by decide +kernel
theorem dX5_joins_2 : decode cX5_joins 2 = .ok (.if_icmp .ne 22, 3) := by decide +kernel
theorem dX5_joins_5 : decode cX5_joins 5 = .ok (.aload_n 0, 1) := by decide +kernel
theorem dX5_joins_6 : decode cX5_joins 6 = .ok (.getfield 46, 3) := by decide +kernel
theorem dX5_joins_9 : decode cX5_joins 9 = .ok (.iload_n 1, 1) := by decide +kernel
theorem dX5_joins_10 : decode cX5_joins 10 = .ok (.baload, 1) := by decide +kernel
theorem dX5_joins_11 : decode cX5_joins 11 = .ok (.ifCond .ne 13, 3) := by decide +kernel
theorem dX5_joins_14 : decode cX5_joins 14 = .ok (.aload_n 0, 1) := by decide +kernel
theorem dX5_joins_15 : decode cX5_joins 15 = .ok (.iload_n 1, 1) := by decide +kernel
theorem dX5_joins_16 : decode cX5_joins 16 = .ok (.iload_n 2, 1) := by decide +kernel
theorem dX5_joins_17 : decode cX5_joins 17 = .ok (.lload 4, 2) := by decide +kernel
theorem dX5_joins_19 : decode cX5_joins 19 = .ok (.invokevirtual 171, 3) := by decide +kernel
theorem dX5_joins_22 : decode cX5_joins 22 = .ok (.iconst 1, 1) := by decide +kernel
theorem dX5_joins_23 : decode cX5_joins 23 = .ok (.ireturn, 1) := by decide +kernel
theorem dX5_joins_24 : decode cX5_joins 24 = .ok (.aload_n 0, 1) := by decide +kernel
theorem dX5_joins_25 : decode cX5_joins 25 = .ok (.getfield 42, 3) := by decide +kernel
theorem dX5_joins_28 : decode cX5_joins 28 = .ok (.iload_n 1, 1) := by decide +kernel
theorem dX5_joins_29 : decode cX5_joins 29 = .ok (.laload, 1) := by decide +kernel
theorem dX5_joins_30 : decode cX5_joins 30 = .ok (.lstore 6, 2) := by decide +kernel
theorem dX5_joins_32 : decode cX5_joins 32 = .ok (.iload_n 3, 1) := by decide +kernel
theorem dX5_joins_33 : decode cX5_joins 33 = .ok (.iconst 3, 1) := by decide +kernel
theorem dX5_joins_34 : decode cX5_joins 34 = .ok (.if_icmp .le 12, 3) := by decide +kernel
theorem dX5_joins_37 : decode cX5_joins 37 = .ok (.lload 4, 2) := by decide +kernel
theorem dX5_joins_39 : decode cX5_joins 39 = .ok (.lconst 0, 1) := by decide +kernel
theorem dX5_joins_40 : decode cX5_joins 40 = .ok (.lcmp, 1) := by decide +kernel
theorem dX5_joins_41 : decode cX5_joins 41 = .ok (.ifCond .ne 5, 3) := by decide +kernel
theorem dX5_joins_44 : decode cX5_joins 44 = .ok (.iconst 0, 1) := by decide +kernel
theorem dX5_joins_45 : decode cX5_joins 45 = .ok (.ireturn, 1) := by decide +kernel
theorem dX5_joins_46 : decode cX5_joins 46 = .ok (.lload 4, 2) := by decide +kernel
theorem dX5_joins_48 : decode cX5_joins 48 = .ok (.lstore 8, 2) := by decide +kernel
theorem dX5_joins_50 : decode cX5_joins 50 = .ok (.iload_n 3, 1) := by decide +kernel
theorem dX5_joins_51 : decode cX5_joins 51 = .ok (.iconst 1, 1) := by decide +kernel
theorem dX5_joins_52 : decode cX5_joins 52 = .ok (.if_icmp .ne 13, 3) := by decide +kernel
theorem dX5_joins_55 : decode cX5_joins 55 = .ok (.lload 6, 2) := by decide +kernel
theorem dX5_joins_57 : decode cX5_joins 57 = .ok (.lload 4, 2) := by decide +kernel
theorem dX5_joins_59 : decode cX5_joins 59 = .ok (.ladd, 1) := by decide +kernel
theorem dX5_joins_60 : decode cX5_joins 60 = .ok (.lstore 8, 2) := by decide +kernel
theorem dX5_joins_62 : decode cX5_joins 62 = .ok (.goto 109, 3) := by decide +kernel
theorem dX5_joins_65 : decode cX5_joins 65 = .ok (.iload_n 3, 1) := by decide +kernel
theorem dX5_joins_66 : decode cX5_joins 66 = .ok (.iconst 2, 1) := by decide +kernel
theorem dX5_joins_67 : decode cX5_joins 67 = .ok (.if_icmp .ne 23, 3) := by decide +kernel
theorem dX5_joins_70 : decode cX5_joins 70 = .ok (.lload 6, 2) := by decide +kernel
theorem dX5_joins_72 : decode cX5_joins 72 = .ok (.lload 4, 2) := by decide +kernel
theorem dX5_joins_74 : decode cX5_joins 74 = .ok (.lcmp, 1) := by decide +kernel
theorem dX5_joins_75 : decode cX5_joins 75 = .ok (.ifCond .le 8, 3) := by decide +kernel
theorem dX5_joins_78 : decode cX5_joins 78 = .ok (.lload 6, 2) := by decide +kernel
theorem dX5_joins_80 : decode cX5_joins 80 = .ok (.goto 5, 3) := by decide +kernel
theorem dX5_joins_83 : decode cX5_joins 83 = .ok (.lload 4, 2) := by decide +kernel
theorem dX5_joins_85 : decode cX5_joins 85 = .ok (.lstore 8, 2) := by decide +kernel
theorem dX5_joins_87 : decode cX5_joins 87 = .ok (.goto 84, 3) := by decide +kernel
theorem dX5_joins_90 : decode cX5_joins 90 = .ok (.iload_n 3, 1) := by decide +kernel
theorem dX5_joins_91 : decode cX5_joins 91 = .ok (.iconst 3, 1) := by decide +kernel
theorem dX5_joins_92 : decode cX5_joins 92 = .ok (.if_icmp .ne 23, 3) := by decide +kernel
theorem dX5_joins_95 : decode cX5_joins 95 = .ok (.lload 6, 2) := by decide +kernel
theorem dX5_joins_97 : decode cX5_joins 97 = .ok (.lload 4, 2) := by decide +kernel
theorem dX5_joins_99 : decode cX5_joins 99 = .ok (.lcmp, 1) := by decide +kernel
theorem dX5_joins_100 : decode cX5_joins 100 = .ok (.ifCond .ge 8, 3) := by decide +kernel
theorem dX5_joins_103 : decode cX5_joins 103 = .ok (.lload 6, 2) := by decide +kernel
theorem dX5_joins_105 : decode cX5_joins 105 = .ok (.goto 5, 3) := by decide +kernel
theorem dX5_joins_108 : decode cX5_joins 108 = .ok (.lload 4, 2) := by decide +kernel
theorem dX5_joins_110 : decode cX5_joins 110 = .ok (.lstore 8, 2) := by decide +kernel
theorem dX5_joins_112 : decode cX5_joins 112 = .ok (.goto 59, 3) := by decide +kernel
theorem dX5_joins_115 : decode cX5_joins 115 = .ok (.iload_n 3, 1) := by decide +kernel
theorem dX5_joins_116 : decode cX5_joins 116 = .ok (.iconst 4, 1) := by decide +kernel
theorem dX5_joins_117 : decode cX5_joins 117 = .ok (.if_icmp .ne 29, 3) := by decide +kernel
theorem dX5_joins_120 : decode cX5_joins 120 = .ok (.lload 4, 2) := by decide +kernel
theorem dX5_joins_122 : decode cX5_joins 122 = .ok (.ldc2_w 178, 3) := by decide +kernel
theorem dX5_joins_125 : decode cX5_joins 125 = .ok (.lcmp, 1) := by decide +kernel
theorem dX5_joins_126 : decode cX5_joins 126 = .ok (.ifCond .ne 10, 3) := by decide +kernel
theorem dX5_joins_129 : decode cX5_joins 129 = .ok (.lconst 0, 1) := by decide +kernel
theorem dX5_joins_130 : decode cX5_joins 130 = .ok (.lload 6, 2) := by decide +kernel
theorem dX5_joins_132 : decode cX5_joins 132 = .ok (.lsub, 1) := by decide +kernel
theorem dX5_joins_133 : decode cX5_joins 133 = .ok (.goto 8, 3) := by decide +kernel
theorem dX5_joins_136 : decode cX5_joins 136 = .ok (.lload 6, 2) := by decide +kernel
theorem dX5_joins_138 : decode cX5_joins 138 = .ok (.lload 4, 2) := by decide +kernel
theorem dX5_joins_140 : decode cX5_joins 140 = .ok (.ldiv, 1) := by decide +kernel
theorem dX5_joins_141 : decode cX5_joins 141 = .ok (.lstore 8, 2) := by decide +kernel
theorem dX5_joins_143 : decode cX5_joins 143 = .ok (.goto 28, 3) := by decide +kernel
theorem dX5_joins_146 : decode cX5_joins 146 = .ok (.iload_n 3, 1) := by decide +kernel
end
section
theorem dX5_joins_147 : decode cX5_joins 147 = .ok (.iconst 5, 1) := by decide +kernel
theorem dX5_joins_148 : decode cX5_joins 148 = .ok (.if_icmp .ne 23, 3) := by decide +kernel
theorem dX5_joins_151 : decode cX5_joins 151 = .ok (.lload 4, 2) := by decide +kernel
theorem dX5_joins_153 : decode cX5_joins 153 = .ok (.ldc2_w 178, 3) := by decide +kernel
theorem dX5_joins_156 : decode cX5_joins 156 = .ok (.lcmp, 1) := by decide +kernel
theorem dX5_joins_157 : decode cX5_joins 157 = .ok (.ifCond .ne 7, 3) := by decide +kernel
theorem dX5_joins_160 : decode cX5_joins 160 = .ok (.lconst 0, 1) := by decide +kernel
theorem dX5_joins_161 : decode cX5_joins 161 = .ok (.goto 8, 3) := by decide +kernel
theorem dX5_joins_164 : decode cX5_joins 164 = .ok (.lload 6, 2) := by decide +kernel
theorem dX5_joins_166 : decode cX5_joins 166 = .ok (.lload 4, 2) := by decide +kernel
theorem dX5_joins_168 : decode cX5_joins 168 = .ok (.lrem, 1) := by decide +kernel
theorem dX5_joins_169 : decode cX5_joins 169 = .ok (.lstore 8, 2) := by decide +kernel
theorem dX5_joins_171 : decode cX5_joins 171 = .ok (.aload_n 0, 1) := by decide +kernel
theorem dX5_joins_172 : decode cX5_joins 172 = .ok (.iload_n 1, 1) := by decide +kernel
theorem dX5_joins_173 : decode cX5_joins 173 = .ok (.iload_n 2, 1) := by decide +kernel
theorem dX5_joins_174 : decode cX5_joins 174 = .ok (.lload 8, 2) := by decide +kernel
theorem dX5_joins_176 : decode cX5_joins 176 = .ok (.invokevirtual 171, 3) := by decide +kernel
theorem dX5_joins_179 : decode cX5_joins 179 = .ok (.iconst 1, 1) := by decide +kernel
theorem dX5_joins_180 : decode cX5_joins 180 = .ok (.ireturn, 1) := by decide +kernel
theorem dX5_gather_0 : decode cX5_gather 0 = .ok (.iload_n 2, 1) := by decide +kernel
theorem dX5_gather_1 : decode cX5_gather 1 = .ok (.i2l, 1) := by decide +kernel
theorem dX5_gather_2 : decode cX5_gather 2 = .ok (.lconst 0, 1) := by decide +kernel
theorem dX5_gather_3 : decode cX5_gather 3 = .ok (.ldc2_w 180, 3) := by decide +kernel
theorem dX5_gather_6 : decode cX5_gather 6 = .ok (.invokestatic 101, 3) := by decide +kernel
theorem dX5_gather_9 : decode cX5_gather 9 = .ok (.ifCond .ne 6, 3) := by decide +kernel
theorem dX5_gather_12 : decode cX5_gather 12 = .ok (.ldc 116, 2) := by decide +kernel
theorem dX5_gather_14 : decode cX5_gather 14 = .ok (.ireturn, 1) := by decide +kernel
theorem dX5_gather_15 : decode cX5_gather 15 = .ok (.aload_n 0, 1) := by decide +kernel
theorem dX5_gather_16 : decode cX5_gather 16 = .ok (.iload_n 1, 1) := by decide +kernel
theorem dX5_gather_17 : decode cX5_gather 17 = .ok (.invokevirtual 135, 3) := by decide +kernel
theorem dX5_gather_20 : decode cX5_gather 20 = .ok (.istore_n 3, 1) := by decide +kernel
theorem dX5_gather_21 : decode cX5_gather 21 = .ok (.iload_n 3, 1) := by decide +kernel
theorem dX5_gather_22 : decode cX5_gather 22 = .ok (.ifCond .eq 9, 3) := by decide +kernel
theorem dX5_gather_25 : decode cX5_gather 25 = .ok (.aload_n 0, 1) := by decide +kernel
theorem dX5_gather_26 : decode cX5_gather 26 = .ok (.iload_n 3, 1) := by decide +kernel
theorem dX5_gather_27 : decode cX5_gather 27 = .ok (.invokevirtual 68, 3) := by decide +kernel
theorem dX5_gather_30 : decode cX5_gather 30 = .ok (.ireturn, 1) := by decide +kernel
theorem dX5_gather_31 : decode cX5_gather 31 = .ok (.iconst 0, 1) := by decide +kernel
theorem dX5_gather_32 : decode cX5_gather 32 = .ok (.istore 4, 2) := by decide +kernel
theorem dX5_gather_34 : decode cX5_gather 34 = .ok (.iload 4, 2) := by decide +kernel
theorem dX5_gather_36 : decode cX5_gather 36 = .ok (.aload_n 0, 1) := by decide +kernel
theorem dX5_gather_37 : decode cX5_gather 37 = .ok (.getfield 175, 3) := by decide +kernel
theorem dX5_gather_40 : decode cX5_gather 40 = .ok (.if_icmp .ge 78, 3) := by decide +kernel
theorem dX5_gather_43 : decode cX5_gather 43 = .ok (.aload_n 0, 1) := by decide +kernel
theorem dX5_gather_44 : decode cX5_gather 44 = .ok (.iload_n 1, 1) := by decide +kernel
theorem dX5_gather_45 : decode cX5_gather 45 = .ok (.aload_n 0, 1) := by decide +kernel
theorem dX5_gather_46 : decode cX5_gather 46 = .ok (.getfield 53, 3) := by decide +kernel
theorem dX5_gather_49 : decode cX5_gather 49 = .ok (.iload 4, 2) := by decide +kernel
theorem dX5_gather_51 : decode cX5_gather 51 = .ok (.iaload, 1) := by decide +kernel
theorem dX5_gather_52 : decode cX5_gather 52 = .ok (.aload_n 0, 1) := by decide +kernel
theorem dX5_gather_53 : decode cX5_gather 53 = .ok (.getfield 56, 3) := by decide +kernel
theorem dX5_gather_56 : decode cX5_gather 56 = .ok (.iload 4, 2) := by decide +kernel
theorem dX5_gather_58 : decode cX5_gather 58 = .ok (.iaload, 1) := by decide +kernel
theorem dX5_gather_59 : decode cX5_gather 59 = .ok (.aload_n 0, 1) := by decide +kernel
theorem dX5_gather_60 : decode cX5_gather 60 = .ok (.getfield 59, 3) := by decide +kernel
theorem dX5_gather_63 : decode cX5_gather 63 = .ok (.iload 4, 2) := by decide +kernel
theorem dX5_gather_65 : decode cX5_gather 65 = .ok (.iaload, 1) := by decide +kernel
theorem dX5_gather_66 : decode cX5_gather 66 = .ok (.invokevirtual 164, 3) := by decide +kernel
theorem dX5_gather_69 : decode cX5_gather 69 = .ok (.istore 5, 2) := by decide +kernel
theorem dX5_gather_71 : decode cX5_gather 71 = .ok (.iload 5, 2) := by decide +kernel
theorem dX5_gather_73 : decode cX5_gather 73 = .ok (.iconst (-1), 1) := by decide +kernel
theorem dX5_gather_74 : decode cX5_gather 74 = .ok (.if_icmp .ne 6, 3) := by decide +kernel
theorem dX5_gather_77 : decode cX5_gather 77 = .ok (.iload 4, 2) := by decide +kernel
theorem dX5_gather_79 : decode cX5_gather 79 = .ok (.ireturn, 1) := by decide +kernel
theorem dX5_gather_80 : decode cX5_gather 80 = .ok (.aload_n 0, 1) := by decide +kernel
theorem dX5_gather_81 : decode cX5_gather 81 = .ok (.iload 5, 2) := by decide +kernel
theorem dX5_gather_83 : decode cX5_gather 83 = .ok (.aload_n 0, 1) := by decide +kernel
theorem dX5_gather_84 : decode cX5_gather 84 = .ok (.getfield 20, 3) := by decide +kernel
theorem dX5_gather_87 : decode cX5_gather 87 = .ok (.iload_n 1, 1) := by decide +kernel
theorem dX5_gather_88 : decode cX5_gather 88 = .ok (.iaload, 1) := by decide +kernel
theorem dX5_gather_89 : decode cX5_gather 89 = .ok (.iload_n 2, 1) := by decide +kernel
theorem dX5_gather_90 : decode cX5_gather 90 = .ok (.aload_n 0, 1) := by decide +kernel
theorem dX5_gather_91 : decode cX5_gather 91 = .ok (.getfield 62, 3) := by decide +kernel
theorem dX5_gather_94 : decode cX5_gather 94 = .ok (.iload 4, 2) := by decide +kernel
theorem dX5_gather_96 : decode cX5_gather 96 = .ok (.laload, 1) := by decide +kernel
theorem dX5_gather_97 : decode cX5_gather 97 = .ok (.invokevirtual 182, 3) := by decide +kernel
theorem dX5_gather_100 : decode cX5_gather 100 = .ok (.ifCond .ne 12, 3) := by decide +kernel
theorem dX5_gather_103 : decode cX5_gather 103 = .ok (.aload_n 0, 1) := by decide +kernel
theorem dX5_gather_104 : decode cX5_gather 104 = .ok (.bipush 6, 2) := by decide +kernel
theorem dX5_gather_106 : decode cX5_gather 106 = .ok (.putfield 65, 3) := by decide +kernel
theorem dX5_gather_109 : decode cX5_gather 109 = .ok (.iload 4, 2) := by decide +kernel
theorem dX5_gather_111 : decode cX5_gather 111 = .ok (.ireturn, 1) := by decide +kernel
theorem dX5_gather_112 : decode cX5_gather 112 = .ok (.iinc 4 1, 3) := by decide +kernel
theorem dX5_gather_115 : decode cX5_gather 115 = .ok (.goto (-81), 3) := by decide +kernel
theorem dX5_gather_118 : decode cX5_gather 118 = .ok (.aload_n 0, 1) := by decide +kernel
theorem dX5_gather_119 : decode cX5_gather 119 = .ok (.getfield 175, 3) := by decide +kernel
theorem dX5_gather_122 : decode cX5_gather 122 = .ok (.istore 4, 2) := by decide +kernel
theorem dX5_gather_124 : decode cX5_gather 124 = .ok (.aload_n 0, 1) := by decide +kernel
theorem dX5_gather_125 : decode cX5_gather 125 = .ok (.iconst 0, 1) := by decide +kernel
theorem dX5_gather_126 : decode cX5_gather 126 = .ok (.putfield 175, 3) := by decide +kernel
theorem dX5_gather_129 : decode cX5_gather 129 = .ok (.aload_n 0, 1) := by decide +kernel
theorem dX5_gather_130 : decode cX5_gather 130 = .ok (.iload 4, 2) := by decide +kernel
theorem dX5_gather_132 : decode cX5_gather 132 = .ok (.invokevirtual 75, 3) := by decide +kernel
theorem dX5_gather_135 : decode cX5_gather 135 = .ok (.ireturn, 1) := by decide +kernel
theorem dX5_join_0 : decode cX5_join 0 = .ok (.iload_n 3, 1) := by decide +kernel
theorem dX5_join_1 : decode cX5_join 1 = .ok (.i2l, 1) := by decide +kernel
theorem dX5_join_2 : decode cX5_join 2 = .ok (.lconst 0, 1) := by decide +kernel
theorem dX5_join_3 : decode cX5_join 3 = .ok (.ldc2_w 180, 3) := by decide +kernel
theorem dX5_join_6 : decode cX5_join 6 = .ok (.invokestatic 101, 3) := by decide +kernel
theorem dX5_join_9 : decode cX5_join 9 = .ok (.ifCond .ne 6, 3) := by decide +kernel
theorem dX5_join_12 : decode cX5_join 12 = .ok (.ldc 116, 2) := by decide +kernel
theorem dX5_join_14 : decode cX5_join 14 = .ok (.ireturn, 1) := by decide +kernel
theorem dX5_join_15 : decode cX5_join 15 = .ok (.aload_n 0, 1) := by decide +kernel
theorem dX5_join_16 : decode cX5_join 16 = .ok (.iload_n 1, 1) := by decide +kernel
theorem dX5_join_17 : decode cX5_join 17 = .ok (.invokevirtual 131, 3) := by decide +kernel
theorem dX5_join_20 : decode cX5_join 20 = .ok (.ifCond .eq 11, 3) := by decide +kernel
theorem dX5_join_23 : decode cX5_join 23 = .ok (.aload_n 0, 1) := by decide +kernel
theorem dX5_join_24 : decode cX5_join 24 = .ok (.iload_n 2, 1) := by decide +kernel
theorem dX5_join_25 : decode cX5_join 25 = .ok (.invokevirtual 131, 3) := by decide +kernel
theorem dX5_join_28 : decode cX5_join 28 = .ok (.ifCond .ne 10, 3) := by decide +kernel
theorem dX5_join_31 : decode cX5_join 31 = .ok (.aload_n 0, 1) := by decide +kernel
theorem dX5_join_32 : decode cX5_join 32 = .ok (.bipush 7, 2) := by decide +kernel
theorem dX5_join_34 : decode cX5_join 34 = .ok (.invokevirtual 68, 3) := by decide +kernel
theorem dX5_join_37 : decode cX5_join 37 = .ok (.ireturn, 1) := by decide +kernel
theorem dX5_join_38 : decode cX5_join 38 = .ok (.aload_n 0, 1) := by decide +kernel
theorem dX5_join_39 : decode cX5_join 39 = .ok (.getfield 20, 3) := by decide +kernel
theorem dX5_join_42 : decode cX5_join 42 = .ok (.iload_n 1, 1) := by decide +kernel
theorem dX5_join_43 : decode cX5_join 43 = .ok (.iaload, 1) := by decide +kernel
theorem dX5_join_44 : decode cX5_join 44 = .ok (.aload_n 0, 1) := by decide +kernel
theorem dX5_join_45 : decode cX5_join 45 = .ok (.getfield 20, 3) := by decide +kernel
theorem dX5_join_48 : decode cX5_join 48 = .ok (.iload_n 2, 1) := by decide +kernel
theorem dX5_join_49 : decode cX5_join 49 = .ok (.iaload, 1) := by decide +kernel
theorem dX5_join_50 : decode cX5_join 50 = .ok (.if_icmp .ne 13, 3) := by decide +kernel
theorem dX5_join_53 : decode cX5_join 53 = .ok (.aload_n 0, 1) := by decide +kernel
theorem dX5_join_54 : decode cX5_join 54 = .ok (.getfield 20, 3) := by decide +kernel
theorem dX5_join_57 : decode cX5_join 57 = .ok (.iload_n 1, 1) := by decide +kernel
theorem dX5_join_58 : decode cX5_join 58 = .ok (.iaload, 1) := by decide +kernel
theorem dX5_join_59 : decode cX5_join 59 = .ok (.iconst 4, 1) := by decide +kernel
theorem dX5_join_60 : decode cX5_join 60 = .ok (.if_icmp .ne 9, 3) := by decide +kernel
theorem dX5_join_63 : decode cX5_join 63 = .ok (.aload_n 0, 1) := by decide +kernel
theorem dX5_join_64 : decode cX5_join 64 = .ok (.iconst 2, 1) := by decide +kernel
theorem dX5_join_65 : decode cX5_join 65 = .ok (.invokevirtual 68, 3) := by decide +kernel
theorem dX5_join_68 : decode cX5_join 68 = .ok (.ireturn, 1) := by decide +kernel
theorem dX5_join_69 : decode cX5_join 69 = .ok (.aload_n 0, 1) := by decide +kernel
theorem dX5_join_70 : decode cX5_join 70 = .ok (.getfield 38, 3) := by decide +kernel
theorem dX5_join_73 : decode cX5_join 73 = .ok (.aload_n 0, 1) := by decide +kernel
theorem dX5_join_74 : decode cX5_join 74 = .ok (.getfield 32, 3) := by decide +kernel
theorem dX5_join_77 : decode cX5_join 77 = .ok (.iload_n 1, 1) := by decide +kernel
theorem dX5_join_78 : decode cX5_join 78 = .ok (.iaload, 1) := by decide +kernel
theorem dX5_join_79 : decode cX5_join 79 = .ok (.iaload, 1) := by decide +kernel
theorem dX5_join_80 : decode cX5_join 80 = .ok (.istore 4, 2) := by decide +kernel
theorem dX5_join_82 : decode cX5_join 82 = .ok (.iload 4, 2) := by decide +kernel
theorem dX5_join_84 : decode cX5_join 84 = .ok (.aload_n 0, 1) := by decide +kernel
theorem dX5_join_85 : decode cX5_join 85 = .ok (.getfield 38, 3) := by decide +kernel
theorem dX5_join_88 : decode cX5_join 88 = .ok (.aload_n 0, 1) := by decide +kernel
theorem dX5_join_89 : decode cX5_join 89 = .ok (.getfield 32, 3) := by decide +kernel
theorem dX5_join_92 : decode cX5_join 92 = .ok (.iload_n 2, 1) := by decide +kernel
theorem dX5_join_93 : decode cX5_join 93 = .ok (.iaload, 1) := by decide +kernel
theorem dX5_join_94 : decode cX5_join 94 = .ok (.iaload, 1) := by decide +kernel
theorem dX5_join_95 : decode cX5_join 95 = .ok (.if_icmp .eq 10, 3) := by decide +kernel
theorem dX5_join_98 : decode cX5_join 98 = .ok (.aload_n 0, 1) := by decide +kernel
theorem dX5_join_99 : decode cX5_join 99 = .ok (.bipush 10, 2) := by decide +kernel
theorem dX5_join_101 : decode cX5_join 101 = .ok (.invokevirtual 68, 3) := by decide +kernel
theorem dX5_join_104 : decode cX5_join 104 = .ok (.ireturn, 1) := by decide +kernel
theorem dX5_join_105 : decode cX5_join 105 = .ok (.iconst 0, 1) := by decide +kernel
theorem dX5_join_106 : decode cX5_join 106 = .ok (.istore 5, 2) := by decide +kernel
theorem dX5_join_108 : decode cX5_join 108 = .ok (.iload 5, 2) := by decide +kernel
theorem dX5_join_110 : decode cX5_join 110 = .ok (.iload 4, 2) := by decide +kernel
theorem dX5_join_112 : decode cX5_join 112 = .ok (.if_icmp .ge 101, 3) := by decide +kernel
theorem dX5_join_115 : decode cX5_join 115 = .ok (.aload_n 0, 1) := by decide +kernel
theorem dX5_join_116 : decode cX5_join 116 = .ok (.getfield 35, 3) := by decide +kernel
theorem dX5_join_119 : decode cX5_join 119 = .ok (.aload_n 0, 1) := by decide +kernel
theorem dX5_join_120 : decode cX5_join 120 = .ok (.getfield 32, 3) := by decide +kernel
theorem dX5_join_123 : decode cX5_join 123 = .ok (.iload_n 1, 1) := by decide +kernel
theorem dX5_join_124 : decode cX5_join 124 = .ok (.iaload, 1) := by decide +kernel
theorem dX5_join_125 : decode cX5_join 125 = .ok (.iaload, 1) := by decide +kernel
theorem dX5_join_126 : decode cX5_join 126 = .ok (.iload 5, 2) := by decide +kernel
theorem dX5_join_128 : decode cX5_join 128 = .ok (.iadd, 1) := by decide +kernel
theorem dX5_join_129 : decode cX5_join 129 = .ok (.istore 6, 2) := by decide +kernel
theorem dX5_join_131 : decode cX5_join 131 = .ok (.aload_n 0, 1) := by decide +kernel
theorem dX5_join_132 : decode cX5_join 132 = .ok (.getfield 35, 3) := by decide +kernel
theorem dX5_join_135 : decode cX5_join 135 = .ok (.aload_n 0, 1) := by decide +kernel
theorem dX5_join_136 : decode cX5_join 136 = .ok (.getfield 32, 3) := by decide +kernel
theorem dX5_join_139 : decode cX5_join 139 = .ok (.iload_n 2, 1) := by decide +kernel
theorem dX5_join_140 : decode cX5_join 140 = .ok (.iaload, 1) := by decide +kernel
theorem dX5_join_141 : decode cX5_join 141 = .ok (.iaload, 1) := by decide +kernel
theorem dX5_join_142 : decode cX5_join 142 = .ok (.iload 5, 2) := by decide +kernel
theorem dX5_join_144 : decode cX5_join 144 = .ok (.iadd, 1) := by decide +kernel
theorem dX5_join_145 : decode cX5_join 145 = .ok (.istore 7, 2) := by decide +kernel
theorem dX5_join_147 : decode cX5_join 147 = .ok (.aload_n 0, 1) := by decide +kernel
theorem dX5_join_148 : decode cX5_join 148 = .ok (.getfield 20, 3) := by decide +kernel
theorem dX5_join_151 : decode cX5_join 151 = .ok (.iload_n 2, 1) := by decide +kernel
theorem dX5_join_152 : decode cX5_join 152 = .ok (.iaload, 1) := by decide +kernel
theorem dX5_join_153 : decode cX5_join 153 = .ok (.iconst 3, 1) := by decide +kernel
theorem dX5_join_154 : decode cX5_join 154 = .ok (.if_icmp .ne 21, 3) := by decide +kernel
theorem dX5_join_157 : decode cX5_join 157 = .ok (.aload_n 0, 1) := by decide +kernel
theorem dX5_join_158 : decode cX5_join 158 = .ok (.getfield 46, 3) := by decide +kernel
theorem dX5_join_161 : decode cX5_join 161 = .ok (.iload 7, 2) := by decide +kernel
theorem dX5_join_163 : decode cX5_join 163 = .ok (.baload, 1) := by decide +kernel
theorem dX5_join_164 : decode cX5_join 164 = .ok (.ifCond .ne 11, 3) := by decide +kernel
theorem dX5_join_167 : decode cX5_join 167 = .ok (.aload_n 0, 1) := by decide +kernel
theorem dX5_join_168 : decode cX5_join 168 = .ok (.iconst 1, 1) := by decide +kernel
theorem dX5_join_169 : decode cX5_join 169 = .ok (.putfield 65, 3) := by decide +kernel
theorem dX5_join_172 : decode cX5_join 172 = .ok (.iload 5, 2) := by decide +kernel
theorem dX5_join_174 : decode cX5_join 174 = .ok (.ireturn, 1) := by decide +kernel
theorem dX5_join_175 : decode cX5_join 175 = .ok (.aload_n 0, 1) := by decide +kernel
theorem dX5_join_176 : decode cX5_join 176 = .ok (.iload 6, 2) := by decide +kernel
theorem dX5_join_178 : decode cX5_join 178 = .ok (.aload_n 0, 1) := by decide +kernel
theorem dX5_join_179 : decode cX5_join 179 = .ok (.getfield 20, 3) := by decide +kernel
theorem dX5_join_182 : decode cX5_join 182 = .ok (.iload_n 1, 1) := by decide +kernel
theorem dX5_join_183 : decode cX5_join 183 = .ok (.iaload, 1) := by decide +kernel
theorem dX5_join_184 : decode cX5_join 184 = .ok (.iload_n 3, 1) := by decide +kernel
theorem dX5_join_185 : decode cX5_join 185 = .ok (.aload_n 0, 1) := by decide +kernel
theorem dX5_join_186 : decode cX5_join 186 = .ok (.getfield 42, 3) := by decide +kernel
theorem dX5_join_189 : decode cX5_join 189 = .ok (.iload 7, 2) := by decide +kernel
theorem dX5_join_191 : decode cX5_join 191 = .ok (.laload, 1) := by decide +kernel
theorem dX5_join_192 : decode cX5_join 192 = .ok (.invokevirtual 182, 3) := by decide +kernel
theorem dX5_join_195 : decode cX5_join 195 = .ok (.ifCond .ne 12, 3) := by decide +kernel
theorem dX5_join_198 : decode cX5_join 198 = .ok (.aload_n 0, 1) := by decide +kernel
theorem dX5_join_199 : decode cX5_join 199 = .ok (.bipush 6, 2) := by decide +kernel
theorem dX5_join_201 : decode cX5_join 201 = .ok (.putfield 65, 3) := by decide +kernel
theorem dX5_join_204 : decode cX5_join 204 = .ok (.iload 5, 2) := by decide +kernel
theorem dX5_join_206 : decode cX5_join 206 = .ok (.ireturn, 1) := by decide +kernel
theorem dX5_join_207 : decode cX5_join 207 = .ok (.iinc 5 1, 3) := by decide +kernel
theorem dX5_join_210 : decode cX5_join 210 = .ok (.goto (-102), 3) := by decide +kernel
theorem dX5_join_213 : decode cX5_join 213 = .ok (.aload_n 0, 1) := by decide +kernel
theorem dX5_join_214 : decode cX5_join 214 = .ok (.iload 4, 2) := by decide +kernel
theorem dX5_join_216 : decode cX5_join 216 = .ok (.invokevirtual 75, 3) := by decide +kernel
theorem dX5_join_219 : decode cX5_join 219 = .ok (.ireturn, 1) := by decide +kernel
theorem dX5_sumOf_0 : decode cX5_sumOf 0 = .ok (.lconst 0, 1) := by decide +kernel
theorem dX5_sumOf_1 : decode cX5_sumOf 1 = .ok (.lstore_n 2, 1) := by decide +kernel
theorem dX5_sumOf_2 : decode cX5_sumOf 2 = .ok (.iconst 0, 1) := by decide +kernel
theorem dX5_sumOf_3 : decode cX5_sumOf 3 = .ok (.istore 4, 2) := by decide +kernel
theorem dX5_sumOf_5 : decode cX5_sumOf 5 = .ok (.iload 4, 2) := by decide +kernel
theorem dX5_sumOf_7 : decode cX5_sumOf 7 = .ok (.aload_n 0, 1) := by decide +kernel
theorem dX5_sumOf_8 : decode cX5_sumOf 8 = .ok (.getfield 38, 3) := by decide +kernel
theorem dX5_sumOf_11 : decode cX5_sumOf 11 = .ok (.iload_n 1, 1) := by decide +kernel
theorem dX5_sumOf_12 : decode cX5_sumOf 12 = .ok (.iaload, 1) := by decide +kernel
theorem dX5_sumOf_13 : decode cX5_sumOf 13 = .ok (.if_icmp .ge 26, 3) := by decide +kernel
theorem dX5_sumOf_16 : decode cX5_sumOf 16 = .ok (.lload_n 2, 1) := by decide +kernel
theorem dX5_sumOf_17 : decode cX5_sumOf 17 = .ok (.aload_n 0, 1) := by decide +kernel
theorem dX5_sumOf_18 : decode cX5_sumOf 18 = .ok (.getfield 42, 3) := by decide +kernel
theorem dX5_sumOf_21 : decode cX5_sumOf 21 = .ok (.aload_n 0, 1) := by decide +kernel
theorem dX5_sumOf_22 : decode cX5_sumOf 22 = .ok (.getfield 35, 3) := by decide +kernel
theorem dX5_sumOf_25 : decode cX5_sumOf 25 = .ok (.iload_n 1, 1) := by decide +kernel
theorem dX5_sumOf_26 : decode cX5_sumOf 26 = .ok (.iaload, 1) := by decide +kernel
theorem dX5_sumOf_27 : decode cX5_sumOf 27 = .ok (.iload 4, 2) := by decide +kernel
theorem dX5_sumOf_29 : decode cX5_sumOf 29 = .ok (.iadd, 1) := by decide +kernel
theorem dX5_sumOf_30 : decode cX5_sumOf 30 = .ok (.laload, 1) := by decide +kernel
theorem dX5_sumOf_31 : decode cX5_sumOf 31 = .ok (.ladd, 1) := by decide +kernel
theorem dX5_sumOf_32 : decode cX5_sumOf 32 = .ok (.lstore_n 2, 1) := by decide +kernel
theorem dX5_sumOf_33 : decode cX5_sumOf 33 = .ok (.iinc 4 1, 3) := by decide +kernel
theorem dX5_sumOf_36 : decode cX5_sumOf 36 = .ok (.goto (-31), 3) := by decide +kernel
theorem dX5_sumOf_39 : decode cX5_sumOf 39 = .ok (.lload_n 2, 1) := by decide +kernel
theorem dX5_sumOf_40 : decode cX5_sumOf 40 = .ok (.lreturn, 1) := by decide +kernel
theorem dX5_sum_0 : decode cX5_sum 0 = .ok (.aload_n 0, 1) := by decide +kernel
theorem dX5_sum_1 : decode cX5_sum 1 = .ok (.iload_n 1, 1) := by decide +kernel
theorem dX5_sum_2 : decode cX5_sum 2 = .ok (.invokevirtual 131, 3) := by decide +kernel
theorem dX5_sum_5 : decode cX5_sum 5 = .ok (.ifCond .ne 11, 3) := by decide +kernel
theorem dX5_sum_8 : decode cX5_sum 8 = .ok (.aload_n 0, 1) := by decide +kernel
theorem dX5_sum_9 : decode cX5_sum 9 = .ok (.bipush 7, 2) := by decide +kernel
theorem dX5_sum_11 : decode cX5_sum 11 = .ok (.invokevirtual 68, 3) := by decide +kernel
theorem dX5_sum_14 : decode cX5_sum 14 = .ok (.i2l, 1) := by decide +kernel
theorem dX5_sum_15 : decode cX5_sum 15 = .ok (.lreturn, 1) := by decide +kernel
theorem dX5_sum_16 : decode cX5_sum 16 = .ok (.aload_n 0, 1) := by decide +kernel
theorem dX5_sum_17 : decode cX5_sum 17 = .ok (.iconst 0, 1) := by decide +kernel
theorem dX5_sum_18 : decode cX5_sum 18 = .ok (.putfield 65, 3) := by decide +kernel
theorem dX5_sum_21 : decode cX5_sum 21 = .ok (.aload_n 0, 1) := by decide +kernel
theorem dX5_sum_22 : decode cX5_sum 22 = .ok (.getfield 20, 3) := by decide +kernel
theorem dX5_sum_25 : decode cX5_sum 25 = .ok (.iload_n 1, 1) := by decide +kernel
theorem dX5_sum_26 : decode cX5_sum 26 = .ok (.iaload, 1) := by decide +kernel
theorem dX5_sum_27 : decode cX5_sum 27 = .ok (.iconst 4, 1) := by decide +kernel
theorem dX5_sum_28 : decode cX5_sum 28 = .ok (.if_icmp .eq 14, 3) := by decide +kernel
theorem dX5_sum_31 : decode cX5_sum 31 = .ok (.aload_n 0, 1) := by decide +kernel
theorem dX5_sum_32 : decode cX5_sum 32 = .ok (.aload_n 0, 1) := by decide +kernel
theorem dX5_sum_33 : decode cX5_sum 33 = .ok (.getfield 32, 3) := by decide +kernel
theorem dX5_sum_36 : decode cX5_sum 36 = .ok (.iload_n 1, 1) := by decide +kernel
theorem dX5_sum_37 : decode cX5_sum 37 = .ok (.iaload, 1) := by decide +kernel
theorem dX5_sum_38 : decode cX5_sum 38 = .ok (.invokevirtual 186, 3) := by decide +kernel
theorem dX5_sum_41 : decode cX5_sum 41 = .ok (.lreturn, 1) := by decide +kernel
theorem dX5_sum_42 : decode cX5_sum 42 = .ok (.lconst 0, 1) := by decide +kernel
theorem dX5_sum_43 : decode cX5_sum 43 = .ok (.lstore_n 2, 1) := by decide +kernel
theorem dX5_sum_44 : decode cX5_sum 44 = .ok (.iconst 0, 1) := by decide +kernel
theorem dX5_sum_45 : decode cX5_sum 45 = .ok (.istore 4, 2) := by decide +kernel
theorem dX5_sum_47 : decode cX5_sum 47 = .ok (.iload 4, 2) := by decide +kernel
theorem dX5_sum_49 : decode cX5_sum 49 = .ok (.aload_n 0, 1) := by decide +kernel
theorem dX5_sum_50 : decode cX5_sum 50 = .ok (.iload_n 1, 1) := by decide +kernel
theorem dX5_sum_51 : decode cX5_sum 51 = .ok (.invokevirtual 155, 3) := by decide +kernel
theorem dX5_sum_54 : decode cX5_sum 54 = .ok (.if_icmp .ge 44, 3) := by decide +kernel
theorem dX5_sum_57 : decode cX5_sum 57 = .ok (.aload_n 0, 1) := by decide +kernel
theorem dX5_sum_58 : decode cX5_sum 58 = .ok (.getfield 50, 3) := by decide +kernel
theorem dX5_sum_61 : decode cX5_sum 61 = .ok (.aload_n 0, 1) := by decide +kernel
theorem dX5_sum_62 : decode cX5_sum 62 = .ok (.getfield 32, 3) := by decide +kernel
theorem dX5_sum_65 : decode cX5_sum 65 = .ok (.iload_n 1, 1) := by decide +kernel
theorem dX5_sum_66 : decode cX5_sum 66 = .ok (.iaload, 1) := by decide +kernel
theorem dX5_sum_67 : decode cX5_sum 67 = .ok (.iload 4, 2) := by decide +kernel
theorem dX5_sum_69 : decode cX5_sum 69 = .ok (.iadd, 1) := by decide +kernel
theorem dX5_sum_70 : decode cX5_sum 70 = .ok (.iaload, 1) := by decide +kernel
theorem dX5_sum_71 : decode cX5_sum 71 = .ok (.istore 5, 2) := by decide +kernel
theorem dX5_sum_73 : decode cX5_sum 73 = .ok (.lload_n 2, 1) := by decide +kernel
theorem dX5_sum_74 : decode cX5_sum 74 = .ok (.iload 5, 2) := by decide +kernel
theorem dX5_sum_76 : decode cX5_sum 76 = .ok (.iconst (-1), 1) := by decide +kernel
theorem dX5_sum_77 : decode cX5_sum 77 = .ok (.if_icmp .ne 7, 3) := by decide +kernel
theorem dX5_sum_80 : decode cX5_sum 80 = .ok (.lconst 0, 1) := by decide +kernel
theorem dX5_sum_81 : decode cX5_sum 81 = .ok (.goto 9, 3) := by decide +kernel
theorem dX5_sum_84 : decode cX5_sum 84 = .ok (.aload_n 0, 1) := by decide +kernel
theorem dX5_sum_85 : decode cX5_sum 85 = .ok (.iload 5, 2) := by decide +kernel
theorem dX5_sum_87 : decode cX5_sum 87 = .ok (.invokevirtual 186, 3) := by decide +kernel
theorem dX5_sum_90 : decode cX5_sum 90 = .ok (.ladd, 1) := by decide +kernel
theorem dX5_sum_91 : decode cX5_sum 91 = .ok (.lstore_n 2, 1) := by decide +kernel
theorem dX5_sum_92 : decode cX5_sum 92 = .ok (.iinc 4 1, 3) := by decide +kernel
theorem dX5_sum_95 : decode cX5_sum 95 = .ok (.goto (-48), 3) := by decide +kernel
theorem dX5_sum_98 : decode cX5_sum 98 = .ok (.lload_n 2, 1) := by decide +kernel
theorem dX5_sum_99 : decode cX5_sum 99 = .ok (.lreturn, 1) := by decide +kernel
theorem dX5_mean_0 : decode cX5_mean 0 = .ok (.aload_n 0, 1) := by decide +kernel
theorem dX5_mean_1 : decode cX5_mean 1 = .ok (.iload_n 1, 1) := by decide +kernel
theorem dX5_mean_2 : decode cX5_mean 2 = .ok (.invokevirtual 131, 3) := by decide +kernel
theorem dX5_mean_5 : decode cX5_mean 5 = .ok (.ifCond .ne 8, 3) := by decide +kernel
theorem dX5_mean_8 : decode cX5_mean 8 = .ok (.bipush 7, 2) := by decide +kernel
theorem dX5_mean_10 : decode cX5_mean 10 = .ok (.goto 37, 3) := by decide +kernel
theorem dX5_mean_13 : decode cX5_mean 13 = .ok (.aload_n 0, 1) := by decide +kernel
theorem dX5_mean_14 : decode cX5_mean 14 = .ok (.getfield 20, 3) := by decide +kernel
theorem dX5_mean_17 : decode cX5_mean 17 = .ok (.iload_n 1, 1) := by decide +kernel
theorem dX5_mean_18 : decode cX5_mean 18 = .ok (.iaload, 1) := by decide +kernel
theorem dX5_mean_19 : decode cX5_mean 19 = .ok (.iconst 3, 1) := by decide +kernel
theorem dX5_mean_20 : decode cX5_mean 20 = .ok (.if_icmp .lt 7, 3) := by decide +kernel
theorem dX5_mean_23 : decode cX5_mean 23 = .ok (.iconst 2, 1) := by decide +kernel
theorem dX5_mean_24 : decode cX5_mean 24 = .ok (.goto 23, 3) := by decide +kernel
theorem dX5_mean_27 : decode cX5_mean 27 = .ok (.aload_n 0, 1) := by decide +kernel
theorem dX5_mean_28 : decode cX5_mean 28 = .ok (.getfield 38, 3) := by decide +kernel
theorem dX5_mean_31 : decode cX5_mean 31 = .ok (.aload_n 0, 1) := by decide +kernel
theorem dX5_mean_32 : decode cX5_mean 32 = .ok (.getfield 32, 3) := by decide +kernel
theorem dX5_mean_35 : decode cX5_mean 35 = .ok (.iload_n 1, 1) := by decide +kernel
theorem dX5_mean_36 : decode cX5_mean 36 = .ok (.iaload, 1) := by decide +kernel
theorem dX5_mean_37 : decode cX5_mean 37 = .ok (.iaload, 1) := by decide +kernel
theorem dX5_mean_38 : decode cX5_mean 38 = .ok (.ifCond .ne 8, 3) := by decide +kernel
theorem dX5_mean_41 : decode cX5_mean 41 = .ok (.bipush 6, 2) := by decide +kernel
theorem dX5_mean_43 : decode cX5_mean 43 = .ok (.goto 4, 3) := by decide +kernel
theorem dX5_mean_46 : decode cX5_mean 46 = .ok (.iconst 0, 1) := by decide +kernel
theorem dX5_mean_47 : decode cX5_mean 47 = .ok (.istore_n 2, 1) := by decide +kernel
theorem dX5_mean_48 : decode cX5_mean 48 = .ok (.iload_n 2, 1) := by decide +kernel
theorem dX5_mean_49 : decode cX5_mean 49 = .ok (.ifCond .eq 10, 3) := by decide +kernel
theorem dX5_mean_52 : decode cX5_mean 52 = .ok (.aload_n 0, 1) := by decide +kernel
theorem dX5_mean_53 : decode cX5_mean 53 = .ok (.iload_n 2, 1) := by decide +kernel
theorem dX5_mean_54 : decode cX5_mean 54 = .ok (.invokevirtual 68, 3) := by decide +kernel
theorem dX5_mean_57 : decode cX5_mean 57 = .ok (.i2l, 1) := by decide +kernel
theorem dX5_mean_58 : decode cX5_mean 58 = .ok (.lreturn, 1) := by decide +kernel
theorem dX5_mean_59 : decode cX5_mean 59 = .ok (.aload_n 0, 1) := by decide +kernel
theorem dX5_mean_60 : decode cX5_mean 60 = .ok (.iconst 0, 1) := by decide +kernel
theorem dX5_mean_61 : decode cX5_mean 61 = .ok (.putfield 65, 3) := by decide +kernel
theorem dX5_mean_64 : decode cX5_mean 64 = .ok (.aload_n 0, 1) := by decide +kernel
theorem dX5_mean_65 : decode cX5_mean 65 = .ok (.aload_n 0, 1) := by decide +kernel
theorem dX5_mean_66 : decode cX5_mean 66 = .ok (.getfield 32, 3) := by decide +kernel
theorem dX5_mean_69 : decode cX5_mean 69 = .ok (.iload_n 1, 1) := by decide +kernel
theorem dX5_mean_70 : decode cX5_mean 70 = .ok (.iaload, 1) := by decide +kernel
theorem dX5_mean_71 : decode cX5_mean 71 = .ok (.invokevirtual 186, 3) := by decide +kernel
theorem dX5_mean_74 : decode cX5_mean 74 = .ok (.aload_n 0, 1) := by decide +kernel
theorem dX5_mean_75 : decode cX5_mean 75 = .ok (.getfield 38, 3) := by decide +kernel
theorem dX5_mean_78 : decode cX5_mean 78 = .ok (.aload_n 0, 1) := by decide +kernel
theorem dX5_mean_79 : decode cX5_mean 79 = .ok (.getfield 32, 3) := by decide +kernel
theorem dX5_mean_82 : decode cX5_mean 82 = .ok (.iload_n 1, 1) := by decide +kernel
theorem dX5_mean_83 : decode cX5_mean 83 = .ok (.iaload, 1) := by decide +kernel
theorem dX5_mean_84 : decode cX5_mean 84 = .ok (.iaload, 1) := by decide +kernel
theorem dX5_mean_85 : decode cX5_mean 85 = .ok (.i2l, 1) := by decide +kernel
theorem dX5_mean_86 : decode cX5_mean 86 = .ok (.ldiv, 1) := by decide +kernel
theorem dX5_mean_87 : decode cX5_mean 87 = .ok (.lreturn, 1) := by decide +kernel
theorem dX5_about_0 : decode cX5_about 0 = .ok (.iload_n 2, 1) := by decide +kernel
theorem dX5_about_1 : decode cX5_about 1 = .ok (.i2l, 1) := by decide +kernel
theorem dX5_about_2 : decode cX5_about 2 = .ok (.lconst 0, 1) := by decide +kernel
theorem dX5_about_3 : decode cX5_about 3 = .ok (.ldc2_w 190, 3) := by decide +kernel
theorem dX5_about_6 : decode cX5_about 6 = .ok (.invokestatic 101, 3) := by decide +kernel
theorem dX5_about_9 : decode cX5_about 9 = .ok (.ifCond .ne 6, 3) := by decide +kernel
theorem dX5_about_12 : decode cX5_about 12 = .ok (.ldc 116, 2) := by decide +kernel
theorem dX5_about_14 : decode cX5_about 14 = .ok (.ireturn, 1) := by decide +kernel
theorem dX5_about_15 : decode cX5_about 15 = .ok (.aload_n 0, 1) := by decide +kernel
theorem dX5_about_16 : decode cX5_about 16 = .ok (.iload_n 1, 1) := by decide +kernel
theorem dX5_about_17 : decode cX5_about 17 = .ok (.invokevirtual 131, 3) := by decide +kernel
theorem dX5_about_20 : decode cX5_about 20 = .ok (.ifCond .ne 10, 3) := by decide +kernel
theorem dX5_about_23 : decode cX5_about 23 = .ok (.aload_n 0, 1) := by decide +kernel
theorem dX5_about_24 : decode cX5_about 24 = .ok (.bipush 7, 2) := by decide +kernel
theorem dX5_about_26 : decode cX5_about 26 = .ok (.invokevirtual 68, 3) := by decide +kernel
theorem dX5_about_29 : decode cX5_about 29 = .ok (.ireturn, 1) := by decide +kernel
theorem dX5_about_30 : decode cX5_about 30 = .ok (.iload_n 2, 1) := by decide +kernel
theorem dX5_about_31 : decode cX5_about 31 = .ok (.ifCond .ne 14, 3) := by decide +kernel
theorem dX5_about_34 : decode cX5_about 34 = .ok (.aload_n 0, 1) := by decide +kernel
theorem dX5_about_35 : decode cX5_about 35 = .ok (.aload_n 0, 1) := by decide +kernel
theorem dX5_about_36 : decode cX5_about 36 = .ok (.getfield 20, 3) := by decide +kernel
theorem dX5_about_39 : decode cX5_about 39 = .ok (.iload_n 1, 1) := by decide +kernel
theorem dX5_about_40 : decode cX5_about 40 = .ok (.iaload, 1) := by decide +kernel
theorem dX5_about_41 : decode cX5_about 41 = .ok (.invokevirtual 75, 3) := by decide +kernel
theorem dX5_about_44 : decode cX5_about 44 = .ok (.ireturn, 1) := by decide +kernel
theorem dX5_about_45 : decode cX5_about 45 = .ok (.iload_n 2, 1) := by decide +kernel
theorem dX5_about_46 : decode cX5_about 46 = .ok (.iconst 1, 1) := by decide +kernel
theorem dX5_about_47 : decode cX5_about 47 = .ok (.if_icmp .ne 14, 3) := by decide +kernel
theorem dX5_about_50 : decode cX5_about 50 = .ok (.aload_n 0, 1) := by decide +kernel
theorem dX5_about_51 : decode cX5_about 51 = .ok (.aload_n 0, 1) := by decide +kernel
theorem dX5_about_52 : decode cX5_about 52 = .ok (.getfield 23, 3) := by decide +kernel
theorem dX5_about_55 : decode cX5_about 55 = .ok (.iload_n 1, 1) := by decide +kernel
theorem dX5_about_56 : decode cX5_about 56 = .ok (.iaload, 1) := by decide +kernel
theorem dX5_about_57 : decode cX5_about 57 = .ok (.invokevirtual 75, 3) := by decide +kernel
theorem dX5_about_60 : decode cX5_about 60 = .ok (.ireturn, 1) := by decide +kernel
theorem dX5_about_61 : decode cX5_about 61 = .ok (.iload_n 2, 1) := by decide +kernel
theorem dX5_about_62 : decode cX5_about 62 = .ok (.iconst 2, 1) := by decide +kernel
theorem dX5_about_63 : decode cX5_about 63 = .ok (.if_icmp .ne 100, 3) := by decide +kernel
theorem dX5_about_66 : decode cX5_about 66 = .ok (.aload_n 0, 1) := by decide +kernel
theorem dX5_about_67 : decode cX5_about 67 = .ok (.getfield 20, 3) := by decide +kernel
theorem dX5_about_70 : decode cX5_about 70 = .ok (.iload_n 1, 1) := by decide +kernel
theorem dX5_about_71 : decode cX5_about 71 = .ok (.iaload, 1) := by decide +kernel
theorem dX5_about_72 : decode cX5_about 72 = .ok (.iconst 4, 1) := by decide +kernel
theorem dX5_about_73 : decode cX5_about 73 = .ok (.if_icmp .ne 7, 3) := by decide +kernel
theorem dX5_about_76 : decode cX5_about 76 = .ok (.iconst 0, 1) := by decide +kernel
theorem dX5_about_77 : decode cX5_about 77 = .ok (.goto 14, 3) := by decide +kernel
theorem dX5_about_80 : decode cX5_about 80 = .ok (.aload_n 0, 1) := by decide +kernel
theorem dX5_about_81 : decode cX5_about 81 = .ok (.getfield 38, 3) := by decide +kernel
theorem dX5_about_84 : decode cX5_about 84 = .ok (.aload_n 0, 1) := by decide +kernel
theorem dX5_about_85 : decode cX5_about 85 = .ok (.getfield 32, 3) := by decide +kernel
theorem dX5_about_88 : decode cX5_about 88 = .ok (.iload_n 1, 1) := by decide +kernel
theorem dX5_about_89 : decode cX5_about 89 = .ok (.iaload, 1) := by decide +kernel
theorem dX5_about_90 : decode cX5_about 90 = .ok (.iaload, 1) := by decide +kernel
theorem dX5_about_91 : decode cX5_about 91 = .ok (.istore_n 3, 1) := by decide +kernel
theorem dX5_about_92 : decode cX5_about 92 = .ok (.iconst 0, 1) := by decide +kernel
theorem dX5_about_93 : decode cX5_about 93 = .ok (.istore 4, 2) := by decide +kernel
theorem dX5_about_95 : decode cX5_about 95 = .ok (.aload_n 0, 1) := by decide +kernel
theorem dX5_about_96 : decode cX5_about 96 = .ok (.getfield 20, 3) := by decide +kernel
theorem dX5_about_99 : decode cX5_about 99 = .ok (.iload_n 1, 1) := by decide +kernel
theorem dX5_about_100 : decode cX5_about 100 = .ok (.iaload, 1) := by decide +kernel
theorem dX5_about_101 : decode cX5_about 101 = .ok (.iconst 4, 1) := by decide +kernel
theorem dX5_about_102 : decode cX5_about 102 = .ok (.if_icmp .ne 55, 3) := by decide +kernel
theorem dX5_about_105 : decode cX5_about 105 = .ok (.iload 4, 2) := by decide +kernel
theorem dX5_about_107 : decode cX5_about 107 = .ok (.aload_n 0, 1) := by decide +kernel
theorem dX5_about_108 : decode cX5_about 108 = .ok (.iload_n 1, 1) := by decide +kernel
theorem dX5_about_109 : decode cX5_about 109 = .ok (.invokevirtual 155, 3) := by decide +kernel
theorem dX5_about_112 : decode cX5_about 112 = .ok (.if_icmp .ge 45, 3) := by decide +kernel
theorem dX5_about_115 : decode cX5_about 115 = .ok (.aload_n 0, 1) := by decide +kernel
theorem dX5_about_116 : decode cX5_about 116 = .ok (.getfield 50, 3) := by decide +kernel
theorem dX5_about_119 : decode cX5_about 119 = .ok (.aload_n 0, 1) := by decide +kernel
theorem dX5_about_120 : decode cX5_about 120 = .ok (.getfield 32, 3) := by decide +kernel
theorem dX5_about_123 : decode cX5_about 123 = .ok (.iload_n 1, 1) := by decide +kernel
theorem dX5_about_124 : decode cX5_about 124 = .ok (.iaload, 1) := by decide +kernel
theorem dX5_about_125 : decode cX5_about 125 = .ok (.iload 4, 2) := by decide +kernel
theorem dX5_about_127 : decode cX5_about 127 = .ok (.iadd, 1) := by decide +kernel
theorem dX5_about_128 : decode cX5_about 128 = .ok (.iaload, 1) := by decide +kernel
theorem dX5_about_129 : decode cX5_about 129 = .ok (.istore 5, 2) := by decide +kernel
theorem dX5_about_131 : decode cX5_about 131 = .ok (.iload_n 3, 1) := by decide +kernel
theorem dX5_about_132 : decode cX5_about 132 = .ok (.iload 5, 2) := by decide +kernel
theorem dX5_about_134 : decode cX5_about 134 = .ok (.iconst (-1), 1) := by decide +kernel
theorem dX5_about_135 : decode cX5_about 135 = .ok (.if_icmp .ne 7, 3) := by decide +kernel
theorem dX5_about_138 : decode cX5_about 138 = .ok (.iconst 0, 1) := by decide +kernel
theorem dX5_about_139 : decode cX5_about 139 = .ok (.goto 10, 3) := by decide +kernel
theorem dX5_about_142 : decode cX5_about 142 = .ok (.aload_n 0, 1) := by decide +kernel
theorem dX5_about_143 : decode cX5_about 143 = .ok (.getfield 38, 3) := by decide +kernel
theorem dX5_about_146 : decode cX5_about 146 = .ok (.iload 5, 2) := by decide +kernel
theorem dX5_about_148 : decode cX5_about 148 = .ok (.iaload, 1) := by decide +kernel
theorem dX5_about_149 : decode cX5_about 149 = .ok (.iadd, 1) := by decide +kernel
theorem dX5_about_150 : decode cX5_about 150 = .ok (.istore_n 3, 1) := by decide +kernel
theorem dX5_about_151 : decode cX5_about 151 = .ok (.iinc 4 1, 3) := by decide +kernel
theorem dX5_about_154 : decode cX5_about 154 = .ok (.goto (-59), 3) := by decide +kernel
theorem dX5_about_157 : decode cX5_about 157 = .ok (.aload_n 0, 1) := by decide +kernel
theorem dX5_about_158 : decode cX5_about 158 = .ok (.iload_n 3, 1) := by decide +kernel
theorem dX5_about_159 : decode cX5_about 159 = .ok (.invokevirtual 75, 3) := by decide +kernel
theorem dX5_about_162 : decode cX5_about 162 = .ok (.ireturn, 1) := by decide +kernel
theorem dX5_about_163 : decode cX5_about 163 = .ok (.iload_n 2, 1) := by decide +kernel
theorem dX5_about_164 : decode cX5_about 164 = .ok (.iconst 3, 1) := by decide +kernel
theorem dX5_about_165 : decode cX5_about 165 = .ok (.isub, 1) := by decide +kernel
theorem dX5_about_166 : decode cX5_about 166 = .ok (.iconst 2, 1) := by decide +kernel
theorem dX5_about_167 : decode cX5_about 167 = .ok (.idiv, 1) := by decide +kernel
theorem dX5_about_168 : decode cX5_about 168 = .ok (.istore_n 3, 1) := by decide +kernel
theorem dX5_about_169 : decode cX5_about 169 = .ok (.iload_n 3, 1) := by decide +kernel
theorem dX5_about_170 : decode cX5_about 170 = .ok (.aload_n 0, 1) := by decide +kernel
theorem dX5_about_171 : decode cX5_about 171 = .ok (.getfield 23, 3) := by decide +kernel
theorem dX5_about_174 : decode cX5_about 174 = .ok (.iload_n 1, 1) := by decide +kernel
theorem dX5_about_175 : decode cX5_about 175 = .ok (.iaload, 1) := by decide +kernel
theorem dX5_about_176 : decode cX5_about 176 = .ok (.if_icmp .lt 10, 3) := by decide +kernel
theorem dX5_about_179 : decode cX5_about 179 = .ok (.aload_n 0, 1) := by decide +kernel
theorem dX5_about_180 : decode cX5_about 180 = .ok (.bipush 9, 2) := by decide +kernel
theorem dX5_about_182 : decode cX5_about 182 = .ok (.invokevirtual 68, 3) := by decide +kernel
theorem dX5_about_185 : decode cX5_about 185 = .ok (.ireturn, 1) := by decide +kernel
theorem dX5_about_186 : decode cX5_about 186 = .ok (.aload_n 0, 1) := by decide +kernel
theorem dX5_about_187 : decode cX5_about 187 = .ok (.iload_n 2, 1) := by decide +kernel
theorem dX5_about_188 : decode cX5_about 188 = .ok (.iconst 2, 1) := by decide +kernel
theorem dX5_about_189 : decode cX5_about 189 = .ok (.irem, 1) := by decide +kernel
theorem dX5_about_190 : decode cX5_about 190 = .ok (.iconst 1, 1) := by decide +kernel
theorem dX5_about_191 : decode cX5_about 191 = .ok (.if_icmp .ne 16, 3) := by decide +kernel
theorem dX5_about_194 : decode cX5_about 194 = .ok (.aload_n 0, 1) := by decide +kernel
theorem dX5_about_195 : decode cX5_about 195 = .ok (.getfield 26, 3) := by decide +kernel
theorem dX5_about_198 : decode cX5_about 198 = .ok (.iconst 3, 1) := by decide +kernel
theorem dX5_about_199 : decode cX5_about 199 = .ok (.iload_n 1, 1) := by decide +kernel
theorem dX5_about_200 : decode cX5_about 200 = .ok (.imul, 1) := by decide +kernel
theorem dX5_about_201 : decode cX5_about 201 = .ok (.iload_n 3, 1) := by decide +kernel
theorem dX5_about_202 : decode cX5_about 202 = .ok (.iadd, 1) := by decide +kernel
theorem dX5_about_203 : decode cX5_about 203 = .ok (.iaload, 1) := by decide +kernel
theorem dX5_about_204 : decode cX5_about 204 = .ok (.goto 13, 3) := by decide +kernel
theorem dX5_about_207 : decode cX5_about 207 = .ok (.aload_n 0, 1) := by decide +kernel
theorem dX5_about_208 : decode cX5_about 208 = .ok (.getfield 29, 3) := by decide +kernel
theorem dX5_about_211 : decode cX5_about 211 = .ok (.iconst 3, 1) := by decide +kernel
theorem dX5_about_212 : decode cX5_about 212 = .ok (.iload_n 1, 1) := by decide +kernel
theorem dX5_about_213 : decode cX5_about 213 = .ok (.imul, 1) := by decide +kernel
theorem dX5_about_214 : decode cX5_about 214 = .ok (.iload_n 3, 1) := by decide +kernel
theorem dX5_about_215 : decode cX5_about 215 = .ok (.iadd, 1) := by decide +kernel
theorem dX5_about_216 : decode cX5_about 216 = .ok (.iaload, 1) := by decide +kernel
theorem dX5_about_217 : decode cX5_about 217 = .ok (.invokevirtual 75, 3) := by decide +kernel
theorem dX5_about_220 : decode cX5_about 220 = .ok (.ireturn, 1) := by decide +kernel
theorem dX5_same_0 : decode cX5_same 0 = .ok (.aload_n 0, 1) := by decide +kernel
theorem dX5_same_1 : decode cX5_same 1 = .ok (.iload_n 1, 1) := by decide +kernel
theorem dX5_same_2 : decode cX5_same 2 = .ok (.invokevirtual 131, 3) := by decide +kernel
theorem dX5_same_5 : decode cX5_same 5 = .ok (.ifCond .eq 11, 3) := by decide +kernel
theorem dX5_same_8 : decode cX5_same 8 = .ok (.aload_n 0, 1) := by decide +kernel
theorem dX5_same_9 : decode cX5_same 9 = .ok (.iload_n 2, 1) := by decide +kernel
theorem dX5_same_10 : decode cX5_same 10 = .ok (.invokevirtual 131, 3) := by decide +kernel
theorem dX5_same_13 : decode cX5_same 13 = .ok (.ifCond .ne 10, 3) := by decide +kernel
theorem dX5_same_16 : decode cX5_same 16 = .ok (.aload_n 0, 1) := by decide +kernel
theorem dX5_same_17 : decode cX5_same 17 = .ok (.bipush 7, 2) := by decide +kernel
theorem dX5_same_19 : decode cX5_same 19 = .ok (.invokevirtual 68, 3) := by decide +kernel
theorem dX5_same_22 : decode cX5_same 22 = .ok (.ireturn, 1) := by decide +kernel
theorem dX5_same_23 : decode cX5_same 23 = .ok (.aload_n 0, 1) := by decide +kernel
theorem dX5_same_24 : decode cX5_same 24 = .ok (.getfield 20, 3) := by decide +kernel
theorem dX5_same_27 : decode cX5_same 27 = .ok (.iload_n 1, 1) := by decide +kernel
theorem dX5_same_28 : decode cX5_same 28 = .ok (.iaload, 1) := by decide +kernel
theorem dX5_same_29 : decode cX5_same 29 = .ok (.iconst 4, 1) := by decide +kernel
theorem dX5_same_30 : decode cX5_same 30 = .ok (.if_icmp .ne 13, 3) := by decide +kernel
theorem dX5_same_33 : decode cX5_same 33 = .ok (.aload_n 0, 1) := by decide +kernel
theorem dX5_same_34 : decode cX5_same 34 = .ok (.getfield 20, 3) := by decide +kernel
theorem dX5_same_37 : decode cX5_same 37 = .ok (.iload_n 2, 1) := by decide +kernel
theorem dX5_same_38 : decode cX5_same 38 = .ok (.iaload, 1) := by decide +kernel
theorem dX5_same_39 : decode cX5_same 39 = .ok (.iconst 4, 1) := by decide +kernel
theorem dX5_same_40 : decode cX5_same 40 = .ok (.if_icmp .eq 48, 3) := by decide +kernel
theorem dX5_same_43 : decode cX5_same 43 = .ok (.aload_n 0, 1) := by decide +kernel
theorem dX5_same_44 : decode cX5_same 44 = .ok (.aload_n 0, 1) := by decide +kernel
theorem dX5_same_45 : decode cX5_same 45 = .ok (.getfield 20, 3) := by decide +kernel
theorem dX5_same_48 : decode cX5_same 48 = .ok (.iload_n 1, 1) := by decide +kernel
theorem dX5_same_49 : decode cX5_same 49 = .ok (.iaload, 1) := by decide +kernel
theorem dX5_same_50 : decode cX5_same 50 = .ok (.iconst 4, 1) := by decide +kernel
theorem dX5_same_51 : decode cX5_same 51 = .ok (.if_icmp .eq 32, 3) := by decide +kernel
theorem dX5_same_54 : decode cX5_same 54 = .ok (.aload_n 0, 1) := by decide +kernel
theorem dX5_same_55 : decode cX5_same 55 = .ok (.getfield 20, 3) := by decide +kernel
theorem dX5_same_58 : decode cX5_same 58 = .ok (.iload_n 2, 1) := by decide +kernel
theorem dX5_same_59 : decode cX5_same 59 = .ok (.iaload, 1) := by decide +kernel
theorem dX5_same_60 : decode cX5_same 60 = .ok (.iconst 4, 1) := by decide +kernel
theorem dX5_same_61 : decode cX5_same 61 = .ok (.if_icmp .eq 22, 3) := by decide +kernel
theorem dX5_same_64 : decode cX5_same 64 = .ok (.aload_n 0, 1) := by decide +kernel
theorem dX5_same_65 : decode cX5_same 65 = .ok (.getfield 32, 3) := by decide +kernel
theorem dX5_same_68 : decode cX5_same 68 = .ok (.iload_n 1, 1) := by decide +kernel
theorem dX5_same_69 : decode cX5_same 69 = .ok (.iaload, 1) := by decide +kernel
theorem dX5_same_70 : decode cX5_same 70 = .ok (.aload_n 0, 1) := by decide +kernel
theorem dX5_same_71 : decode cX5_same 71 = .ok (.getfield 32, 3) := by decide +kernel
theorem dX5_same_74 : decode cX5_same 74 = .ok (.iload_n 2, 1) := by decide +kernel
theorem dX5_same_75 : decode cX5_same 75 = .ok (.iaload, 1) := by decide +kernel
theorem dX5_same_76 : decode cX5_same 76 = .ok (.if_icmp .ne 7, 3) := by decide +kernel
theorem dX5_same_79 : decode cX5_same 79 = .ok (.iconst 1, 1) := by decide +kernel
theorem dX5_same_80 : decode cX5_same 80 = .ok (.goto 4, 3) := by decide +kernel
theorem dX5_same_83 : decode cX5_same 83 = .ok (.iconst 0, 1) := by decide +kernel
theorem dX5_same_84 : decode cX5_same 84 = .ok (.invokevirtual 75, 3) := by decide +kernel
theorem dX5_same_87 : decode cX5_same 87 = .ok (.ireturn, 1) := by decide +kernel
theorem dX5_same_88 : decode cX5_same 88 = .ok (.aload_n 0, 1) := by decide +kernel
theorem dX5_same_89 : decode cX5_same 89 = .ok (.iload_n 1, 1) := by decide +kernel
theorem dX5_same_90 : decode cX5_same 90 = .ok (.invokevirtual 155, 3) := by decide +kernel
theorem dX5_same_93 : decode cX5_same 93 = .ok (.aload_n 0, 1) := by decide +kernel
theorem dX5_same_94 : decode cX5_same 94 = .ok (.iload_n 2, 1) := by decide +kernel
theorem dX5_same_95 : decode cX5_same 95 = .ok (.invokevirtual 155, 3) := by decide +kernel
theorem dX5_same_98 : decode cX5_same 98 = .ok (.if_icmp .ne 7, 3) := by decide +kernel
theorem dX5_same_101 : decode cX5_same 101 = .ok (.iconst 1, 1) := by decide +kernel
theorem dX5_same_102 : decode cX5_same 102 = .ok (.goto 4, 3) := by decide +kernel
theorem dX5_same_105 : decode cX5_same 105 = .ok (.iconst 0, 1) := by decide +kernel
theorem dX5_same_106 : decode cX5_same 106 = .ok (.istore_n 3, 1) := by decide +kernel
theorem dX5_same_107 : decode cX5_same 107 = .ok (.iconst 0, 1) := by decide +kernel
theorem dX5_same_108 : decode cX5_same 108 = .ok (.istore 4, 2) := by decide +kernel
theorem dX5_same_110 : decode cX5_same 110 = .ok (.iload_n 3, 1) := by decide +kernel
theorem dX5_same_111 : decode cX5_same 111 = .ok (.ifCond .eq 56, 3) := by decide +kernel
theorem dX5_same_114 : decode cX5_same 114 = .ok (.iload 4, 2) := by decide +kernel
theorem dX5_same_116 : decode cX5_same 116 = .ok (.aload_n 0, 1) := by decide +kernel
theorem dX5_same_117 : decode cX5_same 117 = .ok (.iload_n 1, 1) := by decide +kernel
theorem dX5_same_118 : decode cX5_same 118 = .ok (.invokevirtual 155, 3) := by decide +kernel
theorem dX5_same_121 : decode cX5_same 121 = .ok (.if_icmp .ge 46, 3) := by decide +kernel
theorem dX5_same_124 : decode cX5_same 124 = .ok (.aload_n 0, 1) := by decide +kernel
theorem dX5_same_125 : decode cX5_same 125 = .ok (.getfield 50, 3) := by decide +kernel
theorem dX5_same_128 : decode cX5_same 128 = .ok (.aload_n 0, 1) := by decide +kernel
theorem dX5_same_129 : decode cX5_same 129 = .ok (.getfield 32, 3) := by decide +kernel
theorem dX5_same_132 : decode cX5_same 132 = .ok (.iload_n 1, 1) := by decide +kernel
theorem dX5_same_133 : decode cX5_same 133 = .ok (.iaload, 1) := by decide +kernel
theorem dX5_same_134 : decode cX5_same 134 = .ok (.iload 4, 2) := by decide +kernel
theorem dX5_same_136 : decode cX5_same 136 = .ok (.iadd, 1) := by decide +kernel
theorem dX5_same_137 : decode cX5_same 137 = .ok (.iaload, 1) := by decide +kernel
theorem dX5_same_138 : decode cX5_same 138 = .ok (.aload_n 0, 1) := by decide +kernel
theorem dX5_same_139 : decode cX5_same 139 = .ok (.getfield 50, 3) := by decide +kernel
theorem dX5_same_142 : decode cX5_same 142 = .ok (.aload_n 0, 1) := by decide +kernel
theorem dX5_same_143 : decode cX5_same 143 = .ok (.getfield 32, 3) := by decide +kernel
theorem dX5_same_146 : decode cX5_same 146 = .ok (.iload_n 2, 1) := by decide +kernel
theorem dX5_same_147 : decode cX5_same 147 = .ok (.iaload, 1) := by decide +kernel
theorem dX5_same_148 : decode cX5_same 148 = .ok (.iload 4, 2) := by decide +kernel
theorem dX5_same_150 : decode cX5_same 150 = .ok (.iadd, 1) := by decide +kernel
theorem dX5_same_151 : decode cX5_same 151 = .ok (.iaload, 1) := by decide +kernel
theorem dX5_same_152 : decode cX5_same 152 = .ok (.if_icmp .ne 7, 3) := by decide +kernel
theorem dX5_same_155 : decode cX5_same 155 = .ok (.iconst 1, 1) := by decide +kernel
theorem dX5_same_156 : decode cX5_same 156 = .ok (.goto 4, 3) := by decide +kernel
theorem dX5_same_159 : decode cX5_same 159 = .ok (.iconst 0, 1) := by decide +kernel
theorem dX5_same_160 : decode cX5_same 160 = .ok (.istore_n 3, 1) := by decide +kernel
theorem dX5_same_161 : decode cX5_same 161 = .ok (.iinc 4 1, 3) := by decide +kernel
theorem dX5_same_164 : decode cX5_same 164 = .ok (.goto (-54), 3) := by decide +kernel
theorem dX5_same_167 : decode cX5_same 167 = .ok (.aload_n 0, 1) := by decide +kernel
theorem dX5_same_168 : decode cX5_same 168 = .ok (.iload_n 3, 1) := by decide +kernel
theorem dX5_same_169 : decode cX5_same 169 = .ok (.ifCond .eq 7, 3) := by decide +kernel
theorem dX5_same_172 : decode cX5_same 172 = .ok (.iconst 1, 1) := by decide +kernel
theorem dX5_same_173 : decode cX5_same 173 = .ok (.goto 4, 3) := by decide +kernel
theorem dX5_same_176 : decode cX5_same 176 = .ok (.iconst 0, 1) := by decide +kernel
theorem dX5_same_177 : decode cX5_same 177 = .ok (.invokevirtual 75, 3) := by decide +kernel
theorem dX5_same_180 : decode cX5_same 180 = .ok (.ireturn, 1) := by decide +kernel
theorem dX5_compare_0 : decode cX5_compare 0 = .ok (.aload_n 0, 1) := by decide +kernel
theorem dX5_compare_1 : decode cX5_compare 1 = .ok (.iload_n 1, 1) := by decide +kernel
theorem dX5_compare_2 : decode cX5_compare 2 = .ok (.invokevirtual 131, 3) := by decide +kernel
theorem dX5_compare_5 : decode cX5_compare 5 = .ok (.ifCond .eq 11, 3) := by decide +kernel
theorem dX5_compare_8 : decode cX5_compare 8 = .ok (.aload_n 0, 1) := by decide +kernel
theorem dX5_compare_9 : decode cX5_compare 9 = .ok (.iload_n 2, 1) := by decide +kernel
theorem dX5_compare_10 : decode cX5_compare 10 = .ok (.invokevirtual 131, 3) := by decide +kernel
theorem dX5_compare_13 : decode cX5_compare 13 = .ok (.ifCond .ne 10, 3) := by decide +kernel
theorem dX5_compare_16 : decode cX5_compare 16 = .ok (.aload_n 0, 1) := by decide +kernel
theorem dX5_compare_17 : decode cX5_compare 17 = .ok (.bipush 7, 2) := by decide +kernel
theorem dX5_compare_19 : decode cX5_compare 19 = .ok (.invokevirtual 68, 3) := by decide +kernel
theorem dX5_compare_22 : decode cX5_compare 22 = .ok (.ireturn, 1) := by decide +kernel
theorem dX5_compare_23 : decode cX5_compare 23 = .ok (.aload_n 0, 1) := by decide +kernel
theorem dX5_compare_24 : decode cX5_compare 24 = .ok (.getfield 20, 3) := by decide +kernel
theorem dX5_compare_27 : decode cX5_compare 27 = .ok (.iload_n 1, 1) := by decide +kernel
theorem dX5_compare_28 : decode cX5_compare 28 = .ok (.iaload, 1) := by decide +kernel
theorem dX5_compare_29 : decode cX5_compare 29 = .ok (.aload_n 0, 1) := by decide +kernel
theorem dX5_compare_30 : decode cX5_compare 30 = .ok (.getfield 20, 3) := by decide +kernel
theorem dX5_compare_33 : decode cX5_compare 33 = .ok (.iload_n 2, 1) := by decide +kernel
theorem dX5_compare_34 : decode cX5_compare 34 = .ok (.iaload, 1) := by decide +kernel
theorem dX5_compare_35 : decode cX5_compare 35 = .ok (.if_icmp .ne 13, 3) := by decide +kernel
theorem dX5_compare_38 : decode cX5_compare 38 = .ok (.aload_n 0, 1) := by decide +kernel
theorem dX5_compare_39 : decode cX5_compare 39 = .ok (.getfield 20, 3) := by decide +kernel
theorem dX5_compare_42 : decode cX5_compare 42 = .ok (.iload_n 1, 1) := by decide +kernel
theorem dX5_compare_43 : decode cX5_compare 43 = .ok (.iaload, 1) := by decide +kernel
theorem dX5_compare_44 : decode cX5_compare 44 = .ok (.iconst 3, 1) := by decide +kernel
theorem dX5_compare_45 : decode cX5_compare 45 = .ok (.if_icmp .lt 9, 3) := by decide +kernel
theorem dX5_compare_48 : decode cX5_compare 48 = .ok (.aload_n 0, 1) := by decide +kernel
theorem dX5_compare_49 : decode cX5_compare 49 = .ok (.iconst 2, 1) := by decide +kernel
theorem dX5_compare_50 : decode cX5_compare 50 = .ok (.invokevirtual 68, 3) := by decide +kernel
theorem dX5_compare_53 : decode cX5_compare 53 = .ok (.ireturn, 1) := by decide +kernel
theorem dX5_compare_54 : decode cX5_compare 54 = .ok (.aload_n 0, 1) := by decide +kernel
theorem dX5_compare_55 : decode cX5_compare 55 = .ok (.getfield 38, 3) := by decide +kernel
theorem dX5_compare_58 : decode cX5_compare 58 = .ok (.aload_n 0, 1) := by decide +kernel
theorem dX5_compare_59 : decode cX5_compare 59 = .ok (.getfield 32, 3) := by decide +kernel
theorem dX5_compare_62 : decode cX5_compare 62 = .ok (.iload_n 1, 1) := by decide +kernel
theorem dX5_compare_63 : decode cX5_compare 63 = .ok (.iaload, 1) := by decide +kernel
theorem dX5_compare_64 : decode cX5_compare 64 = .ok (.iaload, 1) := by decide +kernel
theorem dX5_compare_65 : decode cX5_compare 65 = .ok (.istore_n 3, 1) := by decide +kernel
theorem dX5_compare_66 : decode cX5_compare 66 = .ok (.aload_n 0, 1) := by decide +kernel
theorem dX5_compare_67 : decode cX5_compare 67 = .ok (.getfield 38, 3) := by decide +kernel
theorem dX5_compare_70 : decode cX5_compare 70 = .ok (.aload_n 0, 1) := by decide +kernel
theorem dX5_compare_71 : decode cX5_compare 71 = .ok (.getfield 32, 3) := by decide +kernel
theorem dX5_compare_74 : decode cX5_compare 74 = .ok (.iload_n 2, 1) := by decide +kernel
theorem dX5_compare_75 : decode cX5_compare 75 = .ok (.iaload, 1) := by decide +kernel
theorem dX5_compare_76 : decode cX5_compare 76 = .ok (.iaload, 1) := by decide +kernel
theorem dX5_compare_77 : decode cX5_compare 77 = .ok (.istore 4, 2) := by decide +kernel
theorem dX5_compare_79 : decode cX5_compare 79 = .ok (.iconst 0, 1) := by decide +kernel
theorem dX5_compare_80 : decode cX5_compare 80 = .ok (.istore 5, 2) := by decide +kernel
theorem dX5_compare_82 : decode cX5_compare 82 = .ok (.iload 5, 2) := by decide +kernel
theorem dX5_compare_84 : decode cX5_compare 84 = .ok (.iload_n 3, 1) := by decide +kernel
theorem dX5_compare_85 : decode cX5_compare 85 = .ok (.if_icmp .ge 84, 3) := by decide +kernel
theorem dX5_compare_88 : decode cX5_compare 88 = .ok (.iload 5, 2) := by decide +kernel
theorem dX5_compare_90 : decode cX5_compare 90 = .ok (.iload 4, 2) := by decide +kernel
theorem dX5_compare_92 : decode cX5_compare 92 = .ok (.if_icmp .ge 77, 3) := by decide +kernel
theorem dX5_compare_95 : decode cX5_compare 95 = .ok (.aload_n 0, 1) := by decide +kernel
theorem dX5_compare_96 : decode cX5_compare 96 = .ok (.getfield 42, 3) := by decide +kernel
theorem dX5_compare_99 : decode cX5_compare 99 = .ok (.aload_n 0, 1) := by decide +kernel
theorem dX5_compare_100 : decode cX5_compare 100 = .ok (.getfield 35, 3) := by decide +kernel
theorem dX5_compare_103 : decode cX5_compare 103 = .ok (.aload_n 0, 1) := by decide +kernel
theorem dX5_compare_104 : decode cX5_compare 104 = .ok (.getfield 32, 3) := by decide +kernel
theorem dX5_compare_107 : decode cX5_compare 107 = .ok (.iload_n 1, 1) := by decide +kernel
theorem dX5_compare_108 : decode cX5_compare 108 = .ok (.iaload, 1) := by decide +kernel
theorem dX5_compare_109 : decode cX5_compare 109 = .ok (.iaload, 1) := by decide +kernel
theorem dX5_compare_110 : decode cX5_compare 110 = .ok (.iload 5, 2) := by decide +kernel
theorem dX5_compare_112 : decode cX5_compare 112 = .ok (.iadd, 1) := by decide +kernel
theorem dX5_compare_113 : decode cX5_compare 113 = .ok (.laload, 1) := by decide +kernel
theorem dX5_compare_114 : decode cX5_compare 114 = .ok (.lstore 6, 2) := by decide +kernel
theorem dX5_compare_116 : decode cX5_compare 116 = .ok (.aload_n 0, 1) := by decide +kernel
theorem dX5_compare_117 : decode cX5_compare 117 = .ok (.getfield 42, 3) := by decide +kernel
theorem dX5_compare_120 : decode cX5_compare 120 = .ok (.aload_n 0, 1) := by decide +kernel
theorem dX5_compare_121 : decode cX5_compare 121 = .ok (.getfield 35, 3) := by decide +kernel
theorem dX5_compare_124 : decode cX5_compare 124 = .ok (.aload_n 0, 1) := by decide +kernel
theorem dX5_compare_125 : decode cX5_compare 125 = .ok (.getfield 32, 3) := by decide +kernel
theorem dX5_compare_128 : decode cX5_compare 128 = .ok (.iload_n 2, 1) := by decide +kernel
theorem dX5_compare_129 : decode cX5_compare 129 = .ok (.iaload, 1) := by decide +kernel
theorem dX5_compare_130 : decode cX5_compare 130 = .ok (.iaload, 1) := by decide +kernel
theorem dX5_compare_131 : decode cX5_compare 131 = .ok (.iload 5, 2) := by decide +kernel
theorem dX5_compare_133 : decode cX5_compare 133 = .ok (.iadd, 1) := by decide +kernel
theorem dX5_compare_134 : decode cX5_compare 134 = .ok (.laload, 1) := by decide +kernel
theorem dX5_compare_135 : decode cX5_compare 135 = .ok (.lstore 8, 2) := by decide +kernel
theorem dX5_compare_137 : decode cX5_compare 137 = .ok (.lload 6, 2) := by decide +kernel
theorem dX5_compare_139 : decode cX5_compare 139 = .ok (.lload 8, 2) := by decide +kernel
theorem dX5_compare_141 : decode cX5_compare 141 = .ok (.lcmp, 1) := by decide +kernel
theorem dX5_compare_142 : decode cX5_compare 142 = .ok (.ifCond .eq 21, 3) := by decide +kernel
theorem dX5_compare_145 : decode cX5_compare 145 = .ok (.aload_n 0, 1) := by decide +kernel
theorem dX5_compare_146 : decode cX5_compare 146 = .ok (.lload 6, 2) := by decide +kernel
theorem dX5_compare_148 : decode cX5_compare 148 = .ok (.lload 8, 2) := by decide +kernel
theorem dX5_compare_150 : decode cX5_compare 150 = .ok (.lcmp, 1) := by decide +kernel
theorem dX5_compare_151 : decode cX5_compare 151 = .ok (.ifCond .ge 7, 3) := by decide +kernel
theorem dX5_compare_154 : decode cX5_compare 154 = .ok (.iconst (-1), 1) := by decide +kernel
theorem dX5_compare_155 : decode cX5_compare 155 = .ok (.goto 4, 3) := by decide +kernel
theorem dX5_compare_158 : decode cX5_compare 158 = .ok (.iconst 1, 1) := by decide +kernel
theorem dX5_compare_159 : decode cX5_compare 159 = .ok (.invokevirtual 75, 3) := by decide +kernel
theorem dX5_compare_162 : decode cX5_compare 162 = .ok (.ireturn, 1) := by decide +kernel
theorem dX5_compare_163 : decode cX5_compare 163 = .ok (.iinc 5 1, 3) := by decide +kernel
theorem dX5_compare_166 : decode cX5_compare 166 = .ok (.goto (-84), 3) := by decide +kernel
theorem dX5_compare_169 : decode cX5_compare 169 = .ok (.aload_n 0, 1) := by decide +kernel
theorem dX5_compare_170 : decode cX5_compare 170 = .ok (.iload_n 3, 1) := by decide +kernel
theorem dX5_compare_171 : decode cX5_compare 171 = .ok (.iload 4, 2) := by decide +kernel
theorem dX5_compare_173 : decode cX5_compare 173 = .ok (.if_icmp .ge 7, 3) := by decide +kernel
theorem dX5_compare_176 : decode cX5_compare 176 = .ok (.iconst (-1), 1) := by decide +kernel
theorem dX5_compare_177 : decode cX5_compare 177 = .ok (.goto 14, 3) := by decide +kernel
theorem dX5_compare_180 : decode cX5_compare 180 = .ok (.iload_n 3, 1) := by decide +kernel
theorem dX5_compare_181 : decode cX5_compare 181 = .ok (.iload 4, 2) := by decide +kernel
theorem dX5_compare_183 : decode cX5_compare 183 = .ok (.if_icmp .le 7, 3) := by decide +kernel
theorem dX5_compare_186 : decode cX5_compare 186 = .ok (.iconst 1, 1) := by decide +kernel
theorem dX5_compare_187 : decode cX5_compare 187 = .ok (.goto 4, 3) := by decide +kernel
theorem dX5_compare_190 : decode cX5_compare 190 = .ok (.iconst 0, 1) := by decide +kernel
theorem dX5_compare_191 : decode cX5_compare 191 = .ok (.invokevirtual 75, 3) := by decide +kernel
theorem dX5_compare_194 : decode cX5_compare 194 = .ok (.ireturn, 1) := by decide +kernel
theorem dX5_clear_0 : decode cX5_clear 0 = .ok (.aload_n 0, 1) := by decide +kernel
theorem dX5_clear_1 : decode cX5_clear 1 = .ok (.getfield 98, 3) := by decide +kernel
theorem dX5_clear_4 : decode cX5_clear 4 = .ok (.istore_n 1, 1) := by decide +kernel
theorem dX5_clear_5 : decode cX5_clear 5 = .ok (.aload_n 0, 1) := by decide +kernel
theorem dX5_clear_6 : decode cX5_clear 6 = .ok (.iconst 0, 1) := by decide +kernel
theorem dX5_clear_7 : decode cX5_clear 7 = .ok (.putfield 98, 3) := by decide +kernel
theorem dX5_clear_10 : decode cX5_clear 10 = .ok (.aload_n 0, 1) := by decide +kernel
theorem dX5_clear_11 : decode cX5_clear 11 = .ok (.iconst 0, 1) := by decide +kernel
theorem dX5_clear_12 : decode cX5_clear 12 = .ok (.putfield 86, 3) := by decide +kernel
theorem dX5_clear_15 : decode cX5_clear 15 = .ok (.aload_n 0, 1) := by decide +kernel
theorem dX5_clear_16 : decode cX5_clear 16 = .ok (.iconst 0, 1) := by decide +kernel
theorem dX5_clear_17 : decode cX5_clear 17 = .ok (.putfield 89, 3) := by decide +kernel
theorem dX5_clear_20 : decode cX5_clear 20 = .ok (.aload_n 0, 1) := by decide +kernel
theorem dX5_clear_21 : decode cX5_clear 21 = .ok (.iconst 0, 1) := by decide +kernel
theorem dX5_clear_22 : decode cX5_clear 22 = .ok (.putfield 105, 3) := by decide +kernel
theorem dX5_clear_25 : decode cX5_clear 25 = .ok (.aload_n 0, 1) := by decide +kernel
theorem dX5_clear_26 : decode cX5_clear 26 = .ok (.iconst 0, 1) := by decide +kernel
theorem dX5_clear_27 : decode cX5_clear 27 = .ok (.putfield 175, 3) := by decide +kernel
theorem dX5_clear_30 : decode cX5_clear 30 = .ok (.aload_n 0, 1) := by decide +kernel
theorem dX5_clear_31 : decode cX5_clear 31 = .ok (.iconst 0, 1) := by decide +kernel
theorem dX5_clear_32 : decode cX5_clear 32 = .ok (.putfield 72, 3) := by decide +kernel
theorem dX5_clear_35 : decode cX5_clear 35 = .ok (.aload_n 0, 1) := by decide +kernel
theorem dX5_clear_36 : decode cX5_clear 36 = .ok (.iconst 0, 1) := by decide +kernel
theorem dX5_clear_37 : decode cX5_clear 37 = .ok (.putfield 65, 3) := by decide +kernel
theorem dX5_clear_40 : decode cX5_clear 40 = .ok (.aload_n 0, 1) := by decide +kernel
theorem dX5_clear_41 : decode cX5_clear 41 = .ok (.iconst (-1), 1) := by decide +kernel
theorem dX5_clear_42 : decode cX5_clear 42 = .ok (.putfield 9, 3) := by decide +kernel
theorem dX5_clear_45 : decode cX5_clear 45 = .ok (.iload_n 1, 1) := by decide +kernel
theorem dX5_clear_46 : decode cX5_clear 46 = .ok (.ireturn, 1) := by decide +kernel
end
section
/-! The heap as a map: keys k, their addresses ad k, what lies there ct k. Rows of the machine over it. -/
def mp_ (D : va_G) (A : Nat → Prop) (lv : Nat → Prop) (ad : Nat → Nat) (ct : Nat → va_E) (H : Heap) : Prop :=
  (∀ k, lv k → va_at D vwCl (ad k, ct k) H) ∧ (∀ i j, lv i → lv j → ad i = ad j → i = j) ∧ ∀ k, lv k → A (ad k)
theorem mp_set {D : va_G} {A lv : Nat → Prop} {ad : Nat → Nat} {ct : Nat → va_E} {H H1 : Heap} (M : mp_ D A lv ad ct H) {k : Nat} (hk : lv k) {a : Nat} (ha : ad k = a) {e : va_E} (hat : va_at D vwCl (a, e) H1) (oq : ∀ q : Nat, q ≠ a → H1[q]? = H[q]?) : mp_ D A lv ad (va_up ct k e) H1 := by
  subst ha
  refine ⟨fun j hj => ?_, M.2.1, M.2.2⟩
  by_cases h : j = k
  · subst h
    rw [va_up_self]
    exact hat
  · rw [va_up_ne _ _ h]
    exact (M.1 j hj).kept (oq (ad j) (fun z => h (M.2.1 j k hj hk z)))
theorem mp_congr {D : va_G} {A lv : Nat → Prop} {ad : Nat → Nat} {ct ct' : Nat → va_E} {H : Heap} (M : mp_ D A lv ad ct H) (h : ∀ k, lv k → ct k = ct' k) : mp_ D A lv ad ct' H :=
  ⟨fun k hk => by rw [← h k hk]; exact M.1 k hk, M.2.1, M.2.2⟩
theorem mp_one {D : va_G} {a : Nat} {e : va_E} {H : Heap} (h : va_at D vwCl (a, e) H) : va_P D vwCl [(a, e)] H := by
  intro k q hq
  cases k with
  | zero => cases hq; exact h
  | succ k => simp at hq
theorem mp_at {D : va_G} {A lv : Nat → Prop} {ad : Nat → Nat} {ct : Nat → va_E} {H : Heap} (M : mp_ D A lv ad ct H) {k : Nat} (hk : lv k) {a : Nat} (ha : ad k = a) {e : va_E} (he : ct k = e) : va_at D vwCl (a, e) H := by
  subst ha; subst he
  exact M.1 k hk
section MPR
variable {p : Program} {l : Launch} {e : Env} {R : Room} {s : State} {m : MethodId} {args : Array Value} {below : List Frame} {meth : Method} {c : Code} {H : Heap} {locs : List Loc} {cells slots : Nat} {Q : State → Prop}
variable {cc : ByteArray} {pc : Nat} {ls : Array Slot} {rest : List Value} {D : va_G} {A lv : Nat → Prop} {ad : Nat → Nat} {ct : Nat → va_E} {tys : List (ClassId × FieldType)} {H0 : Heap} {a k : Nat}
theorem mg_get (hexec : p.tables.exec = Jvm.exec) (hb : c.code = cc) {own ref C : String} {T : u_T} {N ci index : Nat} (hts : ∀ w ∈ wsL_law, w.before args s = true) (hown : s.vm.findClass own = some m.cls) (hK : va_K D vwCl tys s) (M : mp_ D A lv ad ct H) (hk : lv k) (ha : ad k = a) {fs : List Value} (he : ct k = .inr (ci, fs)) (hc : vwCl[ci]? = some (C, T, N)) (hin : ∀ w ∈ u_ws C T N, w ∈ wsL_law) (f : Nat) (hf : f < N) (hlink : Cond.fieldLink own index ref (T f).2.1 (T f).2.2.1 ∈ wsL_law) (hsame : (T f).1 = ref) {v : Value} (hv : fs[f]? = some v) (hdg : decode cc pc = .ok (.getfield index, 3))
    (kk : W p l e R s m args below meth c H locs cells slots Q (F0 m (pc + 3) ls (v :: rest))) : W p l e R s m args below meth c H locs cells slots Q (F0 m pc ls (.ref a :: rest)) :=
  va_get (ws := [(a, .inr (ci, fs))]) hexec hb hts hin hown hK (mp_one (mp_at M hk ha he)) 0 rfl hc f hf (hts _ hlink) (fun _ h => by rw [← hsame]; exact h) hv hdg kk
theorem mg_put (hexec : p.tables.exec = Jvm.exec) (hb : c.code = cc) {own ref C : String} {T : u_T} {N ci index : Nat} (hts : ∀ w ∈ wsL_law, w.before args s = true) (hown : s.vm.findClass own = some m.cls) (hK : va_K D vwCl tys s) (M : mp_ D A lv ad ct H) (hS0 : va_S A H0 H locs) (hk : lv k) (ha : ad k = a) {fs : List Value} (he : ct k = .inr (ci, fs)) (hc : vwCl[ci]? = some (C, T, N)) (hin : ∀ w ∈ u_ws C T N, w ∈ wsL_law) (ty0 : Nat → FieldType) (hty : ∀ k, k < N → parseFieldDescriptor (T k).2.2.1 = some (ty0 k)) (hnm : ∀ a, a < N → ∀ b, b < N → a ≠ b → (T a).2.1 ≠ (T b).2.1)
    (j : Nat) (hj : j < N) (hlink : Cond.fieldLink own index ref (T j).2.1 (T j).2.2.1 ∈ wsL_law) (hsame : (T j).1 = ref) (hfin : (T j).2.2.2 = false) {ty : FieldType} {v : Value} (hd : parseFieldDescriptor (T j).2.2.1 = some ty) (hn : narrow ty v = v) (hfit : fits ty v = true) (hl : j < fs.length) (hdg : decode cc pc = .ok (.putfield index, 3))
    (kk : ∀ (H1 : Heap) (locs1 : List Loc), mp_ D A lv ad (va_up ct k (.inr (ci, fs.set j v))) H1 → va_S A H0 H1 locs1 → W p l e R s m args below meth c H1 locs1 cells slots Q (F0 m (pc + 3) ls rest)) : W p l e R s m args below meth c H locs cells slots Q (F0 m pc ls (v :: .ref a :: rest)) := by
  have hap := va_apart (own := own) hts hin ty0 hty hnm hK hc
  obtain ⟨r, h1, cell, q1, q2, q3, q4⟩ := mp_at M hk ha he
  have hr : r = (C, T, N) := Option.some.inj (h1.symm.trans hc)
  subst hr
  obtain ⟨hS, hfc, kC, hkC, hkind⟩ := hK.1 ci _ hc
  obtain ⟨cf, kf, fi, f, hi, hsl⟩ := hS j hj
  have hlay := hts _ (hin _ (u_in_lay hj))
  unfold u_lay at hlay
  rw [if_neg (by rw [hfin]; decide)] at hlay
  have hst := (u_facts hfc hkC (u_lays hts hin hj) hi).1
  have h6 := u_store hfc hkC hkind hlay hi hd hn hfit
  refine W.putK hexec hb (f := f) ⟨hown, hts _ hlink, ⟨_, _, _, by rw [← hsame]; exact hi⟩, hst⟩ (by rw [q2]; exact h6) q1 q3 (by rw [hsl]; exact k2_hasslot (q4 j hj)) rfl rfl hdg fun H' e1 e2 e3 => ?_
  rw [hsl] at e1 ⊢
  exact kk H' _ (mp_set M hk ha ⟨_, hc, t_OB.to (V := updV (vp_V fs) j v) ⟨_, e1, q2, q3, t_set q4 hap hj v⟩ (fun j _ => vp_updV_set hl v j)⟩ e3) (hS0.put e2 e3 (by rw [← ha]; exact M.2.2 k hk))
theorem mg_iald (hexec : p.tables.exec = Jvm.exec) (hb : c.code = cc) (hK : va_K D vwCl tys s) (M : mp_ D A lv ad ct H) (hk : lv k) (ha : ad k = a) (t0 : Nat) {cA : ClassId} {n : Nat} {f : Nat → Int32} (he : ct k = .inl (cA, n, .inl f)) (ht : tys[t0]? = some (cA, .int)) {i : Int32} (hin : vp_in i n) (hdg : decode cc pc = .ok (.iaload, 1))
    (kk : W p l e R s m args below meth c H locs cells slots Q (F0 m (pc + 1) ls (.int (f i.toNatClampNeg) :: rest))) : W p l e R s m args below meth c H locs cells slots Q (F0 m pc ls (.int i :: .ref a :: rest)) :=
  va_iald (ws := [(a, .inl (cA, n, .inl f))]) hexec hb hK (mp_one (mp_at M hk ha he)) 0 t0 rfl ht hin hdg kk
theorem mg_zald (hexec : p.tables.exec = Jvm.exec) (hb : c.code = cc) (hK : va_K D vwCl tys s) (M : mp_ D A lv ad ct H) (hk : lv k) (ha : ad k = a) (t0 : Nat) {cA : ClassId} {n : Nat} {f : Nat → Int32} (he : ct k = .inl (cA, n, .inl f)) (ht : tys[t0]? = some (cA, .boolean)) {i : Int32} (hin : vp_in i n) (hdg : decode cc pc = .ok (.baload, 1))
    (kk : W p l e R s m args below meth c H locs cells slots Q (F0 m (pc + 1) ls (.int (f i.toNatClampNeg) :: rest))) : W p l e R s m args below meth c H locs cells slots Q (F0 m pc ls (.int i :: .ref a :: rest)) :=
  va_zald (ws := [(a, .inl (cA, n, .inl f))]) hexec hb hK (mp_one (mp_at M hk ha he)) 0 t0 rfl ht hin hdg kk
theorem mg_lald (hexec : p.tables.exec = Jvm.exec) (hb : c.code = cc) (hK : va_K D vwCl tys s) (M : mp_ D A lv ad ct H) (hk : lv k) (ha : ad k = a) (t0 : Nat) {cA : ClassId} {n : Nat} {f : Nat → Int64} (he : ct k = .inl (cA, n, .inr (.inl f))) (ht : tys[t0]? = some (cA, .long)) {i : Int32} (hin : vp_in i n) (hdg : decode cc pc = .ok (.laload, 1))
    (kk : W p l e R s m args below meth c H locs cells slots Q (F0 m (pc + 1) ls (.long (f i.toNatClampNeg) :: rest))) : W p l e R s m args below meth c H locs cells slots Q (F0 m pc ls (.int i :: .ref a :: rest)) :=
  va_lald (ws := [(a, .inl (cA, n, .inr (.inl f)))]) hexec hb hK (mp_one (mp_at M hk ha he)) 0 t0 rfl ht hin hdg kk
theorem mg_aald (hexec : p.tables.exec = Jvm.exec) (hb : c.code = cc) (hK : va_K D vwCl tys s) (M : mp_ D A lv ad ct H) (hk : lv k) (ha : ad k = a) (t0 : Nat) {cA : ClassId} {C : String} {n : Nat} {f : Nat → Option Nat} (he : ct k = .inl (cA, n, .inr (.inr (.inr (.inr f))))) (ht : tys[t0]? = some (cA, .object C)) {i : Int32} (hin : vp_in i n) (hdg : decode cc pc = .ok (.aaload, 1))
    (kk : W p l e R s m args below meth c H locs cells slots Q (F0 m (pc + 1) ls (va_rf (f i.toNatClampNeg) :: rest))) : W p l e R s m args below meth c H locs cells slots Q (F0 m pc ls (.int i :: .ref a :: rest)) :=
  va_aldq (ws := [(a, .inl (cA, n, .inr (.inr (.inr (.inr f)))))]) hexec hb hK (mp_one (mp_at M hk ha he)) 0 t0 rfl ht hin hdg kk
theorem mg_alen (hexec : p.tables.exec = Jvm.exec) (hb : c.code = cc) (hK : va_K D vwCl tys s) (M : mp_ D A lv ad ct H) (hk : lv k) (ha : ad k = a) (t0 : Nat) {cA : ClassId} {x : vp_A} (he : ct k = .inl (cA, x)) {ty : FieldType} (ht : tys[t0]? = some (cA, ty)) (hdg : decode cc pc = .ok (.arraylength, 1))
    (kk : W p l e R s m args below meth c H locs cells slots Q (F0 m (pc + 1) ls (.int (nI x.1) :: rest))) : W p l e R s m args below meth c H locs cells slots Q (F0 m pc ls (.ref a :: rest)) :=
  va_alen (ws := [(a, .inl (cA, x))]) hexec hb hK (mp_one (mp_at M hk ha he)) 0 t0 rfl ht rfl hdg kk
theorem mg_iast (hexec : p.tables.exec = Jvm.exec) (hb : c.code = cc) (hK : va_K D vwCl tys s) (M : mp_ D A lv ad ct H) (hS : va_S A H0 H locs) (hk : lv k) (ha : ad k = a) (t0 : Nat) {cA : ClassId} {n : Nat} {f : Nat → Int32} (he : ct k = .inl (cA, n, .inl f)) (ht : tys[t0]? = some (cA, .int)) {i x : Int32} (hin : vp_in i n) (hdg : decode cc pc = .ok (.iastore, 1))
    (kk : ∀ (H1 : Heap) (locs1 : List Loc), mp_ D A lv ad (va_up ct k (.inl (cA, n, .inl (upd f i.toNatClampNeg x)))) H1 → va_S A H0 H1 locs1 → W p l e R s m args below meth c H1 locs1 cells slots Q (F0 m (pc + 1) ls rest)) : W p l e R s m args below meth c H locs cells slots Q (F0 m pc ls (.int x :: .int i :: .ref a :: rest)) := by
  refine W.iast hexec hb (mp_at M hk ha he) ((hK.2 t0 _ ht).1 n (fun j => .int (f j))) (fun q => by cases q) (by show ¬ (i < 0 ∨ (arrV _ _ _).slots.size ≤ _); rw [arrV_size]; exact hin) rfl rfl hdg fun H1 e z oq => ?_
  refine kk H1 _ (mp_set M hk ha ?_ oq) (hS.put z oq (by rw [← ha]; exact M.2.2 k hk))
  show H1[a]? = some (vp_cell _ _)
  rw [e]
  show some ((vp_cell cA (n, .inl f)).setSlot _ _) = _
  rw [vp_cell_i, vp_cell_i, arrV_store]
  congr 2
  funext q
  by_cases hq : q = i.toNatClampNeg
  · subst hq
    simp [updV, upd]
  · simp [updV, upd, hq]
theorem mg_zast (hexec : p.tables.exec = Jvm.exec) (hb : c.code = cc) (hK : va_K D vwCl tys s) (M : mp_ D A lv ad ct H) (hS : va_S A H0 H locs) (hk : lv k) (ha : ad k = a) (t0 : Nat) {cA : ClassId} {n : Nat} {f : Nat → Int32} (he : ct k = .inl (cA, n, .inl f)) (ht : tys[t0]? = some (cA, .boolean)) {i x : Int32} (hin : vp_in i n) (hdg : decode cc pc = .ok (.bastore, 1))
    (kk : ∀ (H1 : Heap) (locs1 : List Loc), mp_ D A lv ad (va_up ct k (.inl (cA, n, .inl (upd f i.toNatClampNeg (vp_nar .boolean x))))) H1 → va_S A H0 H1 locs1 → W p l e R s m args below meth c H1 locs1 cells slots Q (F0 m (pc + 1) ls rest)) : W p l e R s m args below meth c H locs cells slots Q (F0 m pc ls (.int x :: .int i :: .ref a :: rest)) := by
  refine W.zast hexec hb (mp_at M hk ha he) ((hK.2 t0 _ ht).1 n (fun j => .int (f j))) (fun q => by cases q) (by show ¬ (i < 0 ∨ (arrV _ _ _).slots.size ≤ _); rw [arrV_size]; exact hin) rfl rfl hdg fun H1 e z oq => ?_
  refine kk H1 _ (mp_set M hk ha ?_ oq) (hS.put z oq (by rw [← ha]; exact M.2.2 k hk))
  show H1[a]? = some (vp_cell _ _)
  rw [e]
  show some ((vp_cell cA (n, .inl f)).setSlot _ _) = _
  rw [vp_cell_i, vp_cell_i, arrV_store]
  congr 2
  funext q
  by_cases hq : q = i.toNatClampNeg
  · subst hq
    simp [updV, upd, vp_nar, narrow]
  · simp [updV, upd, hq]
theorem mg_last (hexec : p.tables.exec = Jvm.exec) (hb : c.code = cc) (hK : va_K D vwCl tys s) (M : mp_ D A lv ad ct H) (hS : va_S A H0 H locs) (hk : lv k) (ha : ad k = a) (t0 : Nat) {cA : ClassId} {n : Nat} {f : Nat → Int64} (he : ct k = .inl (cA, n, .inr (.inl f))) (ht : tys[t0]? = some (cA, .long)) {i : Int32} {x : Int64} (hin : vp_in i n) (hdg : decode cc pc = .ok (.lastore, 1))
    (kk : ∀ (H1 : Heap) (locs1 : List Loc), mp_ D A lv ad (va_up ct k (.inl (cA, n, .inr (.inl (vp_updL f i.toNatClampNeg x))))) H1 → va_S A H0 H1 locs1 → W p l e R s m args below meth c H1 locs1 cells slots Q (F0 m (pc + 1) ls rest)) : W p l e R s m args below meth c H locs cells slots Q (F0 m pc ls (.long x :: .int i :: .ref a :: rest)) := by
  refine W.last hexec hb (mp_at M hk ha he) ((hK.2 t0 _ ht).1 n (fun j => .long (f j))) (fun q => by cases q) (by show ¬ (i < 0 ∨ (arrV _ _ _).slots.size ≤ _); rw [arrV_size]; exact hin) rfl rfl hdg fun H1 e z oq => ?_
  refine kk H1 _ (mp_set M hk ha ?_ oq) (hS.put z oq (by rw [← ha]; exact M.2.2 k hk))
  show H1[a]? = some (vp_cell _ _)
  rw [e]
  show some ((vp_cell cA (n, .inr (.inl f))).setSlot _ _) = _
  rw [vp_cell_l, vp_cell_l, arrV_store]
  congr 2
  funext q
  by_cases hq : q = i.toNatClampNeg
  · subst hq
    simp [updV, vp_updL]
  · simp [updV, vp_updL, hq]
end MPR
end
section
/-! The state of class and reference: g.1 ints (component, object, place), g.2.1 longs (component, place), g.2.2 lengths of rows that are made anew (by key). Printed by wip/gen/world.py. -/
abbrev Gs : Type := (Nat → Nat → Nat → Int32) × (Nat → Nat → Int64) × (Nat → Nat)
abbrev Cy : Type := ClassId × ClassId × ClassId × ClassId
def tyL (cy : Cy) : List (ClassId × FieldType) := [(cy.1, .int), (cy.2.1, .long), (cy.2.2.1, .boolean), (cy.2.2.2, .object RX1)]
def sA (g : Gs) (c o : Nat) (f : Nat → Int32) : Gs := (fun c1 o1 => if c1 = c ∧ o1 = o then f else g.1 c1 o1, g.2.1, g.2.2)
def sI (g : Gs) (c o j : Nat) (v : Int32) : Gs := sA g c o (upd (g.1 c o) j v)
def sL (g : Gs) (c j : Nat) (v : Int64) : Gs := (g.1, fun c1 => if c1 = c then vp_updL (g.2.1 c) j v else g.2.1 c1, g.2.2)
def sN (g : Gs) (k n : Nat) : Gs := (g.1, g.2.1, fun k1 => if k1 = k then n else g.2.2 k1)
theorem sA_at (g : Gs) (c o : Nat) (f : Nat → Int32) : (sA g c o f).1 c o = f := by simp [sA]
theorem sI_at (g : Gs) (c o j : Nat) (v : Int32) : (sI g c o j v).1 c o = upd (g.1 c o) j v := by simp [sI, sA]
theorem sI_nc (g : Gs) (c o j : Nat) (v : Int32) {c1 o1 : Nat} (h : ¬ (c1 = c ∧ o1 = o)) : (sI g c o j v).1 c1 o1 = g.1 c1 o1 := by simp only [sI, sA, if_neg h]
theorem sL_at (g : Gs) (c j : Nat) (v : Int64) : (sL g c j v).2.1 c = vp_updL (g.2.1 c) j v := by simp [sL]
theorem sL_nc (g : Gs) (c j : Nat) (v : Int64) {c1 : Nat} (h : ¬ c1 = c) : (sL g c j v).2.1 c1 = g.2.1 c1 := by simp [sL, h]
def cnA (cy : Cy) (sb db : Nat → Nat) (g : Gs) : Nat → va_E
  | 0 => .inr (4, [.ref (sb (100 + 0)), .ref (sb 3), .ref (sb 8), .ref (sb 1), .ref (sb 2), .int (g.1 0 0 0), .int (g.1 1 0 0), .int (g.1 2 0 0)])
  | 1 => .inl (cy.2.2.2, 24, .inr (.inr (.inr (.inr (fun j => some (sb (400 + j)))))))
  | 2 => .inl (cy.1, 500, .inl (g.1 3 0))
  | 3 => .inr (0, [.ref (sb 4), .ref (sb 5), .ref (sb 6), .ref (sb 7), .int (g.1 7 0 0)])
  | 4 => .inl (cy.1, 30, .inl (g.1 8 0))
  | 5 => .inl (cy.1, 30, .inl (g.1 9 0))
  | 6 => .inl (cy.1, 30, .inl (g.1 10 0))
  | 7 => .inl (cy.2.1, 30, .inr (.inl (g.2.1 1)))
  | 8 => .inr (3, [.ref (db 9), .ref (db 10), .ref (db 11), .ref (db 12), .int (g.1 11 0 0), .int (g.1 12 0 0)])
  | 9 => .inl (cy.2.1, (g.2.2 9), .inr (.inl (g.2.1 0)))
  | 10 => .inl (cy.2.2.1, (g.2.2 10), .inl (g.1 13 0))
  | 11 => .inl (cy.1, (g.2.2 11), .inl (g.1 14 0))
  | 12 => .inl (cy.1, (g.2.2 12), .inl (g.1 15 0))
  | 13 => .inr (5, [.int (g.1 20 0 0), .int (g.1 21 0 0), .int (g.1 22 0 0), .ref (sb 14), .ref (sb 15), .int (g.1 25 0 0), .ref (sb 16), .ref (sb 17), .ref (sb 18), .ref (sb 19), .ref (sb 20), .int (g.1 31 0 0), .ref (sb 21), .ref (sb 22), .int (g.1 34 0 0), .ref (sb 23), .ref (sb 24), .int (g.1 37 0 0), .ref (sb 25), .int (g.1 39 0 0), .ref (sb 26), .ref (sb 27), .ref (sb 28), .ref (sb 29), .int (g.1 44 0 0)])
  | 14 => .inl (cy.1, 3, .inl (g.1 23 0))
  | 15 => .inl (cy.1, 3, .inl (g.1 24 0))
  | 16 => .inl (cy.1, 24, .inl (g.1 26 0))
  | 17 => .inl (cy.1, 24, .inl (g.1 27 0))
  | 18 => .inl (cy.1, 72, .inl (g.1 28 0))
  | 19 => .inl (cy.1, 72, .inl (g.1 29 0))
  | 20 => .inl (cy.1, 24, .inl (g.1 30 0))
  | 21 => .inl (cy.1, 13000, .inl (g.1 32 0))
  | 22 => .inl (cy.1, 13000, .inl (g.1 33 0))
  | 23 => .inl (cy.2.1, 300000, .inr (.inl (g.2.1 2)))
  | 24 => .inl (cy.2.2.1, 300000, .inl (g.1 36 0))
  | 25 => .inl (cy.1, 12100, .inl (g.1 38 0))
  | 26 => .inl (cy.1, 30, .inl (g.1 40 0))
  | 27 => .inl (cy.1, 30, .inl (g.1 41 0))
  | 28 => .inl (cy.1, 30, .inl (g.1 42 0))
  | 29 => .inl (cy.2.1, 30, .inr (.inl (g.2.1 3)))
  | _ => .inr (0, [])
def cont (cy : Cy) (sb db : Nat → Nat) (g : Gs) (k : Nat) : va_E :=
  if k < 100 then cnA cy sb db g k
  else if k < 200 then .inr (2, [.ref (sb (200 + (k - 100))), .ref (sb (300 + (k - 100))), .int (g.1 4 (k - 100) 0)])
  else if k < 300 then .inl (cy.1, 3, .inl (g.1 5 (k - 200)))
  else if k < 400 then .inl (cy.1, 3, .inl (g.1 6 (k - 300)))
  else if k < 500 then .inr (1, [.ref (sb (100 + ((k - 400) + 1))), .int (g.1 16 (k - 400) 0), .int (g.1 17 (k - 400) 0), .ref (db (500 + (k - 400)))])
  else .inl (cy.1, (g.2.2 (500 + (k - 500))), .inl (g.1 18 (k - 500)))
def lvk (k : Nat) : Prop := k < 30 ∨ (100 ≤ k ∧ k < 125) ∨ (200 ≤ k ∧ k < 225) ∨ (300 ≤ k ∧ k < 325) ∨ (400 ≤ k ∧ k < 424) ∨ (500 ≤ k ∧ k < 524)
def adr (sb db : Nat → Nat) (k : Nat) : Nat := if (9 ≤ k ∧ k ≤ 12) ∨ 500 ≤ k then db k else sb k
theorem ct_sh (cy : Cy) (sb db : Nat → Nat) (g : Gs) {o : Nat} (h : o < 25) : cont cy sb db g (100 + o) = .inr (2, [.ref (sb (200 + o)), .ref (sb (300 + o)), .int (g.1 4 o 0)]) := by
  have h100 : ¬ 100 + o < 100 := by omega
  have h200 : 100 + o < 200 := by omega
  simp only [cont, if_neg h100, if_pos h200, Nat.add_sub_cancel_left]
theorem ct_low (cy : Cy) (sb db : Nat → Nat) (g : Gs) {o : Nat} (h : o < 25) : cont cy sb db g (200 + o) = .inl (cy.1, 3, .inl (g.1 5 o)) := by
  have h100 : ¬ 200 + o < 100 := by omega
  have h200 : ¬ 200 + o < 200 := by omega
  have h300 : 200 + o < 300 := by omega
  simp only [cont, if_neg h100, if_neg h200, if_pos h300, Nat.add_sub_cancel_left]
theorem ct_hig (cy : Cy) (sb db : Nat → Nat) (g : Gs) {o : Nat} (h : o < 25) : cont cy sb db g (300 + o) = .inl (cy.1, 3, .inl (g.1 6 o)) := by
  have h100 : ¬ 300 + o < 100 := by omega
  have h200 : ¬ 300 + o < 200 := by omega
  have h300 : ¬ 300 + o < 300 := by omega
  have h400 : 300 + o < 400 := by omega
  simp only [cont, if_neg h100, if_neg h200, if_neg h300, if_pos h400, Nat.add_sub_cancel_left]
theorem ct_ma (cy : Cy) (sb db : Nat → Nat) (g : Gs) {n : Nat} (h : n < 24) : cont cy sb db g (400 + n) = .inr (1, [.ref (sb (100 + (n + 1))), .int (g.1 16 n 0), .int (g.1 17 n 0), .ref (db (500 + n))]) := by
  have h100 : ¬ 400 + n < 100 := by omega
  have h200 : ¬ 400 + n < 200 := by omega
  have h300 : ¬ 400 + n < 300 := by omega
  have h400 : ¬ 400 + n < 400 := by omega
  have h500 : 400 + n < 500 := by omega
  simp only [cont, if_neg h100, if_neg h200, if_neg h300, if_neg h400, if_pos h500, Nat.add_sub_cancel_left]
theorem ct_rows (cy : Cy) (sb db : Nat → Nat) (g : Gs) {n : Nat} (h : n < 24) : cont cy sb db g (500 + n) = .inl (cy.1, (g.2.2 (500 + n)), .inl (g.1 18 n)) := by
  have h100 : ¬ 500 + n < 100 := by omega
  have h200 : ¬ 500 + n < 200 := by omega
  have h300 : ¬ 500 + n < 300 := by omega
  have h400 : ¬ 500 + n < 400 := by omega
  have h500 : ¬ 500 + n < 500 := by omega
  simp only [cont, if_neg h100, if_neg h200, if_neg h300, if_neg h400, if_neg h500, Nat.add_sub_cancel_left]
theorem ad_sh (sb db : Nat → Nat) {o : Nat} (h : o < 25) : adr sb db (100 + o) = sb (100 + o) := if_neg (by omega)
theorem lv_sh {o : Nat} (h : o < 25) : lvk (100 + o) := by unfold lvk; omega
theorem ad_low (sb db : Nat → Nat) {o : Nat} (h : o < 25) : adr sb db (200 + o) = sb (200 + o) := if_neg (by omega)
theorem lv_low {o : Nat} (h : o < 25) : lvk (200 + o) := by unfold lvk; omega
theorem ad_hig (sb db : Nat → Nat) {o : Nat} (h : o < 25) : adr sb db (300 + o) = sb (300 + o) := if_neg (by omega)
theorem lv_hig {o : Nat} (h : o < 25) : lvk (300 + o) := by unfold lvk; omega
theorem ad_ma (sb db : Nat → Nat) {n : Nat} (h : n < 24) : adr sb db (400 + n) = sb (400 + n) := if_neg (by omega)
theorem lv_ma {n : Nat} (h : n < 24) : lvk (400 + n) := by unfold lvk; omega
theorem ad_rows (sb db : Nat → Nat) {n : Nat} (h : n < 24) : adr sb db (500 + n) = db (500 + n) := if_pos (by omega)
theorem lv_rows {n : Nat} (h : n < 24) : lvk (500 + n) := by unfold lvk; omega
def kof (c o : Nat) : Nat := match c with
  | 0 => 0
  | 1 => 0
  | 2 => 0
  | 3 => 2
  | 4 => 100 + o
  | 5 => 200 + o
  | 6 => 300 + o
  | 7 => 3
  | 8 => 4
  | 9 => 5
  | 10 => 6
  | 11 => 8
  | 12 => 8
  | 13 => 10
  | 14 => 11
  | 15 => 12
  | 16 => 400 + o
  | 17 => 400 + o
  | 18 => 500 + o
  | 20 => 13
  | 21 => 13
  | 22 => 13
  | 23 => 14
  | 24 => 15
  | 25 => 13
  | 26 => 16
  | 27 => 17
  | 28 => 18
  | 29 => 19
  | 30 => 20
  | 31 => 13
  | 32 => 21
  | 33 => 22
  | 34 => 13
  | 36 => 24
  | 37 => 13
  | 38 => 25
  | 39 => 13
  | 40 => 26
  | 41 => 27
  | 42 => 28
  | 44 => 13
  | _ => 1000
def kofL (c : Nat) : Nat := match c with
  | 1 => 7
  | 0 => 9
  | 2 => 23
  | 3 => 29
  | _ => 1000
theorem cont_fr {cy : Cy} {sb db : Nat → Nat} {g g2 : Gs} {k : Nat} (hk : lvk k) (h : ∀ c o, kof c o = k → g.1 c o = g2.1 c o) (hL : ∀ c, kofL c = k → g.2.1 c = g2.2.1 c) (hN : g.2.2 = g2.2.2) : cont cy sb db g k = cont cy sb db g2 k := by
  rcases hk with hk | hk | hk | hk | hk | hk
  · have hk2 : k = 0 ∨ k = 1 ∨ k = 2 ∨ k = 3 ∨ k = 4 ∨ k = 5 ∨ k = 6 ∨ k = 7 ∨ k = 8 ∨ k = 9 ∨ k = 10 ∨ k = 11 ∨ k = 12 ∨ k = 13 ∨ k = 14 ∨ k = 15 ∨ k = 16 ∨ k = 17 ∨ k = 18 ∨ k = 19 ∨ k = 20 ∨ k = 21 ∨ k = 22 ∨ k = 23 ∨ k = 24 ∨ k = 25 ∨ k = 26 ∨ k = 27 ∨ k = 28 ∨ k = 29 := by omega
    rcases hk2 with rfl | rfl | rfl | rfl | rfl | rfl | rfl | rfl | rfl | rfl | rfl | rfl | rfl | rfl | rfl | rfl | rfl | rfl | rfl | rfl | rfl | rfl | rfl | rfl | rfl | rfl | rfl | rfl | rfl | rfl
    · show cnA cy sb db g 0 = cnA cy sb db g2 0
      simp only [cnA, h 0 0 rfl, h 1 0 rfl, h 2 0 rfl]
    · show cnA cy sb db g 1 = cnA cy sb db g2 1
      rfl
    · show cnA cy sb db g 2 = cnA cy sb db g2 2
      simp only [cnA, h 3 0 rfl]
    · show cnA cy sb db g 3 = cnA cy sb db g2 3
      simp only [cnA, h 7 0 rfl]
    · show cnA cy sb db g 4 = cnA cy sb db g2 4
      simp only [cnA, h 8 0 rfl]
    · show cnA cy sb db g 5 = cnA cy sb db g2 5
      simp only [cnA, h 9 0 rfl]
    · show cnA cy sb db g 6 = cnA cy sb db g2 6
      simp only [cnA, h 10 0 rfl]
    · show cnA cy sb db g 7 = cnA cy sb db g2 7
      simp only [cnA, hL 1 rfl]
    · show cnA cy sb db g 8 = cnA cy sb db g2 8
      simp only [cnA, h 11 0 rfl, h 12 0 rfl]
    · show cnA cy sb db g 9 = cnA cy sb db g2 9
      simp only [cnA, hL 0 rfl, hN]
    · show cnA cy sb db g 10 = cnA cy sb db g2 10
      simp only [cnA, h 13 0 rfl, hN]
    · show cnA cy sb db g 11 = cnA cy sb db g2 11
      simp only [cnA, h 14 0 rfl, hN]
    · show cnA cy sb db g 12 = cnA cy sb db g2 12
      simp only [cnA, h 15 0 rfl, hN]
    · show cnA cy sb db g 13 = cnA cy sb db g2 13
      simp only [cnA, h 20 0 rfl, h 21 0 rfl, h 22 0 rfl, h 25 0 rfl, h 31 0 rfl, h 34 0 rfl, h 37 0 rfl, h 39 0 rfl, h 44 0 rfl]
    · show cnA cy sb db g 14 = cnA cy sb db g2 14
      simp only [cnA, h 23 0 rfl]
    · show cnA cy sb db g 15 = cnA cy sb db g2 15
      simp only [cnA, h 24 0 rfl]
    · show cnA cy sb db g 16 = cnA cy sb db g2 16
      simp only [cnA, h 26 0 rfl]
    · show cnA cy sb db g 17 = cnA cy sb db g2 17
      simp only [cnA, h 27 0 rfl]
    · show cnA cy sb db g 18 = cnA cy sb db g2 18
      simp only [cnA, h 28 0 rfl]
    · show cnA cy sb db g 19 = cnA cy sb db g2 19
      simp only [cnA, h 29 0 rfl]
    · show cnA cy sb db g 20 = cnA cy sb db g2 20
      simp only [cnA, h 30 0 rfl]
    · show cnA cy sb db g 21 = cnA cy sb db g2 21
      simp only [cnA, h 32 0 rfl]
    · show cnA cy sb db g 22 = cnA cy sb db g2 22
      simp only [cnA, h 33 0 rfl]
    · show cnA cy sb db g 23 = cnA cy sb db g2 23
      simp only [cnA, hL 2 rfl]
    · show cnA cy sb db g 24 = cnA cy sb db g2 24
      simp only [cnA, h 36 0 rfl]
    · show cnA cy sb db g 25 = cnA cy sb db g2 25
      simp only [cnA, h 38 0 rfl]
    · show cnA cy sb db g 26 = cnA cy sb db g2 26
      simp only [cnA, h 40 0 rfl]
    · show cnA cy sb db g 27 = cnA cy sb db g2 27
      simp only [cnA, h 41 0 rfl]
    · show cnA cy sb db g 28 = cnA cy sb db g2 28
      simp only [cnA, h 42 0 rfl]
    · show cnA cy sb db g 29 = cnA cy sb db g2 29
      simp only [cnA, hL 3 rfl]
  · obtain ⟨o, rfl⟩ : ∃ o, k = 100 + o := ⟨k - 100, by omega⟩
    rw [ct_sh cy sb db g (by omega), ct_sh cy sb db g2 (by omega), h 4 o rfl]
  · obtain ⟨o, rfl⟩ : ∃ o, k = 200 + o := ⟨k - 200, by omega⟩
    rw [ct_low cy sb db g (by omega), ct_low cy sb db g2 (by omega), h 5 o rfl]
  · obtain ⟨o, rfl⟩ : ∃ o, k = 300 + o := ⟨k - 300, by omega⟩
    rw [ct_hig cy sb db g (by omega), ct_hig cy sb db g2 (by omega), h 6 o rfl]
  · obtain ⟨o, rfl⟩ : ∃ o, k = 400 + o := ⟨k - 400, by omega⟩
    rw [ct_ma cy sb db g (by omega), ct_ma cy sb db g2 (by omega), h 16 o rfl, h 17 o rfl]
  · obtain ⟨o, rfl⟩ : ∃ o, k = 500 + o := ⟨k - 500, by omega⟩
    rw [ct_rows cy sb db g (by omega), ct_rows cy sb db g2 (by omega), h 18 o rfl, hN]
theorem cont_sI {cy : Cy} {sb db : Nat → Nat} {g : Gs} {c o j k : Nat} {v : Int32} (hk : lvk k) (h : k ≠ kof c o) : cont cy sb db (sI g c o j v) k = cont cy sb db g k :=
  cont_fr hk (fun c1 o1 h1 => sI_nc g c o j v (fun q => h (by rw [← h1, q.1, q.2]))) (fun _ _ => rfl) rfl
theorem cont_sL {cy : Cy} {sb db : Nat → Nat} {g : Gs} {c j k : Nat} {v : Int64} (hk : lvk k) (h : k ≠ kofL c) : cont cy sb db (sL g c j v) k = cont cy sb db g k :=
  cont_fr hk (fun _ _ _ => rfl) (fun c1 h1 => sL_nc g c j v (fun q => h (by rw [← h1, q]))) rfl
def Cx (p : Program) (s : State) (m : MethodId) (args : Array Value) (c : Code) (cc : ByteArray) (nL : Nat) (own : String) (D : va_G) (cy : Cy) : Prop := p.tables.exec = Jvm.exec ∧ c.code = cc ∧ c.maxLocals = nL ∧ s.vm.findClass own = some m.cls ∧ (∀ w ∈ wsL_law, w.before args s = true) ∧ va_K D vwCl (tyL cy) s
def Ws (D : va_G) (b0 : Nat) (cy : Cy) (sb db : Nat → Nat) (g : Gs) (s : State) (H : Heap) (locs : List Loc) : Prop := mp_ D (fun q => b0 ≤ q) lvk (adr sb db) (cont cy sb db g) H ∧ va_S (fun q => b0 ≤ q) s.heap H locs
end
section
/-! A row for each field link, each array. Printed by wip/gen/world.py. -/
section ROWS
variable {p : Program} {l : Launch} {e : Env} {R : Room} {s : State} {m : MethodId} {args : Array Value} {below : List Frame} {meth : Method} {c : Code} {H : Heap} {locs : List Loc} {cells slots : Nat} {Q : State → Prop}
variable {cc : ByteArray} {pc nL : Nat} {ls : Array Slot} {rest : List Value} {D : va_G} {b0 : Nat} {cy : Cy} {sb db : Nat → Nat} {g : Gs} {own : String}
theorem gf_RX0_9 (C0 : Cx p s m args c cc nL RX0 D cy) (M : Ws D b0 cy sb db g s H locs) (hdg : decode cc pc = .ok (.getfield 9, 3)) (kk : W p l e R s m args below meth c H locs cells slots Q (F0 m (pc + 3) ls (.ref (sb 4) :: rest))) : W p l e R s m args below meth c H locs cells slots Q (F0 m pc ls (.ref (sb 3) :: rest)) :=
  mg_get C0.1 C0.2.1 C0.2.2.2.2.1 C0.2.2.2.1 C0.2.2.2.2.2 M.1 (k := 3) (Or.inl (by decide)) rfl rfl rfl inlX0 0 (by decide) kw_2_18 rfl rfl hdg kk
theorem gf_RX0_15 (C0 : Cx p s m args c cc nL RX0 D cy) (M : Ws D b0 cy sb db g s H locs) (hdg : decode cc pc = .ok (.getfield 15, 3)) (kk : W p l e R s m args below meth c H locs cells slots Q (F0 m (pc + 3) ls (.ref (sb 5) :: rest))) : W p l e R s m args below meth c H locs cells slots Q (F0 m pc ls (.ref (sb 3) :: rest)) :=
  mg_get C0.1 C0.2.1 C0.2.2.2.2.1 C0.2.2.2.1 C0.2.2.2.2.2 M.1 (k := 3) (Or.inl (by decide)) rfl rfl rfl inlX0 1 (by decide) kw_2_19 rfl rfl hdg kk
theorem gf_RX0_18 (C0 : Cx p s m args c cc nL RX0 D cy) (M : Ws D b0 cy sb db g s H locs) (hdg : decode cc pc = .ok (.getfield 18, 3)) (kk : W p l e R s m args below meth c H locs cells slots Q (F0 m (pc + 3) ls (.ref (sb 6) :: rest))) : W p l e R s m args below meth c H locs cells slots Q (F0 m pc ls (.ref (sb 3) :: rest)) :=
  mg_get C0.1 C0.2.1 C0.2.2.2.2.1 C0.2.2.2.1 C0.2.2.2.2.2 M.1 (k := 3) (Or.inl (by decide)) rfl rfl rfl inlX0 2 (by decide) kw_2_20 rfl rfl hdg kk
theorem gf_RX0_21 (C0 : Cx p s m args c cc nL RX0 D cy) (M : Ws D b0 cy sb db g s H locs) (hdg : decode cc pc = .ok (.getfield 21, 3)) (kk : W p l e R s m args below meth c H locs cells slots Q (F0 m (pc + 3) ls (.ref (sb 7) :: rest))) : W p l e R s m args below meth c H locs cells slots Q (F0 m pc ls (.ref (sb 3) :: rest)) :=
  mg_get C0.1 C0.2.1 C0.2.2.2.2.1 C0.2.2.2.1 C0.2.2.2.2.2 M.1 (k := 3) (Or.inl (by decide)) rfl rfl rfl inlX0 3 (by decide) kw_2_22 rfl rfl hdg kk
theorem gf_RX0_25 (C0 : Cx p s m args c cc nL RX0 D cy) (M : Ws D b0 cy sb db g s H locs) (hdg : decode cc pc = .ok (.getfield 25, 3)) (kk : W p l e R s m args below meth c H locs cells slots Q (F0 m (pc + 3) ls (.int (g.1 7 0 0) :: rest))) : W p l e R s m args below meth c H locs cells slots Q (F0 m pc ls (.ref (sb 3) :: rest)) :=
  mg_get C0.1 C0.2.1 C0.2.2.2.2.1 C0.2.2.2.1 C0.2.2.2.2.2 M.1 (k := 3) (Or.inl (by decide)) rfl rfl rfl inlX0 4 (by decide) kw_23_13 rfl rfl hdg kk
theorem gf_RX1_12 (C0 : Cx p s m args c cc nL RX1 D cy) (M : Ws D b0 cy sb db g s H locs) {n : Nat} (hB : n < 24) (hdg : decode cc pc = .ok (.getfield 12, 3)) (kk : W p l e R s m args below meth c H locs cells slots Q (F0 m (pc + 3) ls (.ref (sb (100 + (n + 1))) :: rest))) : W p l e R s m args below meth c H locs cells slots Q (F0 m pc ls (.ref (sb (400 + n)) :: rest)) :=
  mg_get C0.1 C0.2.1 C0.2.2.2.2.1 C0.2.2.2.1 C0.2.2.2.2.2 M.1 (k := 400 + n) (lv_ma hB) (ad_ma sb db hB) (ct_ma cy sb db g hB) rfl inlX1 0 (by decide) kw_3_11 rfl rfl hdg kk
theorem gf_RX1_18 (C0 : Cx p s m args c cc nL RX1 D cy) (M : Ws D b0 cy sb db g s H locs) {n : Nat} (hB : n < 24) (hdg : decode cc pc = .ok (.getfield 18, 3)) (kk : W p l e R s m args below meth c H locs cells slots Q (F0 m (pc + 3) ls (.int (g.1 17 n 0) :: rest))) : W p l e R s m args below meth c H locs cells slots Q (F0 m pc ls (.ref (sb (400 + n)) :: rest)) :=
  mg_get C0.1 C0.2.1 C0.2.2.2.2.1 C0.2.2.2.1 C0.2.2.2.2.2 M.1 (k := 400 + n) (lv_ma hB) (ad_ma sb db hB) (ct_ma cy sb db g hB) rfl inlX1 2 (by decide) kw_3_12 rfl rfl hdg kk
theorem gf_RX1_22 (C0 : Cx p s m args c cc nL RX1 D cy) (M : Ws D b0 cy sb db g s H locs) {n : Nat} (hB : n < 24) (hdg : decode cc pc = .ok (.getfield 22, 3)) (kk : W p l e R s m args below meth c H locs cells slots Q (F0 m (pc + 3) ls (.ref (db (500 + n)) :: rest))) : W p l e R s m args below meth c H locs cells slots Q (F0 m pc ls (.ref (sb (400 + n)) :: rest)) :=
  mg_get C0.1 C0.2.1 C0.2.2.2.2.1 C0.2.2.2.1 C0.2.2.2.2.2 M.1 (k := 400 + n) (lv_ma hB) (ad_ma sb db hB) (ct_ma cy sb db g hB) rfl inlX1 3 (by decide) kw_3_13 rfl rfl hdg kk
theorem gf_RX2_9 (C0 : Cx p s m args c cc nL RX2 D cy) (M : Ws D b0 cy sb db g s H locs) {o : Nat} (hB : o < 25) (hdg : decode cc pc = .ok (.getfield 9, 3)) (kk : W p l e R s m args below meth c H locs cells slots Q (F0 m (pc + 3) ls (.ref (sb (200 + o)) :: rest))) : W p l e R s m args below meth c H locs cells slots Q (F0 m pc ls (.ref (sb (100 + o)) :: rest)) :=
  mg_get C0.1 C0.2.1 C0.2.2.2.2.1 C0.2.2.2.1 C0.2.2.2.2.2 M.1 (k := 100 + o) (lv_sh hB) (ad_sh sb db hB) (ct_sh cy sb db g hB) rfl inlX2 0 (by decide) kw_2_13 rfl rfl hdg kk
theorem gf_RX2_15 (C0 : Cx p s m args c cc nL RX2 D cy) (M : Ws D b0 cy sb db g s H locs) {o : Nat} (hB : o < 25) (hdg : decode cc pc = .ok (.getfield 15, 3)) (kk : W p l e R s m args below meth c H locs cells slots Q (F0 m (pc + 3) ls (.ref (sb (300 + o)) :: rest))) : W p l e R s m args below meth c H locs cells slots Q (F0 m pc ls (.ref (sb (100 + o)) :: rest)) :=
  mg_get C0.1 C0.2.1 C0.2.2.2.2.1 C0.2.2.2.1 C0.2.2.2.2.2 M.1 (k := 100 + o) (lv_sh hB) (ad_sh sb db hB) (ct_sh cy sb db g hB) rfl inlX2 1 (by decide) kw_2_14 rfl rfl hdg kk
theorem gf_RX2_18 (C0 : Cx p s m args c cc nL RX2 D cy) (M : Ws D b0 cy sb db g s H locs) {o : Nat} (hB : o < 25) (hdg : decode cc pc = .ok (.getfield 18, 3)) (kk : W p l e R s m args below meth c H locs cells slots Q (F0 m (pc + 3) ls (.int (g.1 4 o 0) :: rest))) : W p l e R s m args below meth c H locs cells slots Q (F0 m pc ls (.ref (sb (100 + o)) :: rest)) :=
  mg_get C0.1 C0.2.1 C0.2.2.2.2.1 C0.2.2.2.1 C0.2.2.2.2.2 M.1 (k := 100 + o) (lv_sh hB) (ad_sh sb db hB) (ct_sh cy sb db g hB) rfl inlX2 2 (by decide) kw_5_22 rfl rfl hdg kk
theorem gf_RX3_9 (C0 : Cx p s m args c cc nL RX3 D cy) (M : Ws D b0 cy sb db g s H locs) (hdg : decode cc pc = .ok (.getfield 9, 3)) (kk : W p l e R s m args below meth c H locs cells slots Q (F0 m (pc + 3) ls (.ref (db 9) :: rest))) : W p l e R s m args below meth c H locs cells slots Q (F0 m pc ls (.ref (sb 8) :: rest)) :=
  mg_get C0.1 C0.2.1 C0.2.2.2.2.1 C0.2.2.2.1 C0.2.2.2.2.2 M.1 (k := 8) (Or.inl (by decide)) rfl rfl rfl inlX3 0 (by decide) kw_3_2 rfl rfl hdg kk
theorem gf_RX3_15 (C0 : Cx p s m args c cc nL RX3 D cy) (M : Ws D b0 cy sb db g s H locs) (hdg : decode cc pc = .ok (.getfield 15, 3)) (kk : W p l e R s m args below meth c H locs cells slots Q (F0 m (pc + 3) ls (.ref (db 10) :: rest))) : W p l e R s m args below meth c H locs cells slots Q (F0 m pc ls (.ref (sb 8) :: rest)) :=
  mg_get C0.1 C0.2.1 C0.2.2.2.2.1 C0.2.2.2.1 C0.2.2.2.2.2 M.1 (k := 8) (Or.inl (by decide)) rfl rfl rfl inlX3 1 (by decide) kw_3_4 rfl rfl hdg kk
theorem gf_RX3_19 (C0 : Cx p s m args c cc nL RX3 D cy) (M : Ws D b0 cy sb db g s H locs) (hdg : decode cc pc = .ok (.getfield 19, 3)) (kk : W p l e R s m args below meth c H locs cells slots Q (F0 m (pc + 3) ls (.ref (db 11) :: rest))) : W p l e R s m args below meth c H locs cells slots Q (F0 m pc ls (.ref (sb 8) :: rest)) :=
  mg_get C0.1 C0.2.1 C0.2.2.2.2.1 C0.2.2.2.1 C0.2.2.2.2.2 M.1 (k := 8) (Or.inl (by decide)) rfl rfl rfl inlX3 2 (by decide) kw_3_5 rfl rfl hdg kk
theorem gf_RX3_23 (C0 : Cx p s m args c cc nL RX3 D cy) (M : Ws D b0 cy sb db g s H locs) (hdg : decode cc pc = .ok (.getfield 23, 3)) (kk : W p l e R s m args below meth c H locs cells slots Q (F0 m (pc + 3) ls (.ref (db 12) :: rest))) : W p l e R s m args below meth c H locs cells slots Q (F0 m pc ls (.ref (sb 8) :: rest)) :=
  mg_get C0.1 C0.2.1 C0.2.2.2.2.1 C0.2.2.2.1 C0.2.2.2.2.2 M.1 (k := 8) (Or.inl (by decide)) rfl rfl rfl inlX3 3 (by decide) kw_3_6 rfl rfl hdg kk
theorem gf_RX3_26 (C0 : Cx p s m args c cc nL RX3 D cy) (M : Ws D b0 cy sb db g s H locs) (hdg : decode cc pc = .ok (.getfield 26, 3)) (kk : W p l e R s m args below meth c H locs cells slots Q (F0 m (pc + 3) ls (.int (g.1 12 0 0) :: rest))) : W p l e R s m args below meth c H locs cells slots Q (F0 m pc ls (.ref (sb 8) :: rest)) :=
  mg_get C0.1 C0.2.1 C0.2.2.2.2.1 C0.2.2.2.1 C0.2.2.2.2.2 M.1 (k := 8) (Or.inl (by decide)) rfl rfl rfl inlX3 5 (by decide) kw_8_11 rfl rfl hdg kk
theorem gf_RX3_31 (C0 : Cx p s m args c cc nL RX3 D cy) (M : Ws D b0 cy sb db g s H locs) (hdg : decode cc pc = .ok (.getfield 31, 3)) (kk : W p l e R s m args below meth c H locs cells slots Q (F0 m (pc + 3) ls (.int (g.1 11 0 0) :: rest))) : W p l e R s m args below meth c H locs cells slots Q (F0 m pc ls (.ref (sb 8) :: rest)) :=
  mg_get C0.1 C0.2.1 C0.2.2.2.2.1 C0.2.2.2.1 C0.2.2.2.2.2 M.1 (k := 8) (Or.inl (by decide)) rfl rfl rfl inlX3 4 (by decide) kw_8_13 rfl rfl hdg kk
theorem gf_RX4_12 (C0 : Cx p s m args c cc nL RX4 D cy) (M : Ws D b0 cy sb db g s H locs) (hdg : decode cc pc = .ok (.getfield 12, 3)) (kk : W p l e R s m args below meth c H locs cells slots Q (F0 m (pc + 3) ls (.ref (sb (100 + 0)) :: rest))) : W p l e R s m args below meth c H locs cells slots Q (F0 m pc ls (.ref (sb 0) :: rest)) :=
  mg_get C0.1 C0.2.1 C0.2.2.2.2.1 C0.2.2.2.1 C0.2.2.2.2.2 M.1 (k := 0) (Or.inl (by decide)) rfl rfl rfl inlX4 0 (by decide) kw_1_16 rfl rfl hdg kk
theorem gf_RX4_19 (C0 : Cx p s m args c cc nL RX4 D cy) (M : Ws D b0 cy sb db g s H locs) (hdg : decode cc pc = .ok (.getfield 19, 3)) (kk : W p l e R s m args below meth c H locs cells slots Q (F0 m (pc + 3) ls (.ref (sb 3) :: rest))) : W p l e R s m args below meth c H locs cells slots Q (F0 m pc ls (.ref (sb 0) :: rest)) :=
  mg_get C0.1 C0.2.1 C0.2.2.2.2.1 C0.2.2.2.1 C0.2.2.2.2.2 M.1 (k := 0) (Or.inl (by decide)) rfl rfl rfl inlX4 1 (by decide) kw_1_20 rfl rfl hdg kk
theorem gf_RX4_26 (C0 : Cx p s m args c cc nL RX4 D cy) (M : Ws D b0 cy sb db g s H locs) (hdg : decode cc pc = .ok (.getfield 26, 3)) (kk : W p l e R s m args below meth c H locs cells slots Q (F0 m (pc + 3) ls (.ref (sb 8) :: rest))) : W p l e R s m args below meth c H locs cells slots Q (F0 m pc ls (.ref (sb 0) :: rest)) :=
  mg_get C0.1 C0.2.1 C0.2.2.2.2.1 C0.2.2.2.1 C0.2.2.2.2.2 M.1 (k := 0) (Or.inl (by decide)) rfl rfl rfl inlX4 2 (by decide) kw_2_0 rfl rfl hdg kk
theorem gf_RX4_32 (C0 : Cx p s m args c cc nL RX4 D cy) (M : Ws D b0 cy sb db g s H locs) (hdg : decode cc pc = .ok (.getfield 32, 3)) (kk : W p l e R s m args below meth c H locs cells slots Q (F0 m (pc + 3) ls (.ref (sb 1) :: rest))) : W p l e R s m args below meth c H locs cells slots Q (F0 m pc ls (.ref (sb 0) :: rest)) :=
  mg_get C0.1 C0.2.1 C0.2.2.2.2.1 C0.2.2.2.1 C0.2.2.2.2.2 M.1 (k := 0) (Or.inl (by decide)) rfl rfl rfl inlX4 3 (by decide) kw_2_2 rfl rfl hdg kk
theorem gf_RX4_36 (C0 : Cx p s m args c cc nL RX4 D cy) (M : Ws D b0 cy sb db g s H locs) (hdg : decode cc pc = .ok (.getfield 36, 3)) (kk : W p l e R s m args below meth c H locs cells slots Q (F0 m (pc + 3) ls (.ref (sb 2) :: rest))) : W p l e R s m args below meth c H locs cells slots Q (F0 m pc ls (.ref (sb 0) :: rest)) :=
  mg_get C0.1 C0.2.1 C0.2.2.2.2.1 C0.2.2.2.1 C0.2.2.2.2.2 M.1 (k := 0) (Or.inl (by decide)) rfl rfl rfl inlX4 4 (by decide) kw_2_4 rfl rfl hdg kk
theorem gf_RX4_40 (C0 : Cx p s m args c cc nL RX4 D cy) (M : Ws D b0 cy sb db g s H locs) (hdg : decode cc pc = .ok (.getfield 40, 3)) (kk : W p l e R s m args below meth c H locs cells slots Q (F0 m (pc + 3) ls (.int (g.1 0 0 0) :: rest))) : W p l e R s m args below meth c H locs cells slots Q (F0 m pc ls (.ref (sb 0) :: rest)) :=
  mg_get C0.1 C0.2.1 C0.2.2.2.2.1 C0.2.2.2.1 C0.2.2.2.2.2 M.1 (k := 0) (Or.inl (by decide)) rfl rfl rfl inlX4 5 (by decide) kw_2_5 rfl rfl hdg kk
theorem gf_RX4_44 (C0 : Cx p s m args c cc nL RX4 D cy) (M : Ws D b0 cy sb db g s H locs) (hdg : decode cc pc = .ok (.getfield 44, 3)) (kk : W p l e R s m args below meth c H locs cells slots Q (F0 m (pc + 3) ls (.int (g.1 1 0 0) :: rest))) : W p l e R s m args below meth c H locs cells slots Q (F0 m pc ls (.ref (sb 0) :: rest)) :=
  mg_get C0.1 C0.2.1 C0.2.2.2.2.1 C0.2.2.2.1 C0.2.2.2.2.2 M.1 (k := 0) (Or.inl (by decide)) rfl rfl rfl inlX4 6 (by decide) kw_2_6 rfl rfl hdg kk
theorem gf_RX4_47 (C0 : Cx p s m args c cc nL RX4 D cy) (M : Ws D b0 cy sb db g s H locs) (hdg : decode cc pc = .ok (.getfield 47, 3)) (kk : W p l e R s m args below meth c H locs cells slots Q (F0 m (pc + 3) ls (.int (g.1 2 0 0) :: rest))) : W p l e R s m args below meth c H locs cells slots Q (F0 m pc ls (.ref (sb 0) :: rest)) :=
  mg_get C0.1 C0.2.1 C0.2.2.2.2.1 C0.2.2.2.1 C0.2.2.2.2.2 M.1 (k := 0) (Or.inl (by decide)) rfl rfl rfl inlX4 7 (by decide) kw_2_7 rfl rfl hdg kk
theorem gf_RX4_51 (C0 : Cx p s m args c cc nL RX4 D cy) (M : Ws D b0 cy sb db g s H locs) {o : Nat} (hB : o < 25) (hdg : decode cc pc = .ok (.getfield 51, 3)) (kk : W p l e R s m args below meth c H locs cells slots Q (F0 m (pc + 3) ls (.int (g.1 4 o 0) :: rest))) : W p l e R s m args below meth c H locs cells slots Q (F0 m pc ls (.ref (sb (100 + o)) :: rest)) :=
  mg_get C0.1 C0.2.1 C0.2.2.2.2.1 C0.2.2.2.1 C0.2.2.2.2.2 M.1 (k := 100 + o) (lv_sh hB) (ad_sh sb db hB) (ct_sh cy sb db g hB) rfl inlX2 2 (by decide) kw_5_9 rfl rfl hdg kk
theorem gf_RX4_88 (C0 : Cx p s m args c cc nL RX4 D cy) (M : Ws D b0 cy sb db g s H locs) {n : Nat} (hB : n < 24) (hdg : decode cc pc = .ok (.getfield 88, 3)) (kk : W p l e R s m args below meth c H locs cells slots Q (F0 m (pc + 3) ls (.ref (sb (100 + (n + 1))) :: rest))) : W p l e R s m args below meth c H locs cells slots Q (F0 m pc ls (.ref (sb (400 + n)) :: rest)) :=
  mg_get C0.1 C0.2.1 C0.2.2.2.2.1 C0.2.2.2.1 C0.2.2.2.2.2 M.1 (k := 400 + n) (lv_ma hB) (ad_ma sb db hB) (ct_ma cy sb db g hB) rfl inlX1 0 (by decide) kw_10_6 rfl rfl hdg kk
theorem gf_RX4_100 (C0 : Cx p s m args c cc nL RX4 D cy) (M : Ws D b0 cy sb db g s H locs) {n : Nat} (hB : n < 24) (hdg : decode cc pc = .ok (.getfield 100, 3)) (kk : W p l e R s m args below meth c H locs cells slots Q (F0 m (pc + 3) ls (.int (g.1 17 n 0) :: rest))) : W p l e R s m args below meth c H locs cells slots Q (F0 m pc ls (.ref (sb (400 + n)) :: rest)) :=
  mg_get C0.1 C0.2.1 C0.2.2.2.2.1 C0.2.2.2.1 C0.2.2.2.2.2 M.1 (k := 400 + n) (lv_ma hB) (ad_ma sb db hB) (ct_ma cy sb db g hB) rfl inlX1 2 (by decide) kw_10_12 rfl rfl hdg kk
theorem gf_RX4_106 (C0 : Cx p s m args c cc nL RX4 D cy) (M : Ws D b0 cy sb db g s H locs) {n : Nat} (hB : n < 24) (hdg : decode cc pc = .ok (.getfield 106, 3)) (kk : W p l e R s m args below meth c H locs cells slots Q (F0 m (pc + 3) ls (.int (g.1 16 n 0) :: rest))) : W p l e R s m args below meth c H locs cells slots Q (F0 m pc ls (.ref (sb (400 + n)) :: rest)) :=
  mg_get C0.1 C0.2.1 C0.2.2.2.2.1 C0.2.2.2.1 C0.2.2.2.2.2 M.1 (k := 400 + n) (lv_ma hB) (ad_ma sb db hB) (ct_ma cy sb db g hB) rfl inlX1 1 (by decide) kw_10_11 rfl rfl hdg kk
theorem gf_RX4_133 (C0 : Cx p s m args c cc nL RX4 D cy) (M : Ws D b0 cy sb db g s H locs) {n : Nat} (hB : n < 24) (hdg : decode cc pc = .ok (.getfield 133, 3)) (kk : W p l e R s m args below meth c H locs cells slots Q (F0 m (pc + 3) ls (.ref (db (500 + n)) :: rest))) : W p l e R s m args below meth c H locs cells slots Q (F0 m pc ls (.ref (sb (400 + n)) :: rest)) :=
  mg_get C0.1 C0.2.1 C0.2.2.2.2.1 C0.2.2.2.1 C0.2.2.2.2.2 M.1 (k := 400 + n) (lv_ma hB) (ad_ma sb db hB) (ct_ma cy sb db g hB) rfl inlX1 3 (by decide) kw_10_22 rfl rfl hdg kk
theorem gf_RX4_165 (C0 : Cx p s m args c cc nL RX4 D cy) (M : Ws D b0 cy sb db g s H locs) (hdg : decode cc pc = .ok (.getfield 165, 3)) (kk : W p l e R s m args below meth c H locs cells slots Q (F0 m (pc + 3) ls (.ref (db 10) :: rest))) : W p l e R s m args below meth c H locs cells slots Q (F0 m pc ls (.ref (sb 8) :: rest)) :=
  mg_get C0.1 C0.2.1 C0.2.2.2.2.1 C0.2.2.2.1 C0.2.2.2.2.2 M.1 (k := 8) (Or.inl (by decide)) rfl rfl rfl inlX3 1 (by decide) kw_20_21 rfl rfl hdg kk
theorem gf_RX4_169 (C0 : Cx p s m args c cc nL RX4 D cy) (M : Ws D b0 cy sb db g s H locs) (hdg : decode cc pc = .ok (.getfield 169, 3)) (kk : W p l e R s m args below meth c H locs cells slots Q (F0 m (pc + 3) ls (.ref (db 9) :: rest))) : W p l e R s m args below meth c H locs cells slots Q (F0 m pc ls (.ref (sb 8) :: rest)) :=
  mg_get C0.1 C0.2.1 C0.2.2.2.2.1 C0.2.2.2.1 C0.2.2.2.2.2 M.1 (k := 8) (Or.inl (by decide)) rfl rfl rfl inlX3 0 (by decide) kw_20_22 rfl rfl hdg kk
theorem gf_RX4_185 (C0 : Cx p s m args c cc nL RX4 D cy) (M : Ws D b0 cy sb db g s H locs) (hdg : decode cc pc = .ok (.getfield 185, 3)) (kk : W p l e R s m args below meth c H locs cells slots Q (F0 m (pc + 3) ls (.int (g.1 7 0 0) :: rest))) : W p l e R s m args below meth c H locs cells slots Q (F0 m pc ls (.ref (sb 3) :: rest)) :=
  mg_get C0.1 C0.2.1 C0.2.2.2.2.1 C0.2.2.2.1 C0.2.2.2.2.2 M.1 (k := 3) (Or.inl (by decide)) rfl rfl rfl inlX0 4 (by decide) kw_23_8 rfl rfl hdg kk
theorem gf_RX4_189 (C0 : Cx p s m args c cc nL RX4 D cy) (M : Ws D b0 cy sb db g s H locs) (hdg : decode cc pc = .ok (.getfield 189, 3)) (kk : W p l e R s m args below meth c H locs cells slots Q (F0 m (pc + 3) ls (.ref (sb 4) :: rest))) : W p l e R s m args below meth c H locs cells slots Q (F0 m pc ls (.ref (sb 3) :: rest)) :=
  mg_get C0.1 C0.2.1 C0.2.2.2.2.1 C0.2.2.2.1 C0.2.2.2.2.2 M.1 (k := 3) (Or.inl (by decide)) rfl rfl rfl inlX0 0 (by decide) kw_23_23 rfl rfl hdg kk
theorem gf_RX4_192 (C0 : Cx p s m args c cc nL RX4 D cy) (M : Ws D b0 cy sb db g s H locs) (hdg : decode cc pc = .ok (.getfield 192, 3)) (kk : W p l e R s m args below meth c H locs cells slots Q (F0 m (pc + 3) ls (.ref (sb 5) :: rest))) : W p l e R s m args below meth c H locs cells slots Q (F0 m pc ls (.ref (sb 3) :: rest)) :=
  mg_get C0.1 C0.2.1 C0.2.2.2.2.1 C0.2.2.2.1 C0.2.2.2.2.2 M.1 (k := 3) (Or.inl (by decide)) rfl rfl rfl inlX0 1 (by decide) kw_24_0 rfl rfl hdg kk
theorem gf_RX4_195 (C0 : Cx p s m args c cc nL RX4 D cy) (M : Ws D b0 cy sb db g s H locs) (hdg : decode cc pc = .ok (.getfield 195, 3)) (kk : W p l e R s m args below meth c H locs cells slots Q (F0 m (pc + 3) ls (.ref (sb 6) :: rest))) : W p l e R s m args below meth c H locs cells slots Q (F0 m pc ls (.ref (sb 3) :: rest)) :=
  mg_get C0.1 C0.2.1 C0.2.2.2.2.1 C0.2.2.2.1 C0.2.2.2.2.2 M.1 (k := 3) (Or.inl (by decide)) rfl rfl rfl inlX0 2 (by decide) kw_24_1 rfl rfl hdg kk
theorem gf_RX4_198 (C0 : Cx p s m args c cc nL RX4 D cy) (M : Ws D b0 cy sb db g s H locs) (hdg : decode cc pc = .ok (.getfield 198, 3)) (kk : W p l e R s m args below meth c H locs cells slots Q (F0 m (pc + 3) ls (.ref (sb 7) :: rest))) : W p l e R s m args below meth c H locs cells slots Q (F0 m pc ls (.ref (sb 3) :: rest)) :=
  mg_get C0.1 C0.2.1 C0.2.2.2.2.1 C0.2.2.2.1 C0.2.2.2.2.2 M.1 (k := 3) (Or.inl (by decide)) rfl rfl rfl inlX0 3 (by decide) kw_24_2 rfl rfl hdg kk
theorem gf_RX4_219 (C0 : Cx p s m args c cc nL RX4 D cy) (M : Ws D b0 cy sb db g s H locs) {o : Nat} (hB : o < 25) (hdg : decode cc pc = .ok (.getfield 219, 3)) (kk : W p l e R s m args below meth c H locs cells slots Q (F0 m (pc + 3) ls (.ref (sb (200 + o)) :: rest))) : W p l e R s m args below meth c H locs cells slots Q (F0 m pc ls (.ref (sb (100 + o)) :: rest)) :=
  mg_get C0.1 C0.2.1 C0.2.2.2.2.1 C0.2.2.2.1 C0.2.2.2.2.2 M.1 (k := 100 + o) (lv_sh hB) (ad_sh sb db hB) (ct_sh cy sb db g hB) rfl inlX2 0 (by decide) kw_16_7 rfl rfl hdg kk
theorem gf_RX4_222 (C0 : Cx p s m args c cc nL RX4 D cy) (M : Ws D b0 cy sb db g s H locs) {o : Nat} (hB : o < 25) (hdg : decode cc pc = .ok (.getfield 222, 3)) (kk : W p l e R s m args below meth c H locs cells slots Q (F0 m (pc + 3) ls (.ref (sb (300 + o)) :: rest))) : W p l e R s m args below meth c H locs cells slots Q (F0 m pc ls (.ref (sb (100 + o)) :: rest)) :=
  mg_get C0.1 C0.2.1 C0.2.2.2.2.1 C0.2.2.2.1 C0.2.2.2.2.2 M.1 (k := 100 + o) (lv_sh hB) (ad_sh sb db hB) (ct_sh cy sb db g hB) rfl inlX2 1 (by decide) kw_26_16 rfl rfl hdg kk
theorem gf_RX5_9 (C0 : Cx p s m args c cc nL RX5 D cy) (M : Ws D b0 cy sb db g s H locs) (hdg : decode cc pc = .ok (.getfield 9, 3)) (kk : W p l e R s m args below meth c H locs cells slots Q (F0 m (pc + 3) ls (.int (g.1 21 0 0) :: rest))) : W p l e R s m args below meth c H locs cells slots Q (F0 m pc ls (.ref (sb 13) :: rest)) :=
  mg_get C0.1 C0.2.1 C0.2.2.2.2.1 C0.2.2.2.1 C0.2.2.2.2.2 M.1 (k := 13) (Or.inl (by decide)) rfl rfl rfl inlX5 1 (by decide) kw_3_18 rfl rfl hdg kk
theorem gf_RX5_13 (C0 : Cx p s m args c cc nL RX5 D cy) (M : Ws D b0 cy sb db g s H locs) (hdg : decode cc pc = .ok (.getfield 13, 3)) (kk : W p l e R s m args below meth c H locs cells slots Q (F0 m (pc + 3) ls (.ref (sb 14) :: rest))) : W p l e R s m args below meth c H locs cells slots Q (F0 m pc ls (.ref (sb 13) :: rest)) :=
  mg_get C0.1 C0.2.1 C0.2.2.2.2.1 C0.2.2.2.1 C0.2.2.2.2.2 M.1 (k := 13) (Or.inl (by decide)) rfl rfl rfl inlX5 3 (by decide) kw_3_19 rfl rfl hdg kk
theorem gf_RX5_17 (C0 : Cx p s m args c cc nL RX5 D cy) (M : Ws D b0 cy sb db g s H locs) (hdg : decode cc pc = .ok (.getfield 17, 3)) (kk : W p l e R s m args below meth c H locs cells slots Q (F0 m (pc + 3) ls (.ref (sb 15) :: rest))) : W p l e R s m args below meth c H locs cells slots Q (F0 m pc ls (.ref (sb 13) :: rest)) :=
  mg_get C0.1 C0.2.1 C0.2.2.2.2.1 C0.2.2.2.1 C0.2.2.2.2.2 M.1 (k := 13) (Or.inl (by decide)) rfl rfl rfl inlX5 4 (by decide) kw_3_20 rfl rfl hdg kk
theorem gf_RX5_20 (C0 : Cx p s m args c cc nL RX5 D cy) (M : Ws D b0 cy sb db g s H locs) (hdg : decode cc pc = .ok (.getfield 20, 3)) (kk : W p l e R s m args below meth c H locs cells slots Q (F0 m (pc + 3) ls (.ref (sb 16) :: rest))) : W p l e R s m args below meth c H locs cells slots Q (F0 m pc ls (.ref (sb 13) :: rest)) :=
  mg_get C0.1 C0.2.1 C0.2.2.2.2.1 C0.2.2.2.1 C0.2.2.2.2.2 M.1 (k := 13) (Or.inl (by decide)) rfl rfl rfl inlX5 6 (by decide) kw_3_21 rfl rfl hdg kk
theorem gf_RX5_23 (C0 : Cx p s m args c cc nL RX5 D cy) (M : Ws D b0 cy sb db g s H locs) (hdg : decode cc pc = .ok (.getfield 23, 3)) (kk : W p l e R s m args below meth c H locs cells slots Q (F0 m (pc + 3) ls (.ref (sb 17) :: rest))) : W p l e R s m args below meth c H locs cells slots Q (F0 m pc ls (.ref (sb 13) :: rest)) :=
  mg_get C0.1 C0.2.1 C0.2.2.2.2.1 C0.2.2.2.1 C0.2.2.2.2.2 M.1 (k := 13) (Or.inl (by decide)) rfl rfl rfl inlX5 7 (by decide) kw_3_22 rfl rfl hdg kk
theorem gf_RX5_26 (C0 : Cx p s m args c cc nL RX5 D cy) (M : Ws D b0 cy sb db g s H locs) (hdg : decode cc pc = .ok (.getfield 26, 3)) (kk : W p l e R s m args below meth c H locs cells slots Q (F0 m (pc + 3) ls (.ref (sb 18) :: rest))) : W p l e R s m args below meth c H locs cells slots Q (F0 m pc ls (.ref (sb 13) :: rest)) :=
  mg_get C0.1 C0.2.1 C0.2.2.2.2.1 C0.2.2.2.1 C0.2.2.2.2.2 M.1 (k := 13) (Or.inl (by decide)) rfl rfl rfl inlX5 8 (by decide) kw_3_23 rfl rfl hdg kk
theorem gf_RX5_29 (C0 : Cx p s m args c cc nL RX5 D cy) (M : Ws D b0 cy sb db g s H locs) (hdg : decode cc pc = .ok (.getfield 29, 3)) (kk : W p l e R s m args below meth c H locs cells slots Q (F0 m (pc + 3) ls (.ref (sb 19) :: rest))) : W p l e R s m args below meth c H locs cells slots Q (F0 m pc ls (.ref (sb 13) :: rest)) :=
  mg_get C0.1 C0.2.1 C0.2.2.2.2.1 C0.2.2.2.1 C0.2.2.2.2.2 M.1 (k := 13) (Or.inl (by decide)) rfl rfl rfl inlX5 9 (by decide) kw_4_0 rfl rfl hdg kk
theorem gf_RX5_32 (C0 : Cx p s m args c cc nL RX5 D cy) (M : Ws D b0 cy sb db g s H locs) (hdg : decode cc pc = .ok (.getfield 32, 3)) (kk : W p l e R s m args below meth c H locs cells slots Q (F0 m (pc + 3) ls (.ref (sb 20) :: rest))) : W p l e R s m args below meth c H locs cells slots Q (F0 m pc ls (.ref (sb 13) :: rest)) :=
  mg_get C0.1 C0.2.1 C0.2.2.2.2.1 C0.2.2.2.1 C0.2.2.2.2.2 M.1 (k := 13) (Or.inl (by decide)) rfl rfl rfl inlX5 10 (by decide) kw_4_1 rfl rfl hdg kk
theorem gf_RX5_35 (C0 : Cx p s m args c cc nL RX5 D cy) (M : Ws D b0 cy sb db g s H locs) (hdg : decode cc pc = .ok (.getfield 35, 3)) (kk : W p l e R s m args below meth c H locs cells slots Q (F0 m (pc + 3) ls (.ref (sb 21) :: rest))) : W p l e R s m args below meth c H locs cells slots Q (F0 m pc ls (.ref (sb 13) :: rest)) :=
  mg_get C0.1 C0.2.1 C0.2.2.2.2.1 C0.2.2.2.1 C0.2.2.2.2.2 M.1 (k := 13) (Or.inl (by decide)) rfl rfl rfl inlX5 12 (by decide) kw_4_2 rfl rfl hdg kk
theorem gf_RX5_38 (C0 : Cx p s m args c cc nL RX5 D cy) (M : Ws D b0 cy sb db g s H locs) (hdg : decode cc pc = .ok (.getfield 38, 3)) (kk : W p l e R s m args below meth c H locs cells slots Q (F0 m (pc + 3) ls (.ref (sb 22) :: rest))) : W p l e R s m args below meth c H locs cells slots Q (F0 m pc ls (.ref (sb 13) :: rest)) :=
  mg_get C0.1 C0.2.1 C0.2.2.2.2.1 C0.2.2.2.1 C0.2.2.2.2.2 M.1 (k := 13) (Or.inl (by decide)) rfl rfl rfl inlX5 13 (by decide) kw_4_3 rfl rfl hdg kk
theorem gf_RX5_42 (C0 : Cx p s m args c cc nL RX5 D cy) (M : Ws D b0 cy sb db g s H locs) (hdg : decode cc pc = .ok (.getfield 42, 3)) (kk : W p l e R s m args below meth c H locs cells slots Q (F0 m (pc + 3) ls (.ref (sb 23) :: rest))) : W p l e R s m args below meth c H locs cells slots Q (F0 m pc ls (.ref (sb 13) :: rest)) :=
  mg_get C0.1 C0.2.1 C0.2.2.2.2.1 C0.2.2.2.1 C0.2.2.2.2.2 M.1 (k := 13) (Or.inl (by decide)) rfl rfl rfl inlX5 15 (by decide) kw_4_5 rfl rfl hdg kk
theorem gf_RX5_46 (C0 : Cx p s m args c cc nL RX5 D cy) (M : Ws D b0 cy sb db g s H locs) (hdg : decode cc pc = .ok (.getfield 46, 3)) (kk : W p l e R s m args below meth c H locs cells slots Q (F0 m (pc + 3) ls (.ref (sb 24) :: rest))) : W p l e R s m args below meth c H locs cells slots Q (F0 m pc ls (.ref (sb 13) :: rest)) :=
  mg_get C0.1 C0.2.1 C0.2.2.2.2.1 C0.2.2.2.1 C0.2.2.2.2.2 M.1 (k := 13) (Or.inl (by decide)) rfl rfl rfl inlX5 16 (by decide) kw_4_6 rfl rfl hdg kk
theorem gf_RX5_50 (C0 : Cx p s m args c cc nL RX5 D cy) (M : Ws D b0 cy sb db g s H locs) (hdg : decode cc pc = .ok (.getfield 50, 3)) (kk : W p l e R s m args below meth c H locs cells slots Q (F0 m (pc + 3) ls (.ref (sb 25) :: rest))) : W p l e R s m args below meth c H locs cells slots Q (F0 m pc ls (.ref (sb 13) :: rest)) :=
  mg_get C0.1 C0.2.1 C0.2.2.2.2.1 C0.2.2.2.1 C0.2.2.2.2.2 M.1 (k := 13) (Or.inl (by decide)) rfl rfl rfl inlX5 18 (by decide) kw_4_7 rfl rfl hdg kk
theorem gf_RX5_53 (C0 : Cx p s m args c cc nL RX5 D cy) (M : Ws D b0 cy sb db g s H locs) (hdg : decode cc pc = .ok (.getfield 53, 3)) (kk : W p l e R s m args below meth c H locs cells slots Q (F0 m (pc + 3) ls (.ref (sb 26) :: rest))) : W p l e R s m args below meth c H locs cells slots Q (F0 m pc ls (.ref (sb 13) :: rest)) :=
  mg_get C0.1 C0.2.1 C0.2.2.2.2.1 C0.2.2.2.1 C0.2.2.2.2.2 M.1 (k := 13) (Or.inl (by decide)) rfl rfl rfl inlX5 20 (by decide) kw_4_8 rfl rfl hdg kk
theorem gf_RX5_56 (C0 : Cx p s m args c cc nL RX5 D cy) (M : Ws D b0 cy sb db g s H locs) (hdg : decode cc pc = .ok (.getfield 56, 3)) (kk : W p l e R s m args below meth c H locs cells slots Q (F0 m (pc + 3) ls (.ref (sb 27) :: rest))) : W p l e R s m args below meth c H locs cells slots Q (F0 m pc ls (.ref (sb 13) :: rest)) :=
  mg_get C0.1 C0.2.1 C0.2.2.2.2.1 C0.2.2.2.1 C0.2.2.2.2.2 M.1 (k := 13) (Or.inl (by decide)) rfl rfl rfl inlX5 21 (by decide) kw_4_9 rfl rfl hdg kk
theorem gf_RX5_59 (C0 : Cx p s m args c cc nL RX5 D cy) (M : Ws D b0 cy sb db g s H locs) (hdg : decode cc pc = .ok (.getfield 59, 3)) (kk : W p l e R s m args below meth c H locs cells slots Q (F0 m (pc + 3) ls (.ref (sb 28) :: rest))) : W p l e R s m args below meth c H locs cells slots Q (F0 m pc ls (.ref (sb 13) :: rest)) :=
  mg_get C0.1 C0.2.1 C0.2.2.2.2.1 C0.2.2.2.1 C0.2.2.2.2.2 M.1 (k := 13) (Or.inl (by decide)) rfl rfl rfl inlX5 22 (by decide) kw_4_10 rfl rfl hdg kk
theorem gf_RX5_62 (C0 : Cx p s m args c cc nL RX5 D cy) (M : Ws D b0 cy sb db g s H locs) (hdg : decode cc pc = .ok (.getfield 62, 3)) (kk : W p l e R s m args below meth c H locs cells slots Q (F0 m (pc + 3) ls (.ref (sb 29) :: rest))) : W p l e R s m args below meth c H locs cells slots Q (F0 m pc ls (.ref (sb 13) :: rest)) :=
  mg_get C0.1 C0.2.1 C0.2.2.2.2.1 C0.2.2.2.1 C0.2.2.2.2.2 M.1 (k := 13) (Or.inl (by decide)) rfl rfl rfl inlX5 23 (by decide) kw_4_11 rfl rfl hdg kk
theorem gf_RX5_65 (C0 : Cx p s m args c cc nL RX5 D cy) (M : Ws D b0 cy sb db g s H locs) (hdg : decode cc pc = .ok (.getfield 65, 3)) (kk : W p l e R s m args below meth c H locs cells slots Q (F0 m (pc + 3) ls (.int (g.1 20 0 0) :: rest))) : W p l e R s m args below meth c H locs cells slots Q (F0 m pc ls (.ref (sb 13) :: rest)) :=
  mg_get C0.1 C0.2.1 C0.2.2.2.2.1 C0.2.2.2.1 C0.2.2.2.2.2 M.1 (k := 13) (Or.inl (by decide)) rfl rfl rfl inlX5 0 (by decide) kw_4_20 rfl rfl hdg kk
theorem gf_RX5_72 (C0 : Cx p s m args c cc nL RX5 D cy) (M : Ws D b0 cy sb db g s H locs) (hdg : decode cc pc = .ok (.getfield 72, 3)) (kk : W p l e R s m args below meth c H locs cells slots Q (F0 m (pc + 3) ls (.int (g.1 22 0 0) :: rest))) : W p l e R s m args below meth c H locs cells slots Q (F0 m pc ls (.ref (sb 13) :: rest)) :=
  mg_get C0.1 C0.2.1 C0.2.2.2.2.1 C0.2.2.2.1 C0.2.2.2.2.2 M.1 (k := 13) (Or.inl (by decide)) rfl rfl rfl inlX5 2 (by decide) kw_6_7 rfl rfl hdg kk
theorem gf_RX5_86 (C0 : Cx p s m args c cc nL RX5 D cy) (M : Ws D b0 cy sb db g s H locs) (hdg : decode cc pc = .ok (.getfield 86, 3)) (kk : W p l e R s m args below meth c H locs cells slots Q (F0 m (pc + 3) ls (.int (g.1 31 0 0) :: rest))) : W p l e R s m args below meth c H locs cells slots Q (F0 m pc ls (.ref (sb 13) :: rest)) :=
  mg_get C0.1 C0.2.1 C0.2.2.2.2.1 C0.2.2.2.1 C0.2.2.2.2.2 M.1 (k := 13) (Or.inl (by decide)) rfl rfl rfl inlX5 11 (by decide) kw_13_0 rfl rfl hdg kk
theorem gf_RX5_89 (C0 : Cx p s m args c cc nL RX5 D cy) (M : Ws D b0 cy sb db g s H locs) (hdg : decode cc pc = .ok (.getfield 89, 3)) (kk : W p l e R s m args below meth c H locs cells slots Q (F0 m (pc + 3) ls (.int (g.1 34 0 0) :: rest))) : W p l e R s m args below meth c H locs cells slots Q (F0 m pc ls (.ref (sb 13) :: rest)) :=
  mg_get C0.1 C0.2.1 C0.2.2.2.2.1 C0.2.2.2.1 C0.2.2.2.2.2 M.1 (k := 13) (Or.inl (by decide)) rfl rfl rfl inlX5 14 (by decide) kw_13_1 rfl rfl hdg kk
theorem gf_RX5_98 (C0 : Cx p s m args c cc nL RX5 D cy) (M : Ws D b0 cy sb db g s H locs) (hdg : decode cc pc = .ok (.getfield 98, 3)) (kk : W p l e R s m args below meth c H locs cells slots Q (F0 m (pc + 3) ls (.int (g.1 25 0 0) :: rest))) : W p l e R s m args below meth c H locs cells slots Q (F0 m pc ls (.ref (sb 13) :: rest)) :=
  mg_get C0.1 C0.2.1 C0.2.2.2.2.1 C0.2.2.2.1 C0.2.2.2.2.2 M.1 (k := 13) (Or.inl (by decide)) rfl rfl rfl inlX5 5 (by decide) kw_11_19 rfl rfl hdg kk
theorem gf_RX5_105 (C0 : Cx p s m args c cc nL RX5 D cy) (M : Ws D b0 cy sb db g s H locs) (hdg : decode cc pc = .ok (.getfield 105, 3)) (kk : W p l e R s m args below meth c H locs cells slots Q (F0 m (pc + 3) ls (.int (g.1 37 0 0) :: rest))) : W p l e R s m args below meth c H locs cells slots Q (F0 m pc ls (.ref (sb 13) :: rest)) :=
  mg_get C0.1 C0.2.1 C0.2.2.2.2.1 C0.2.2.2.1 C0.2.2.2.2.2 M.1 (k := 13) (Or.inl (by decide)) rfl rfl rfl inlX5 17 (by decide) kw_12_15 rfl rfl hdg kk
theorem gf_RX5_142 (C0 : Cx p s m args c cc nL RX5 D cy) (M : Ws D b0 cy sb db g s H locs) (hdg : decode cc pc = .ok (.getfield 142, 3)) (kk : W p l e R s m args below meth c H locs cells slots Q (F0 m (pc + 3) ls (.int (g.1 44 0 0) :: rest))) : W p l e R s m args below meth c H locs cells slots Q (F0 m pc ls (.ref (sb 13) :: rest)) :=
  mg_get C0.1 C0.2.1 C0.2.2.2.2.1 C0.2.2.2.1 C0.2.2.2.2.2 M.1 (k := 13) (Or.inl (by decide)) rfl rfl rfl inlX5 24 (by decide) kw_17_11 rfl rfl hdg kk
theorem gf_RX5_175 (C0 : Cx p s m args c cc nL RX5 D cy) (M : Ws D b0 cy sb db g s H locs) (hdg : decode cc pc = .ok (.getfield 175, 3)) (kk : W p l e R s m args below meth c H locs cells slots Q (F0 m (pc + 3) ls (.int (g.1 39 0 0) :: rest))) : W p l e R s m args below meth c H locs cells slots Q (F0 m pc ls (.ref (sb 13) :: rest)) :=
  mg_get C0.1 C0.2.1 C0.2.2.2.2.1 C0.2.2.2.1 C0.2.2.2.2.2 M.1 (k := 13) (Or.inl (by decide)) rfl rfl rfl inlX5 19 (by decide) kw_23_18 rfl rfl hdg kk
theorem su_7 (cy : Cy) (sb db : Nat → Nat) (g : Gs) (v : Int32) : ∀ k, lvk k → va_up (cont cy sb db g) (3) (.inr (0, [.ref (sb 4), .ref (sb 5), .ref (sb 6), .ref (sb 7), .int (g.1 7 0 0)].set 4 (.int v))) k = cont cy sb db (sI g 7 0 0 v) k := by
  intro k hk
  by_cases h : k = 3
  · subst h
    rw [va_up_self]
    show _ = cnA cy sb db _ 3
    simp [cnA, sI_at, upd, List.set]
  · rw [va_up_ne _ _ h]
    exact (cont_sI (c := 7) (o := 0) hk h).symm
theorem pf_RX0_25 (C0 : Cx p s m args c cc nL RX0 D cy) (M : Ws D b0 cy sb db g s H locs) {v : Int32} {g2 : Gs} (hg : g2 = sI g 7 0 0 v) (hdg : decode cc pc = .ok (.putfield 25, 3)) (kk : ∀ (H1 : Heap) (locs1 : List Loc), Ws D b0 cy sb db g2 s H1 locs1 → W p l e R s m args below meth c H1 locs1 cells slots Q (F0 m (pc + 3) ls rest)) : W p l e R s m args below meth c H locs cells slots Q (F0 m pc ls (.int v :: .ref (sb 3) :: rest)) := by
  subst hg
  exact mg_put C0.1 C0.2.1 C0.2.2.2.2.1 C0.2.2.2.1 C0.2.2.2.2.2 M.1 M.2 (k := 3) (Or.inl (by decide)) rfl rfl rfl inlX0 tyX0 tyX0_ok nmX0 4 (by decide) kw_23_13 rfl rfl (ty := .int) (by decide +kernel) rfl rfl (Nat.le_of_ble_eq_true rfl) hdg (fun H1 locs1 M1 S1 => kk H1 locs1 ⟨mp_congr M1 (su_7 cy sb db g v), S1⟩)
theorem su_17 (cy : Cy) (sb db : Nat → Nat) (g : Gs) {n : Nat} (hB : n < 24) (v : Int32) : ∀ k, lvk k → va_up (cont cy sb db g) (400 + n) (.inr (1, [.ref (sb (100 + (n + 1))), .int (g.1 16 n 0), .int (g.1 17 n 0), .ref (db (500 + n))].set 2 (.int v))) k = cont cy sb db (sI g 17 n 0 v) k := by
  intro k hk
  by_cases h : k = 400 + n
  · subst h
    rw [va_up_self, ct_ma cy sb db _ hB]
    simp [sI_at, upd, List.set, sI_nc g 17 n 0 v (c1 := 16) (o1 := n) (by omega)]
  · rw [va_up_ne _ _ h]
    exact (cont_sI (c := 17) (o := n) hk h).symm
theorem pf_RX1_18 (C0 : Cx p s m args c cc nL RX1 D cy) (M : Ws D b0 cy sb db g s H locs) {n : Nat} (hB : n < 24) {v : Int32} {g2 : Gs} (hg : g2 = sI g 17 n 0 v) (hdg : decode cc pc = .ok (.putfield 18, 3)) (kk : ∀ (H1 : Heap) (locs1 : List Loc), Ws D b0 cy sb db g2 s H1 locs1 → W p l e R s m args below meth c H1 locs1 cells slots Q (F0 m (pc + 3) ls rest)) : W p l e R s m args below meth c H locs cells slots Q (F0 m pc ls (.int v :: .ref (sb (400 + n)) :: rest)) := by
  subst hg
  exact mg_put C0.1 C0.2.1 C0.2.2.2.2.1 C0.2.2.2.1 C0.2.2.2.2.2 M.1 M.2 (k := 400 + n) (lv_ma hB) (ad_ma sb db hB) (ct_ma cy sb db g hB) rfl inlX1 tyX1 tyX1_ok nmX1 2 (by decide) kw_3_12 rfl rfl (ty := .int) (by decide +kernel) rfl rfl (Nat.le_of_ble_eq_true rfl) hdg (fun H1 locs1 M1 S1 => kk H1 locs1 ⟨mp_congr M1 (su_17 cy sb db g hB v), S1⟩)
theorem su_4 (cy : Cy) (sb db : Nat → Nat) (g : Gs) {o : Nat} (hB : o < 25) (v : Int32) : ∀ k, lvk k → va_up (cont cy sb db g) (100 + o) (.inr (2, [.ref (sb (200 + o)), .ref (sb (300 + o)), .int (g.1 4 o 0)].set 2 (.int v))) k = cont cy sb db (sI g 4 o 0 v) k := by
  intro k hk
  by_cases h : k = 100 + o
  · subst h
    rw [va_up_self, ct_sh cy sb db _ hB]
    simp [sI_at, upd, List.set]
  · rw [va_up_ne _ _ h]
    exact (cont_sI (c := 4) (o := o) hk h).symm
theorem pf_RX2_18 (C0 : Cx p s m args c cc nL RX2 D cy) (M : Ws D b0 cy sb db g s H locs) {o : Nat} (hB : o < 25) {v : Int32} {g2 : Gs} (hg : g2 = sI g 4 o 0 v) (hdg : decode cc pc = .ok (.putfield 18, 3)) (kk : ∀ (H1 : Heap) (locs1 : List Loc), Ws D b0 cy sb db g2 s H1 locs1 → W p l e R s m args below meth c H1 locs1 cells slots Q (F0 m (pc + 3) ls rest)) : W p l e R s m args below meth c H locs cells slots Q (F0 m pc ls (.int v :: .ref (sb (100 + o)) :: rest)) := by
  subst hg
  exact mg_put C0.1 C0.2.1 C0.2.2.2.2.1 C0.2.2.2.1 C0.2.2.2.2.2 M.1 M.2 (k := 100 + o) (lv_sh hB) (ad_sh sb db hB) (ct_sh cy sb db g hB) rfl inlX2 tyX2 tyX2_ok nmX2 2 (by decide) kw_5_22 rfl rfl (ty := .int) (by decide +kernel) rfl rfl (Nat.le_of_ble_eq_true rfl) hdg (fun H1 locs1 M1 S1 => kk H1 locs1 ⟨mp_congr M1 (su_4 cy sb db g hB v), S1⟩)
theorem su_12 (cy : Cy) (sb db : Nat → Nat) (g : Gs) (v : Int32) : ∀ k, lvk k → va_up (cont cy sb db g) (8) (.inr (3, [.ref (db 9), .ref (db 10), .ref (db 11), .ref (db 12), .int (g.1 11 0 0), .int (g.1 12 0 0)].set 5 (.int v))) k = cont cy sb db (sI g 12 0 0 v) k := by
  intro k hk
  by_cases h : k = 8
  · subst h
    rw [va_up_self]
    show _ = cnA cy sb db _ 8
    simp [cnA, sI_at, upd, List.set, sI_nc g 12 0 0 v (c1 := 11) (o1 := 0) (by omega)]
  · rw [va_up_ne _ _ h]
    exact (cont_sI (c := 12) (o := 0) hk h).symm
theorem pf_RX3_26 (C0 : Cx p s m args c cc nL RX3 D cy) (M : Ws D b0 cy sb db g s H locs) {v : Int32} {g2 : Gs} (hg : g2 = sI g 12 0 0 v) (hdg : decode cc pc = .ok (.putfield 26, 3)) (kk : ∀ (H1 : Heap) (locs1 : List Loc), Ws D b0 cy sb db g2 s H1 locs1 → W p l e R s m args below meth c H1 locs1 cells slots Q (F0 m (pc + 3) ls rest)) : W p l e R s m args below meth c H locs cells slots Q (F0 m pc ls (.int v :: .ref (sb 8) :: rest)) := by
  subst hg
  exact mg_put C0.1 C0.2.1 C0.2.2.2.2.1 C0.2.2.2.1 C0.2.2.2.2.2 M.1 M.2 (k := 8) (Or.inl (by decide)) rfl rfl rfl inlX3 tyX3 tyX3_ok nmX3 5 (by decide) kw_8_11 rfl rfl (ty := .int) (by decide +kernel) rfl rfl (Nat.le_of_ble_eq_true rfl) hdg (fun H1 locs1 M1 S1 => kk H1 locs1 ⟨mp_congr M1 (su_12 cy sb db g v), S1⟩)
theorem su_11 (cy : Cy) (sb db : Nat → Nat) (g : Gs) (v : Int32) : ∀ k, lvk k → va_up (cont cy sb db g) (8) (.inr (3, [.ref (db 9), .ref (db 10), .ref (db 11), .ref (db 12), .int (g.1 11 0 0), .int (g.1 12 0 0)].set 4 (.int v))) k = cont cy sb db (sI g 11 0 0 v) k := by
  intro k hk
  by_cases h : k = 8
  · subst h
    rw [va_up_self]
    show _ = cnA cy sb db _ 8
    simp [cnA, sI_at, upd, List.set, sI_nc g 11 0 0 v (c1 := 12) (o1 := 0) (by omega)]
  · rw [va_up_ne _ _ h]
    exact (cont_sI (c := 11) (o := 0) hk h).symm
theorem pf_RX3_31 (C0 : Cx p s m args c cc nL RX3 D cy) (M : Ws D b0 cy sb db g s H locs) {v : Int32} {g2 : Gs} (hg : g2 = sI g 11 0 0 v) (hdg : decode cc pc = .ok (.putfield 31, 3)) (kk : ∀ (H1 : Heap) (locs1 : List Loc), Ws D b0 cy sb db g2 s H1 locs1 → W p l e R s m args below meth c H1 locs1 cells slots Q (F0 m (pc + 3) ls rest)) : W p l e R s m args below meth c H locs cells slots Q (F0 m pc ls (.int v :: .ref (sb 8) :: rest)) := by
  subst hg
  exact mg_put C0.1 C0.2.1 C0.2.2.2.2.1 C0.2.2.2.1 C0.2.2.2.2.2 M.1 M.2 (k := 8) (Or.inl (by decide)) rfl rfl rfl inlX3 tyX3 tyX3_ok nmX3 4 (by decide) kw_8_13 rfl rfl (ty := .int) (by decide +kernel) rfl rfl (Nat.le_of_ble_eq_true rfl) hdg (fun H1 locs1 M1 S1 => kk H1 locs1 ⟨mp_congr M1 (su_11 cy sb db g v), S1⟩)
theorem su_0 (cy : Cy) (sb db : Nat → Nat) (g : Gs) (v : Int32) : ∀ k, lvk k → va_up (cont cy sb db g) (0) (.inr (4, [.ref (sb (100 + 0)), .ref (sb 3), .ref (sb 8), .ref (sb 1), .ref (sb 2), .int (g.1 0 0 0), .int (g.1 1 0 0), .int (g.1 2 0 0)].set 5 (.int v))) k = cont cy sb db (sI g 0 0 0 v) k := by
  intro k hk
  by_cases h : k = 0
  · subst h
    rw [va_up_self]
    show _ = cnA cy sb db _ 0
    simp [cnA, sI_at, upd, List.set, sI_nc g 0 0 0 v (c1 := 1) (o1 := 0) (by omega), sI_nc g 0 0 0 v (c1 := 2) (o1 := 0) (by omega)]
  · rw [va_up_ne _ _ h]
    exact (cont_sI (c := 0) (o := 0) hk h).symm
theorem pf_RX4_40 (C0 : Cx p s m args c cc nL RX4 D cy) (M : Ws D b0 cy sb db g s H locs) {v : Int32} {g2 : Gs} (hg : g2 = sI g 0 0 0 v) (hdg : decode cc pc = .ok (.putfield 40, 3)) (kk : ∀ (H1 : Heap) (locs1 : List Loc), Ws D b0 cy sb db g2 s H1 locs1 → W p l e R s m args below meth c H1 locs1 cells slots Q (F0 m (pc + 3) ls rest)) : W p l e R s m args below meth c H locs cells slots Q (F0 m pc ls (.int v :: .ref (sb 0) :: rest)) := by
  subst hg
  exact mg_put C0.1 C0.2.1 C0.2.2.2.2.1 C0.2.2.2.1 C0.2.2.2.2.2 M.1 M.2 (k := 0) (Or.inl (by decide)) rfl rfl rfl inlX4 tyX4 tyX4_ok nmX4 5 (by decide) kw_2_5 rfl rfl (ty := .int) (by decide +kernel) rfl rfl (Nat.le_of_ble_eq_true rfl) hdg (fun H1 locs1 M1 S1 => kk H1 locs1 ⟨mp_congr M1 (su_0 cy sb db g v), S1⟩)
theorem su_1 (cy : Cy) (sb db : Nat → Nat) (g : Gs) (v : Int32) : ∀ k, lvk k → va_up (cont cy sb db g) (0) (.inr (4, [.ref (sb (100 + 0)), .ref (sb 3), .ref (sb 8), .ref (sb 1), .ref (sb 2), .int (g.1 0 0 0), .int (g.1 1 0 0), .int (g.1 2 0 0)].set 6 (.int v))) k = cont cy sb db (sI g 1 0 0 v) k := by
  intro k hk
  by_cases h : k = 0
  · subst h
    rw [va_up_self]
    show _ = cnA cy sb db _ 0
    simp [cnA, sI_at, upd, List.set, sI_nc g 1 0 0 v (c1 := 0) (o1 := 0) (by omega), sI_nc g 1 0 0 v (c1 := 2) (o1 := 0) (by omega)]
  · rw [va_up_ne _ _ h]
    exact (cont_sI (c := 1) (o := 0) hk h).symm
theorem pf_RX4_44 (C0 : Cx p s m args c cc nL RX4 D cy) (M : Ws D b0 cy sb db g s H locs) {v : Int32} {g2 : Gs} (hg : g2 = sI g 1 0 0 v) (hdg : decode cc pc = .ok (.putfield 44, 3)) (kk : ∀ (H1 : Heap) (locs1 : List Loc), Ws D b0 cy sb db g2 s H1 locs1 → W p l e R s m args below meth c H1 locs1 cells slots Q (F0 m (pc + 3) ls rest)) : W p l e R s m args below meth c H locs cells slots Q (F0 m pc ls (.int v :: .ref (sb 0) :: rest)) := by
  subst hg
  exact mg_put C0.1 C0.2.1 C0.2.2.2.2.1 C0.2.2.2.1 C0.2.2.2.2.2 M.1 M.2 (k := 0) (Or.inl (by decide)) rfl rfl rfl inlX4 tyX4 tyX4_ok nmX4 6 (by decide) kw_2_6 rfl rfl (ty := .int) (by decide +kernel) rfl rfl (Nat.le_of_ble_eq_true rfl) hdg (fun H1 locs1 M1 S1 => kk H1 locs1 ⟨mp_congr M1 (su_1 cy sb db g v), S1⟩)
theorem su_2 (cy : Cy) (sb db : Nat → Nat) (g : Gs) (v : Int32) : ∀ k, lvk k → va_up (cont cy sb db g) (0) (.inr (4, [.ref (sb (100 + 0)), .ref (sb 3), .ref (sb 8), .ref (sb 1), .ref (sb 2), .int (g.1 0 0 0), .int (g.1 1 0 0), .int (g.1 2 0 0)].set 7 (.int v))) k = cont cy sb db (sI g 2 0 0 v) k := by
  intro k hk
  by_cases h : k = 0
  · subst h
    rw [va_up_self]
    show _ = cnA cy sb db _ 0
    simp [cnA, sI_at, upd, List.set, sI_nc g 2 0 0 v (c1 := 0) (o1 := 0) (by omega), sI_nc g 2 0 0 v (c1 := 1) (o1 := 0) (by omega)]
  · rw [va_up_ne _ _ h]
    exact (cont_sI (c := 2) (o := 0) hk h).symm
theorem pf_RX4_47 (C0 : Cx p s m args c cc nL RX4 D cy) (M : Ws D b0 cy sb db g s H locs) {v : Int32} {g2 : Gs} (hg : g2 = sI g 2 0 0 v) (hdg : decode cc pc = .ok (.putfield 47, 3)) (kk : ∀ (H1 : Heap) (locs1 : List Loc), Ws D b0 cy sb db g2 s H1 locs1 → W p l e R s m args below meth c H1 locs1 cells slots Q (F0 m (pc + 3) ls rest)) : W p l e R s m args below meth c H locs cells slots Q (F0 m pc ls (.int v :: .ref (sb 0) :: rest)) := by
  subst hg
  exact mg_put C0.1 C0.2.1 C0.2.2.2.2.1 C0.2.2.2.1 C0.2.2.2.2.2 M.1 M.2 (k := 0) (Or.inl (by decide)) rfl rfl rfl inlX4 tyX4 tyX4_ok nmX4 7 (by decide) kw_2_7 rfl rfl (ty := .int) (by decide +kernel) rfl rfl (Nat.le_of_ble_eq_true rfl) hdg (fun H1 locs1 M1 S1 => kk H1 locs1 ⟨mp_congr M1 (su_2 cy sb db g v), S1⟩)
theorem pf_RX4_51 (C0 : Cx p s m args c cc nL RX4 D cy) (M : Ws D b0 cy sb db g s H locs) {o : Nat} (hB : o < 25) {v : Int32} {g2 : Gs} (hg : g2 = sI g 4 o 0 v) (hdg : decode cc pc = .ok (.putfield 51, 3)) (kk : ∀ (H1 : Heap) (locs1 : List Loc), Ws D b0 cy sb db g2 s H1 locs1 → W p l e R s m args below meth c H1 locs1 cells slots Q (F0 m (pc + 3) ls rest)) : W p l e R s m args below meth c H locs cells slots Q (F0 m pc ls (.int v :: .ref (sb (100 + o)) :: rest)) := by
  subst hg
  exact mg_put C0.1 C0.2.1 C0.2.2.2.2.1 C0.2.2.2.1 C0.2.2.2.2.2 M.1 M.2 (k := 100 + o) (lv_sh hB) (ad_sh sb db hB) (ct_sh cy sb db g hB) rfl inlX2 tyX2 tyX2_ok nmX2 2 (by decide) kw_5_9 rfl rfl (ty := .int) (by decide +kernel) rfl rfl (Nat.le_of_ble_eq_true rfl) hdg (fun H1 locs1 M1 S1 => kk H1 locs1 ⟨mp_congr M1 (su_4 cy sb db g hB v), S1⟩)
theorem pf_RX4_100 (C0 : Cx p s m args c cc nL RX4 D cy) (M : Ws D b0 cy sb db g s H locs) {n : Nat} (hB : n < 24) {v : Int32} {g2 : Gs} (hg : g2 = sI g 17 n 0 v) (hdg : decode cc pc = .ok (.putfield 100, 3)) (kk : ∀ (H1 : Heap) (locs1 : List Loc), Ws D b0 cy sb db g2 s H1 locs1 → W p l e R s m args below meth c H1 locs1 cells slots Q (F0 m (pc + 3) ls rest)) : W p l e R s m args below meth c H locs cells slots Q (F0 m pc ls (.int v :: .ref (sb (400 + n)) :: rest)) := by
  subst hg
  exact mg_put C0.1 C0.2.1 C0.2.2.2.2.1 C0.2.2.2.1 C0.2.2.2.2.2 M.1 M.2 (k := 400 + n) (lv_ma hB) (ad_ma sb db hB) (ct_ma cy sb db g hB) rfl inlX1 tyX1 tyX1_ok nmX1 2 (by decide) kw_10_12 rfl rfl (ty := .int) (by decide +kernel) rfl rfl (Nat.le_of_ble_eq_true rfl) hdg (fun H1 locs1 M1 S1 => kk H1 locs1 ⟨mp_congr M1 (su_17 cy sb db g hB v), S1⟩)
theorem su_16 (cy : Cy) (sb db : Nat → Nat) (g : Gs) {n : Nat} (hB : n < 24) (v : Int32) : ∀ k, lvk k → va_up (cont cy sb db g) (400 + n) (.inr (1, [.ref (sb (100 + (n + 1))), .int (g.1 16 n 0), .int (g.1 17 n 0), .ref (db (500 + n))].set 1 (.int v))) k = cont cy sb db (sI g 16 n 0 v) k := by
  intro k hk
  by_cases h : k = 400 + n
  · subst h
    rw [va_up_self, ct_ma cy sb db _ hB]
    simp [sI_at, upd, List.set, sI_nc g 16 n 0 v (c1 := 17) (o1 := n) (by omega)]
  · rw [va_up_ne _ _ h]
    exact (cont_sI (c := 16) (o := n) hk h).symm
theorem pf_RX4_106 (C0 : Cx p s m args c cc nL RX4 D cy) (M : Ws D b0 cy sb db g s H locs) {n : Nat} (hB : n < 24) {v : Int32} {g2 : Gs} (hg : g2 = sI g 16 n 0 v) (hdg : decode cc pc = .ok (.putfield 106, 3)) (kk : ∀ (H1 : Heap) (locs1 : List Loc), Ws D b0 cy sb db g2 s H1 locs1 → W p l e R s m args below meth c H1 locs1 cells slots Q (F0 m (pc + 3) ls rest)) : W p l e R s m args below meth c H locs cells slots Q (F0 m pc ls (.int v :: .ref (sb (400 + n)) :: rest)) := by
  subst hg
  exact mg_put C0.1 C0.2.1 C0.2.2.2.2.1 C0.2.2.2.1 C0.2.2.2.2.2 M.1 M.2 (k := 400 + n) (lv_ma hB) (ad_ma sb db hB) (ct_ma cy sb db g hB) rfl inlX1 tyX1 tyX1_ok nmX1 1 (by decide) kw_10_11 rfl rfl (ty := .int) (by decide +kernel) rfl rfl (Nat.le_of_ble_eq_true rfl) hdg (fun H1 locs1 M1 S1 => kk H1 locs1 ⟨mp_congr M1 (su_16 cy sb db g hB v), S1⟩)
theorem pf_RX4_185 (C0 : Cx p s m args c cc nL RX4 D cy) (M : Ws D b0 cy sb db g s H locs) {v : Int32} {g2 : Gs} (hg : g2 = sI g 7 0 0 v) (hdg : decode cc pc = .ok (.putfield 185, 3)) (kk : ∀ (H1 : Heap) (locs1 : List Loc), Ws D b0 cy sb db g2 s H1 locs1 → W p l e R s m args below meth c H1 locs1 cells slots Q (F0 m (pc + 3) ls rest)) : W p l e R s m args below meth c H locs cells slots Q (F0 m pc ls (.int v :: .ref (sb 3) :: rest)) := by
  subst hg
  exact mg_put C0.1 C0.2.1 C0.2.2.2.2.1 C0.2.2.2.1 C0.2.2.2.2.2 M.1 M.2 (k := 3) (Or.inl (by decide)) rfl rfl rfl inlX0 tyX0 tyX0_ok nmX0 4 (by decide) kw_23_8 rfl rfl (ty := .int) (by decide +kernel) rfl rfl (Nat.le_of_ble_eq_true rfl) hdg (fun H1 locs1 M1 S1 => kk H1 locs1 ⟨mp_congr M1 (su_7 cy sb db g v), S1⟩)
theorem su_21 (cy : Cy) (sb db : Nat → Nat) (g : Gs) (v : Int32) : ∀ k, lvk k → va_up (cont cy sb db g) (13) (.inr (5, [.int (g.1 20 0 0), .int (g.1 21 0 0), .int (g.1 22 0 0), .ref (sb 14), .ref (sb 15), .int (g.1 25 0 0), .ref (sb 16), .ref (sb 17), .ref (sb 18), .ref (sb 19), .ref (sb 20), .int (g.1 31 0 0), .ref (sb 21), .ref (sb 22), .int (g.1 34 0 0), .ref (sb 23), .ref (sb 24), .int (g.1 37 0 0), .ref (sb 25), .int (g.1 39 0 0), .ref (sb 26), .ref (sb 27), .ref (sb 28), .ref (sb 29), .int (g.1 44 0 0)].set 1 (.int v))) k = cont cy sb db (sI g 21 0 0 v) k := by
  intro k hk
  by_cases h : k = 13
  · subst h
    rw [va_up_self]
    show _ = cnA cy sb db _ 13
    simp [cnA, sI_at, upd, List.set, sI_nc g 21 0 0 v (c1 := 20) (o1 := 0) (by omega), sI_nc g 21 0 0 v (c1 := 22) (o1 := 0) (by omega), sI_nc g 21 0 0 v (c1 := 25) (o1 := 0) (by omega), sI_nc g 21 0 0 v (c1 := 31) (o1 := 0) (by omega), sI_nc g 21 0 0 v (c1 := 34) (o1 := 0) (by omega), sI_nc g 21 0 0 v (c1 := 37) (o1 := 0) (by omega), sI_nc g 21 0 0 v (c1 := 39) (o1 := 0) (by omega), sI_nc g 21 0 0 v (c1 := 44) (o1 := 0) (by omega)]
  · rw [va_up_ne _ _ h]
    exact (cont_sI (c := 21) (o := 0) hk h).symm
theorem pf_RX5_9 (C0 : Cx p s m args c cc nL RX5 D cy) (M : Ws D b0 cy sb db g s H locs) {v : Int32} {g2 : Gs} (hg : g2 = sI g 21 0 0 v) (hdg : decode cc pc = .ok (.putfield 9, 3)) (kk : ∀ (H1 : Heap) (locs1 : List Loc), Ws D b0 cy sb db g2 s H1 locs1 → W p l e R s m args below meth c H1 locs1 cells slots Q (F0 m (pc + 3) ls rest)) : W p l e R s m args below meth c H locs cells slots Q (F0 m pc ls (.int v :: .ref (sb 13) :: rest)) := by
  subst hg
  exact mg_put C0.1 C0.2.1 C0.2.2.2.2.1 C0.2.2.2.1 C0.2.2.2.2.2 M.1 M.2 (k := 13) (Or.inl (by decide)) rfl rfl rfl inlX5 tyX5 tyX5_ok nmX5 1 (by decide) kw_3_18 rfl rfl (ty := .int) (by decide +kernel) rfl rfl (Nat.le_of_ble_eq_true rfl) hdg (fun H1 locs1 M1 S1 => kk H1 locs1 ⟨mp_congr M1 (su_21 cy sb db g v), S1⟩)
theorem su_20 (cy : Cy) (sb db : Nat → Nat) (g : Gs) (v : Int32) : ∀ k, lvk k → va_up (cont cy sb db g) (13) (.inr (5, [.int (g.1 20 0 0), .int (g.1 21 0 0), .int (g.1 22 0 0), .ref (sb 14), .ref (sb 15), .int (g.1 25 0 0), .ref (sb 16), .ref (sb 17), .ref (sb 18), .ref (sb 19), .ref (sb 20), .int (g.1 31 0 0), .ref (sb 21), .ref (sb 22), .int (g.1 34 0 0), .ref (sb 23), .ref (sb 24), .int (g.1 37 0 0), .ref (sb 25), .int (g.1 39 0 0), .ref (sb 26), .ref (sb 27), .ref (sb 28), .ref (sb 29), .int (g.1 44 0 0)].set 0 (.int v))) k = cont cy sb db (sI g 20 0 0 v) k := by
  intro k hk
  by_cases h : k = 13
  · subst h
    rw [va_up_self]
    show _ = cnA cy sb db _ 13
    simp [cnA, sI_at, upd, List.set, sI_nc g 20 0 0 v (c1 := 21) (o1 := 0) (by omega), sI_nc g 20 0 0 v (c1 := 22) (o1 := 0) (by omega), sI_nc g 20 0 0 v (c1 := 25) (o1 := 0) (by omega), sI_nc g 20 0 0 v (c1 := 31) (o1 := 0) (by omega), sI_nc g 20 0 0 v (c1 := 34) (o1 := 0) (by omega), sI_nc g 20 0 0 v (c1 := 37) (o1 := 0) (by omega), sI_nc g 20 0 0 v (c1 := 39) (o1 := 0) (by omega), sI_nc g 20 0 0 v (c1 := 44) (o1 := 0) (by omega)]
  · rw [va_up_ne _ _ h]
    exact (cont_sI (c := 20) (o := 0) hk h).symm
theorem pf_RX5_65 (C0 : Cx p s m args c cc nL RX5 D cy) (M : Ws D b0 cy sb db g s H locs) {v : Int32} {g2 : Gs} (hg : g2 = sI g 20 0 0 v) (hdg : decode cc pc = .ok (.putfield 65, 3)) (kk : ∀ (H1 : Heap) (locs1 : List Loc), Ws D b0 cy sb db g2 s H1 locs1 → W p l e R s m args below meth c H1 locs1 cells slots Q (F0 m (pc + 3) ls rest)) : W p l e R s m args below meth c H locs cells slots Q (F0 m pc ls (.int v :: .ref (sb 13) :: rest)) := by
  subst hg
  exact mg_put C0.1 C0.2.1 C0.2.2.2.2.1 C0.2.2.2.1 C0.2.2.2.2.2 M.1 M.2 (k := 13) (Or.inl (by decide)) rfl rfl rfl inlX5 tyX5 tyX5_ok nmX5 0 (by decide) kw_4_20 rfl rfl (ty := .int) (by decide +kernel) rfl rfl (Nat.le_of_ble_eq_true rfl) hdg (fun H1 locs1 M1 S1 => kk H1 locs1 ⟨mp_congr M1 (su_20 cy sb db g v), S1⟩)
theorem su_22 (cy : Cy) (sb db : Nat → Nat) (g : Gs) (v : Int32) : ∀ k, lvk k → va_up (cont cy sb db g) (13) (.inr (5, [.int (g.1 20 0 0), .int (g.1 21 0 0), .int (g.1 22 0 0), .ref (sb 14), .ref (sb 15), .int (g.1 25 0 0), .ref (sb 16), .ref (sb 17), .ref (sb 18), .ref (sb 19), .ref (sb 20), .int (g.1 31 0 0), .ref (sb 21), .ref (sb 22), .int (g.1 34 0 0), .ref (sb 23), .ref (sb 24), .int (g.1 37 0 0), .ref (sb 25), .int (g.1 39 0 0), .ref (sb 26), .ref (sb 27), .ref (sb 28), .ref (sb 29), .int (g.1 44 0 0)].set 2 (.int v))) k = cont cy sb db (sI g 22 0 0 v) k := by
  intro k hk
  by_cases h : k = 13
  · subst h
    rw [va_up_self]
    show _ = cnA cy sb db _ 13
    simp [cnA, sI_at, upd, List.set, sI_nc g 22 0 0 v (c1 := 20) (o1 := 0) (by omega), sI_nc g 22 0 0 v (c1 := 21) (o1 := 0) (by omega), sI_nc g 22 0 0 v (c1 := 25) (o1 := 0) (by omega), sI_nc g 22 0 0 v (c1 := 31) (o1 := 0) (by omega), sI_nc g 22 0 0 v (c1 := 34) (o1 := 0) (by omega), sI_nc g 22 0 0 v (c1 := 37) (o1 := 0) (by omega), sI_nc g 22 0 0 v (c1 := 39) (o1 := 0) (by omega), sI_nc g 22 0 0 v (c1 := 44) (o1 := 0) (by omega)]
  · rw [va_up_ne _ _ h]
    exact (cont_sI (c := 22) (o := 0) hk h).symm
theorem pf_RX5_72 (C0 : Cx p s m args c cc nL RX5 D cy) (M : Ws D b0 cy sb db g s H locs) {v : Int32} {g2 : Gs} (hg : g2 = sI g 22 0 0 v) (hdg : decode cc pc = .ok (.putfield 72, 3)) (kk : ∀ (H1 : Heap) (locs1 : List Loc), Ws D b0 cy sb db g2 s H1 locs1 → W p l e R s m args below meth c H1 locs1 cells slots Q (F0 m (pc + 3) ls rest)) : W p l e R s m args below meth c H locs cells slots Q (F0 m pc ls (.int v :: .ref (sb 13) :: rest)) := by
  subst hg
  exact mg_put C0.1 C0.2.1 C0.2.2.2.2.1 C0.2.2.2.1 C0.2.2.2.2.2 M.1 M.2 (k := 13) (Or.inl (by decide)) rfl rfl rfl inlX5 tyX5 tyX5_ok nmX5 2 (by decide) kw_6_7 rfl rfl (ty := .int) (by decide +kernel) rfl rfl (Nat.le_of_ble_eq_true rfl) hdg (fun H1 locs1 M1 S1 => kk H1 locs1 ⟨mp_congr M1 (su_22 cy sb db g v), S1⟩)
theorem su_31 (cy : Cy) (sb db : Nat → Nat) (g : Gs) (v : Int32) : ∀ k, lvk k → va_up (cont cy sb db g) (13) (.inr (5, [.int (g.1 20 0 0), .int (g.1 21 0 0), .int (g.1 22 0 0), .ref (sb 14), .ref (sb 15), .int (g.1 25 0 0), .ref (sb 16), .ref (sb 17), .ref (sb 18), .ref (sb 19), .ref (sb 20), .int (g.1 31 0 0), .ref (sb 21), .ref (sb 22), .int (g.1 34 0 0), .ref (sb 23), .ref (sb 24), .int (g.1 37 0 0), .ref (sb 25), .int (g.1 39 0 0), .ref (sb 26), .ref (sb 27), .ref (sb 28), .ref (sb 29), .int (g.1 44 0 0)].set 11 (.int v))) k = cont cy sb db (sI g 31 0 0 v) k := by
  intro k hk
  by_cases h : k = 13
  · subst h
    rw [va_up_self]
    show _ = cnA cy sb db _ 13
    simp [cnA, sI_at, upd, List.set, sI_nc g 31 0 0 v (c1 := 20) (o1 := 0) (by omega), sI_nc g 31 0 0 v (c1 := 21) (o1 := 0) (by omega), sI_nc g 31 0 0 v (c1 := 22) (o1 := 0) (by omega), sI_nc g 31 0 0 v (c1 := 25) (o1 := 0) (by omega), sI_nc g 31 0 0 v (c1 := 34) (o1 := 0) (by omega), sI_nc g 31 0 0 v (c1 := 37) (o1 := 0) (by omega), sI_nc g 31 0 0 v (c1 := 39) (o1 := 0) (by omega), sI_nc g 31 0 0 v (c1 := 44) (o1 := 0) (by omega)]
  · rw [va_up_ne _ _ h]
    exact (cont_sI (c := 31) (o := 0) hk h).symm
theorem pf_RX5_86 (C0 : Cx p s m args c cc nL RX5 D cy) (M : Ws D b0 cy sb db g s H locs) {v : Int32} {g2 : Gs} (hg : g2 = sI g 31 0 0 v) (hdg : decode cc pc = .ok (.putfield 86, 3)) (kk : ∀ (H1 : Heap) (locs1 : List Loc), Ws D b0 cy sb db g2 s H1 locs1 → W p l e R s m args below meth c H1 locs1 cells slots Q (F0 m (pc + 3) ls rest)) : W p l e R s m args below meth c H locs cells slots Q (F0 m pc ls (.int v :: .ref (sb 13) :: rest)) := by
  subst hg
  exact mg_put C0.1 C0.2.1 C0.2.2.2.2.1 C0.2.2.2.1 C0.2.2.2.2.2 M.1 M.2 (k := 13) (Or.inl (by decide)) rfl rfl rfl inlX5 tyX5 tyX5_ok nmX5 11 (by decide) kw_13_0 rfl rfl (ty := .int) (by decide +kernel) rfl rfl (Nat.le_of_ble_eq_true rfl) hdg (fun H1 locs1 M1 S1 => kk H1 locs1 ⟨mp_congr M1 (su_31 cy sb db g v), S1⟩)
theorem su_34 (cy : Cy) (sb db : Nat → Nat) (g : Gs) (v : Int32) : ∀ k, lvk k → va_up (cont cy sb db g) (13) (.inr (5, [.int (g.1 20 0 0), .int (g.1 21 0 0), .int (g.1 22 0 0), .ref (sb 14), .ref (sb 15), .int (g.1 25 0 0), .ref (sb 16), .ref (sb 17), .ref (sb 18), .ref (sb 19), .ref (sb 20), .int (g.1 31 0 0), .ref (sb 21), .ref (sb 22), .int (g.1 34 0 0), .ref (sb 23), .ref (sb 24), .int (g.1 37 0 0), .ref (sb 25), .int (g.1 39 0 0), .ref (sb 26), .ref (sb 27), .ref (sb 28), .ref (sb 29), .int (g.1 44 0 0)].set 14 (.int v))) k = cont cy sb db (sI g 34 0 0 v) k := by
  intro k hk
  by_cases h : k = 13
  · subst h
    rw [va_up_self]
    show _ = cnA cy sb db _ 13
    simp [cnA, sI_at, upd, List.set, sI_nc g 34 0 0 v (c1 := 20) (o1 := 0) (by omega), sI_nc g 34 0 0 v (c1 := 21) (o1 := 0) (by omega), sI_nc g 34 0 0 v (c1 := 22) (o1 := 0) (by omega), sI_nc g 34 0 0 v (c1 := 25) (o1 := 0) (by omega), sI_nc g 34 0 0 v (c1 := 31) (o1 := 0) (by omega), sI_nc g 34 0 0 v (c1 := 37) (o1 := 0) (by omega), sI_nc g 34 0 0 v (c1 := 39) (o1 := 0) (by omega), sI_nc g 34 0 0 v (c1 := 44) (o1 := 0) (by omega)]
  · rw [va_up_ne _ _ h]
    exact (cont_sI (c := 34) (o := 0) hk h).symm
theorem pf_RX5_89 (C0 : Cx p s m args c cc nL RX5 D cy) (M : Ws D b0 cy sb db g s H locs) {v : Int32} {g2 : Gs} (hg : g2 = sI g 34 0 0 v) (hdg : decode cc pc = .ok (.putfield 89, 3)) (kk : ∀ (H1 : Heap) (locs1 : List Loc), Ws D b0 cy sb db g2 s H1 locs1 → W p l e R s m args below meth c H1 locs1 cells slots Q (F0 m (pc + 3) ls rest)) : W p l e R s m args below meth c H locs cells slots Q (F0 m pc ls (.int v :: .ref (sb 13) :: rest)) := by
  subst hg
  exact mg_put C0.1 C0.2.1 C0.2.2.2.2.1 C0.2.2.2.1 C0.2.2.2.2.2 M.1 M.2 (k := 13) (Or.inl (by decide)) rfl rfl rfl inlX5 tyX5 tyX5_ok nmX5 14 (by decide) kw_13_1 rfl rfl (ty := .int) (by decide +kernel) rfl rfl (Nat.le_of_ble_eq_true rfl) hdg (fun H1 locs1 M1 S1 => kk H1 locs1 ⟨mp_congr M1 (su_34 cy sb db g v), S1⟩)
theorem su_25 (cy : Cy) (sb db : Nat → Nat) (g : Gs) (v : Int32) : ∀ k, lvk k → va_up (cont cy sb db g) (13) (.inr (5, [.int (g.1 20 0 0), .int (g.1 21 0 0), .int (g.1 22 0 0), .ref (sb 14), .ref (sb 15), .int (g.1 25 0 0), .ref (sb 16), .ref (sb 17), .ref (sb 18), .ref (sb 19), .ref (sb 20), .int (g.1 31 0 0), .ref (sb 21), .ref (sb 22), .int (g.1 34 0 0), .ref (sb 23), .ref (sb 24), .int (g.1 37 0 0), .ref (sb 25), .int (g.1 39 0 0), .ref (sb 26), .ref (sb 27), .ref (sb 28), .ref (sb 29), .int (g.1 44 0 0)].set 5 (.int v))) k = cont cy sb db (sI g 25 0 0 v) k := by
  intro k hk
  by_cases h : k = 13
  · subst h
    rw [va_up_self]
    show _ = cnA cy sb db _ 13
    simp [cnA, sI_at, upd, List.set, sI_nc g 25 0 0 v (c1 := 20) (o1 := 0) (by omega), sI_nc g 25 0 0 v (c1 := 21) (o1 := 0) (by omega), sI_nc g 25 0 0 v (c1 := 22) (o1 := 0) (by omega), sI_nc g 25 0 0 v (c1 := 31) (o1 := 0) (by omega), sI_nc g 25 0 0 v (c1 := 34) (o1 := 0) (by omega), sI_nc g 25 0 0 v (c1 := 37) (o1 := 0) (by omega), sI_nc g 25 0 0 v (c1 := 39) (o1 := 0) (by omega), sI_nc g 25 0 0 v (c1 := 44) (o1 := 0) (by omega)]
  · rw [va_up_ne _ _ h]
    exact (cont_sI (c := 25) (o := 0) hk h).symm
theorem pf_RX5_98 (C0 : Cx p s m args c cc nL RX5 D cy) (M : Ws D b0 cy sb db g s H locs) {v : Int32} {g2 : Gs} (hg : g2 = sI g 25 0 0 v) (hdg : decode cc pc = .ok (.putfield 98, 3)) (kk : ∀ (H1 : Heap) (locs1 : List Loc), Ws D b0 cy sb db g2 s H1 locs1 → W p l e R s m args below meth c H1 locs1 cells slots Q (F0 m (pc + 3) ls rest)) : W p l e R s m args below meth c H locs cells slots Q (F0 m pc ls (.int v :: .ref (sb 13) :: rest)) := by
  subst hg
  exact mg_put C0.1 C0.2.1 C0.2.2.2.2.1 C0.2.2.2.1 C0.2.2.2.2.2 M.1 M.2 (k := 13) (Or.inl (by decide)) rfl rfl rfl inlX5 tyX5 tyX5_ok nmX5 5 (by decide) kw_11_19 rfl rfl (ty := .int) (by decide +kernel) rfl rfl (Nat.le_of_ble_eq_true rfl) hdg (fun H1 locs1 M1 S1 => kk H1 locs1 ⟨mp_congr M1 (su_25 cy sb db g v), S1⟩)
theorem su_37 (cy : Cy) (sb db : Nat → Nat) (g : Gs) (v : Int32) : ∀ k, lvk k → va_up (cont cy sb db g) (13) (.inr (5, [.int (g.1 20 0 0), .int (g.1 21 0 0), .int (g.1 22 0 0), .ref (sb 14), .ref (sb 15), .int (g.1 25 0 0), .ref (sb 16), .ref (sb 17), .ref (sb 18), .ref (sb 19), .ref (sb 20), .int (g.1 31 0 0), .ref (sb 21), .ref (sb 22), .int (g.1 34 0 0), .ref (sb 23), .ref (sb 24), .int (g.1 37 0 0), .ref (sb 25), .int (g.1 39 0 0), .ref (sb 26), .ref (sb 27), .ref (sb 28), .ref (sb 29), .int (g.1 44 0 0)].set 17 (.int v))) k = cont cy sb db (sI g 37 0 0 v) k := by
  intro k hk
  by_cases h : k = 13
  · subst h
    rw [va_up_self]
    show _ = cnA cy sb db _ 13
    simp [cnA, sI_at, upd, List.set, sI_nc g 37 0 0 v (c1 := 20) (o1 := 0) (by omega), sI_nc g 37 0 0 v (c1 := 21) (o1 := 0) (by omega), sI_nc g 37 0 0 v (c1 := 22) (o1 := 0) (by omega), sI_nc g 37 0 0 v (c1 := 25) (o1 := 0) (by omega), sI_nc g 37 0 0 v (c1 := 31) (o1 := 0) (by omega), sI_nc g 37 0 0 v (c1 := 34) (o1 := 0) (by omega), sI_nc g 37 0 0 v (c1 := 39) (o1 := 0) (by omega), sI_nc g 37 0 0 v (c1 := 44) (o1 := 0) (by omega)]
  · rw [va_up_ne _ _ h]
    exact (cont_sI (c := 37) (o := 0) hk h).symm
theorem pf_RX5_105 (C0 : Cx p s m args c cc nL RX5 D cy) (M : Ws D b0 cy sb db g s H locs) {v : Int32} {g2 : Gs} (hg : g2 = sI g 37 0 0 v) (hdg : decode cc pc = .ok (.putfield 105, 3)) (kk : ∀ (H1 : Heap) (locs1 : List Loc), Ws D b0 cy sb db g2 s H1 locs1 → W p l e R s m args below meth c H1 locs1 cells slots Q (F0 m (pc + 3) ls rest)) : W p l e R s m args below meth c H locs cells slots Q (F0 m pc ls (.int v :: .ref (sb 13) :: rest)) := by
  subst hg
  exact mg_put C0.1 C0.2.1 C0.2.2.2.2.1 C0.2.2.2.1 C0.2.2.2.2.2 M.1 M.2 (k := 13) (Or.inl (by decide)) rfl rfl rfl inlX5 tyX5 tyX5_ok nmX5 17 (by decide) kw_12_15 rfl rfl (ty := .int) (by decide +kernel) rfl rfl (Nat.le_of_ble_eq_true rfl) hdg (fun H1 locs1 M1 S1 => kk H1 locs1 ⟨mp_congr M1 (su_37 cy sb db g v), S1⟩)
theorem su_44 (cy : Cy) (sb db : Nat → Nat) (g : Gs) (v : Int32) : ∀ k, lvk k → va_up (cont cy sb db g) (13) (.inr (5, [.int (g.1 20 0 0), .int (g.1 21 0 0), .int (g.1 22 0 0), .ref (sb 14), .ref (sb 15), .int (g.1 25 0 0), .ref (sb 16), .ref (sb 17), .ref (sb 18), .ref (sb 19), .ref (sb 20), .int (g.1 31 0 0), .ref (sb 21), .ref (sb 22), .int (g.1 34 0 0), .ref (sb 23), .ref (sb 24), .int (g.1 37 0 0), .ref (sb 25), .int (g.1 39 0 0), .ref (sb 26), .ref (sb 27), .ref (sb 28), .ref (sb 29), .int (g.1 44 0 0)].set 24 (.int v))) k = cont cy sb db (sI g 44 0 0 v) k := by
  intro k hk
  by_cases h : k = 13
  · subst h
    rw [va_up_self]
    show _ = cnA cy sb db _ 13
    simp [cnA, sI_at, upd, List.set, sI_nc g 44 0 0 v (c1 := 20) (o1 := 0) (by omega), sI_nc g 44 0 0 v (c1 := 21) (o1 := 0) (by omega), sI_nc g 44 0 0 v (c1 := 22) (o1 := 0) (by omega), sI_nc g 44 0 0 v (c1 := 25) (o1 := 0) (by omega), sI_nc g 44 0 0 v (c1 := 31) (o1 := 0) (by omega), sI_nc g 44 0 0 v (c1 := 34) (o1 := 0) (by omega), sI_nc g 44 0 0 v (c1 := 37) (o1 := 0) (by omega), sI_nc g 44 0 0 v (c1 := 39) (o1 := 0) (by omega)]
  · rw [va_up_ne _ _ h]
    exact (cont_sI (c := 44) (o := 0) hk h).symm
theorem pf_RX5_142 (C0 : Cx p s m args c cc nL RX5 D cy) (M : Ws D b0 cy sb db g s H locs) {v : Int32} {g2 : Gs} (hg : g2 = sI g 44 0 0 v) (hdg : decode cc pc = .ok (.putfield 142, 3)) (kk : ∀ (H1 : Heap) (locs1 : List Loc), Ws D b0 cy sb db g2 s H1 locs1 → W p l e R s m args below meth c H1 locs1 cells slots Q (F0 m (pc + 3) ls rest)) : W p l e R s m args below meth c H locs cells slots Q (F0 m pc ls (.int v :: .ref (sb 13) :: rest)) := by
  subst hg
  exact mg_put C0.1 C0.2.1 C0.2.2.2.2.1 C0.2.2.2.1 C0.2.2.2.2.2 M.1 M.2 (k := 13) (Or.inl (by decide)) rfl rfl rfl inlX5 tyX5 tyX5_ok nmX5 24 (by decide) kw_17_11 rfl rfl (ty := .int) (by decide +kernel) rfl rfl (Nat.le_of_ble_eq_true rfl) hdg (fun H1 locs1 M1 S1 => kk H1 locs1 ⟨mp_congr M1 (su_44 cy sb db g v), S1⟩)
theorem su_39 (cy : Cy) (sb db : Nat → Nat) (g : Gs) (v : Int32) : ∀ k, lvk k → va_up (cont cy sb db g) (13) (.inr (5, [.int (g.1 20 0 0), .int (g.1 21 0 0), .int (g.1 22 0 0), .ref (sb 14), .ref (sb 15), .int (g.1 25 0 0), .ref (sb 16), .ref (sb 17), .ref (sb 18), .ref (sb 19), .ref (sb 20), .int (g.1 31 0 0), .ref (sb 21), .ref (sb 22), .int (g.1 34 0 0), .ref (sb 23), .ref (sb 24), .int (g.1 37 0 0), .ref (sb 25), .int (g.1 39 0 0), .ref (sb 26), .ref (sb 27), .ref (sb 28), .ref (sb 29), .int (g.1 44 0 0)].set 19 (.int v))) k = cont cy sb db (sI g 39 0 0 v) k := by
  intro k hk
  by_cases h : k = 13
  · subst h
    rw [va_up_self]
    show _ = cnA cy sb db _ 13
    simp [cnA, sI_at, upd, List.set, sI_nc g 39 0 0 v (c1 := 20) (o1 := 0) (by omega), sI_nc g 39 0 0 v (c1 := 21) (o1 := 0) (by omega), sI_nc g 39 0 0 v (c1 := 22) (o1 := 0) (by omega), sI_nc g 39 0 0 v (c1 := 25) (o1 := 0) (by omega), sI_nc g 39 0 0 v (c1 := 31) (o1 := 0) (by omega), sI_nc g 39 0 0 v (c1 := 34) (o1 := 0) (by omega), sI_nc g 39 0 0 v (c1 := 37) (o1 := 0) (by omega), sI_nc g 39 0 0 v (c1 := 44) (o1 := 0) (by omega)]
  · rw [va_up_ne _ _ h]
    exact (cont_sI (c := 39) (o := 0) hk h).symm
theorem pf_RX5_175 (C0 : Cx p s m args c cc nL RX5 D cy) (M : Ws D b0 cy sb db g s H locs) {v : Int32} {g2 : Gs} (hg : g2 = sI g 39 0 0 v) (hdg : decode cc pc = .ok (.putfield 175, 3)) (kk : ∀ (H1 : Heap) (locs1 : List Loc), Ws D b0 cy sb db g2 s H1 locs1 → W p l e R s m args below meth c H1 locs1 cells slots Q (F0 m (pc + 3) ls rest)) : W p l e R s m args below meth c H locs cells slots Q (F0 m pc ls (.int v :: .ref (sb 13) :: rest)) := by
  subst hg
  exact mg_put C0.1 C0.2.1 C0.2.2.2.2.1 C0.2.2.2.1 C0.2.2.2.2.2 M.1 M.2 (k := 13) (Or.inl (by decide)) rfl rfl rfl inlX5 tyX5 tyX5_ok nmX5 19 (by decide) kw_23_18 rfl rfl (ty := .int) (by decide +kernel) rfl rfl (Nat.le_of_ble_eq_true rfl) hdg (fun H1 locs1 M1 S1 => kk H1 locs1 ⟨mp_congr M1 (su_39 cy sb db g v), S1⟩)
theorem al_SRC (C0 : Cx p s m args c cc nL own D cy) (M : Ws D b0 cy sb db g s H locs) {i : Int32} (hin : vp_in i 500) (hdg : decode cc pc = .ok (.iaload, 1)) (kk : W p l e R s m args below meth c H locs cells slots Q (F0 m (pc + 1) ls (.int (g.1 3 0 i.toNatClampNeg) :: rest))) : W p l e R s m args below meth c H locs cells slots Q (F0 m pc ls (.int i :: .ref (sb 2) :: rest)) :=
  mg_iald C0.1 C0.2.1 C0.2.2.2.2.2 M.1 (k := 2) (Or.inl (by decide)) rfl 0 rfl rfl hin hdg kk
theorem ln_SRC (C0 : Cx p s m args c cc nL own D cy) (M : Ws D b0 cy sb db g s H locs) (hdg : decode cc pc = .ok (.arraylength, 1)) (kk : W p l e R s m args below meth c H locs cells slots Q (F0 m (pc + 1) ls (.int (nI 500) :: rest))) : W p l e R s m args below meth c H locs cells slots Q (F0 m pc ls (.ref (sb 2) :: rest)) :=
  mg_alen C0.1 C0.2.1 C0.2.2.2.2.2 M.1 (k := 2) (Or.inl (by decide)) rfl 0 rfl rfl hdg kk
theorem sv_SRC (cy : Cy) (sb db : Nat → Nat) (g : Gs) (j : Nat) (v : Int32) : ∀ k, lvk k → va_up (cont cy sb db g) (2) (.inl (cy.1, 500, .inl (upd (g.1 3 0) j v))) k = cont cy sb db (sI g 3 0 j v) k := by
  intro k hk
  by_cases h : k = 2
  · subst h
    rw [va_up_self]
    show _ = cnA cy sb db _ 2
    simp [cnA, sI_at, sI, sA]
  · rw [va_up_ne _ _ h]
    exact (cont_sI (c := 3) (o := 0) hk h).symm
theorem as_SRC (C0 : Cx p s m args c cc nL own D cy) (M : Ws D b0 cy sb db g s H locs) {i : Int32} {x : Int32} (hin : vp_in i 500) {g2 : Gs} (hg : g2 = sI g 3 0 i.toNatClampNeg x) (hdg : decode cc pc = .ok (.iastore, 1)) (kk : ∀ (H1 : Heap) (locs1 : List Loc), Ws D b0 cy sb db g2 s H1 locs1 → W p l e R s m args below meth c H1 locs1 cells slots Q (F0 m (pc + 1) ls rest)) : W p l e R s m args below meth c H locs cells slots Q (F0 m pc ls (.int x :: .int i :: .ref (sb 2) :: rest)) := by
  subst hg
  exact mg_iast C0.1 C0.2.1 C0.2.2.2.2.2 M.1 M.2 (k := 2) (Or.inl (by decide)) rfl 0 rfl rfl hin hdg (fun H1 locs1 M1 S1 => kk H1 locs1 ⟨mp_congr M1 (sv_SRC cy sb db g _ _), S1⟩)
theorem al_LI (C0 : Cx p s m args c cc nL own D cy) (M : Ws D b0 cy sb db g s H locs) {i : Int32} (hin : vp_in i 30) (hdg : decode cc pc = .ok (.iaload, 1)) (kk : W p l e R s m args below meth c H locs cells slots Q (F0 m (pc + 1) ls (.int (g.1 8 0 i.toNatClampNeg) :: rest))) : W p l e R s m args below meth c H locs cells slots Q (F0 m pc ls (.int i :: .ref (sb 4) :: rest)) :=
  mg_iald C0.1 C0.2.1 C0.2.2.2.2.2 M.1 (k := 4) (Or.inl (by decide)) rfl 0 rfl rfl hin hdg kk
theorem ln_LI (C0 : Cx p s m args c cc nL own D cy) (M : Ws D b0 cy sb db g s H locs) (hdg : decode cc pc = .ok (.arraylength, 1)) (kk : W p l e R s m args below meth c H locs cells slots Q (F0 m (pc + 1) ls (.int (nI 30) :: rest))) : W p l e R s m args below meth c H locs cells slots Q (F0 m pc ls (.ref (sb 4) :: rest)) :=
  mg_alen C0.1 C0.2.1 C0.2.2.2.2.2 M.1 (k := 4) (Or.inl (by decide)) rfl 0 rfl rfl hdg kk
theorem sv_LI (cy : Cy) (sb db : Nat → Nat) (g : Gs) (j : Nat) (v : Int32) : ∀ k, lvk k → va_up (cont cy sb db g) (4) (.inl (cy.1, 30, .inl (upd (g.1 8 0) j v))) k = cont cy sb db (sI g 8 0 j v) k := by
  intro k hk
  by_cases h : k = 4
  · subst h
    rw [va_up_self]
    show _ = cnA cy sb db _ 4
    simp [cnA, sI_at, sI, sA]
  · rw [va_up_ne _ _ h]
    exact (cont_sI (c := 8) (o := 0) hk h).symm
theorem as_LI (C0 : Cx p s m args c cc nL own D cy) (M : Ws D b0 cy sb db g s H locs) {i : Int32} {x : Int32} (hin : vp_in i 30) {g2 : Gs} (hg : g2 = sI g 8 0 i.toNatClampNeg x) (hdg : decode cc pc = .ok (.iastore, 1)) (kk : ∀ (H1 : Heap) (locs1 : List Loc), Ws D b0 cy sb db g2 s H1 locs1 → W p l e R s m args below meth c H1 locs1 cells slots Q (F0 m (pc + 1) ls rest)) : W p l e R s m args below meth c H locs cells slots Q (F0 m pc ls (.int x :: .int i :: .ref (sb 4) :: rest)) := by
  subst hg
  exact mg_iast C0.1 C0.2.1 C0.2.2.2.2.2 M.1 M.2 (k := 4) (Or.inl (by decide)) rfl 0 rfl rfl hin hdg (fun H1 locs1 M1 S1 => kk H1 locs1 ⟨mp_congr M1 (sv_LI cy sb db g _ _), S1⟩)
theorem al_LJ (C0 : Cx p s m args c cc nL own D cy) (M : Ws D b0 cy sb db g s H locs) {i : Int32} (hin : vp_in i 30) (hdg : decode cc pc = .ok (.iaload, 1)) (kk : W p l e R s m args below meth c H locs cells slots Q (F0 m (pc + 1) ls (.int (g.1 9 0 i.toNatClampNeg) :: rest))) : W p l e R s m args below meth c H locs cells slots Q (F0 m pc ls (.int i :: .ref (sb 5) :: rest)) :=
  mg_iald C0.1 C0.2.1 C0.2.2.2.2.2 M.1 (k := 5) (Or.inl (by decide)) rfl 0 rfl rfl hin hdg kk
theorem ln_LJ (C0 : Cx p s m args c cc nL own D cy) (M : Ws D b0 cy sb db g s H locs) (hdg : decode cc pc = .ok (.arraylength, 1)) (kk : W p l e R s m args below meth c H locs cells slots Q (F0 m (pc + 1) ls (.int (nI 30) :: rest))) : W p l e R s m args below meth c H locs cells slots Q (F0 m pc ls (.ref (sb 5) :: rest)) :=
  mg_alen C0.1 C0.2.1 C0.2.2.2.2.2 M.1 (k := 5) (Or.inl (by decide)) rfl 0 rfl rfl hdg kk
theorem sv_LJ (cy : Cy) (sb db : Nat → Nat) (g : Gs) (j : Nat) (v : Int32) : ∀ k, lvk k → va_up (cont cy sb db g) (5) (.inl (cy.1, 30, .inl (upd (g.1 9 0) j v))) k = cont cy sb db (sI g 9 0 j v) k := by
  intro k hk
  by_cases h : k = 5
  · subst h
    rw [va_up_self]
    show _ = cnA cy sb db _ 5
    simp [cnA, sI_at, sI, sA]
  · rw [va_up_ne _ _ h]
    exact (cont_sI (c := 9) (o := 0) hk h).symm
theorem as_LJ (C0 : Cx p s m args c cc nL own D cy) (M : Ws D b0 cy sb db g s H locs) {i : Int32} {x : Int32} (hin : vp_in i 30) {g2 : Gs} (hg : g2 = sI g 9 0 i.toNatClampNeg x) (hdg : decode cc pc = .ok (.iastore, 1)) (kk : ∀ (H1 : Heap) (locs1 : List Loc), Ws D b0 cy sb db g2 s H1 locs1 → W p l e R s m args below meth c H1 locs1 cells slots Q (F0 m (pc + 1) ls rest)) : W p l e R s m args below meth c H locs cells slots Q (F0 m pc ls (.int x :: .int i :: .ref (sb 5) :: rest)) := by
  subst hg
  exact mg_iast C0.1 C0.2.1 C0.2.2.2.2.2 M.1 M.2 (k := 5) (Or.inl (by decide)) rfl 0 rfl rfl hin hdg (fun H1 locs1 M1 S1 => kk H1 locs1 ⟨mp_congr M1 (sv_LJ cy sb db g _ _), S1⟩)
theorem al_LK (C0 : Cx p s m args c cc nL own D cy) (M : Ws D b0 cy sb db g s H locs) {i : Int32} (hin : vp_in i 30) (hdg : decode cc pc = .ok (.iaload, 1)) (kk : W p l e R s m args below meth c H locs cells slots Q (F0 m (pc + 1) ls (.int (g.1 10 0 i.toNatClampNeg) :: rest))) : W p l e R s m args below meth c H locs cells slots Q (F0 m pc ls (.int i :: .ref (sb 6) :: rest)) :=
  mg_iald C0.1 C0.2.1 C0.2.2.2.2.2 M.1 (k := 6) (Or.inl (by decide)) rfl 0 rfl rfl hin hdg kk
theorem ln_LK (C0 : Cx p s m args c cc nL own D cy) (M : Ws D b0 cy sb db g s H locs) (hdg : decode cc pc = .ok (.arraylength, 1)) (kk : W p l e R s m args below meth c H locs cells slots Q (F0 m (pc + 1) ls (.int (nI 30) :: rest))) : W p l e R s m args below meth c H locs cells slots Q (F0 m pc ls (.ref (sb 6) :: rest)) :=
  mg_alen C0.1 C0.2.1 C0.2.2.2.2.2 M.1 (k := 6) (Or.inl (by decide)) rfl 0 rfl rfl hdg kk
theorem sv_LK (cy : Cy) (sb db : Nat → Nat) (g : Gs) (j : Nat) (v : Int32) : ∀ k, lvk k → va_up (cont cy sb db g) (6) (.inl (cy.1, 30, .inl (upd (g.1 10 0) j v))) k = cont cy sb db (sI g 10 0 j v) k := by
  intro k hk
  by_cases h : k = 6
  · subst h
    rw [va_up_self]
    show _ = cnA cy sb db _ 6
    simp [cnA, sI_at, sI, sA]
  · rw [va_up_ne _ _ h]
    exact (cont_sI (c := 10) (o := 0) hk h).symm
theorem as_LK (C0 : Cx p s m args c cc nL own D cy) (M : Ws D b0 cy sb db g s H locs) {i : Int32} {x : Int32} (hin : vp_in i 30) {g2 : Gs} (hg : g2 = sI g 10 0 i.toNatClampNeg x) (hdg : decode cc pc = .ok (.iastore, 1)) (kk : ∀ (H1 : Heap) (locs1 : List Loc), Ws D b0 cy sb db g2 s H1 locs1 → W p l e R s m args below meth c H1 locs1 cells slots Q (F0 m (pc + 1) ls rest)) : W p l e R s m args below meth c H locs cells slots Q (F0 m pc ls (.int x :: .int i :: .ref (sb 6) :: rest)) := by
  subst hg
  exact mg_iast C0.1 C0.2.1 C0.2.2.2.2.2 M.1 M.2 (k := 6) (Or.inl (by decide)) rfl 0 rfl rfl hin hdg (fun H1 locs1 M1 S1 => kk H1 locs1 ⟨mp_congr M1 (sv_LK cy sb db g _ _), S1⟩)
theorem al_LV (C0 : Cx p s m args c cc nL own D cy) (M : Ws D b0 cy sb db g s H locs) {i : Int32} (hin : vp_in i 30) (hdg : decode cc pc = .ok (.laload, 1)) (kk : W p l e R s m args below meth c H locs cells slots Q (F0 m (pc + 1) ls (.long (g.2.1 1 i.toNatClampNeg) :: rest))) : W p l e R s m args below meth c H locs cells slots Q (F0 m pc ls (.int i :: .ref (sb 7) :: rest)) :=
  mg_lald C0.1 C0.2.1 C0.2.2.2.2.2 M.1 (k := 7) (Or.inl (by decide)) rfl 1 rfl rfl hin hdg kk
theorem ln_LV (C0 : Cx p s m args c cc nL own D cy) (M : Ws D b0 cy sb db g s H locs) (hdg : decode cc pc = .ok (.arraylength, 1)) (kk : W p l e R s m args below meth c H locs cells slots Q (F0 m (pc + 1) ls (.int (nI 30) :: rest))) : W p l e R s m args below meth c H locs cells slots Q (F0 m pc ls (.ref (sb 7) :: rest)) :=
  mg_alen C0.1 C0.2.1 C0.2.2.2.2.2 M.1 (k := 7) (Or.inl (by decide)) rfl 1 rfl rfl hdg kk
theorem sv_LV (cy : Cy) (sb db : Nat → Nat) (g : Gs) (j : Nat) (v : Int64) : ∀ k, lvk k → va_up (cont cy sb db g) (7) (.inl (cy.2.1, 30, .inr (.inl (vp_updL (g.2.1 1) j v)))) k = cont cy sb db (sL g 1 j v) k := by
  intro k hk
  by_cases h : k = 7
  · subst h
    rw [va_up_self]
    show _ = cnA cy sb db _ 7
    simp [cnA, sL_at, sL]
  · rw [va_up_ne _ _ h]
    exact (cont_sL (c := 1) hk h).symm
theorem as_LV (C0 : Cx p s m args c cc nL own D cy) (M : Ws D b0 cy sb db g s H locs) {i : Int32} {x : Int64} (hin : vp_in i 30) {g2 : Gs} (hg : g2 = sL g 1 i.toNatClampNeg x) (hdg : decode cc pc = .ok (.lastore, 1)) (kk : ∀ (H1 : Heap) (locs1 : List Loc), Ws D b0 cy sb db g2 s H1 locs1 → W p l e R s m args below meth c H1 locs1 cells slots Q (F0 m (pc + 1) ls rest)) : W p l e R s m args below meth c H locs cells slots Q (F0 m pc ls (.long x :: .int i :: .ref (sb 7) :: rest)) := by
  subst hg
  exact mg_last C0.1 C0.2.1 C0.2.2.2.2.2 M.1 M.2 (k := 7) (Or.inl (by decide)) rfl 1 rfl rfl hin hdg (fun H1 locs1 M1 S1 => kk H1 locs1 ⟨mp_congr M1 (sv_LV cy sb db g _ _), S1⟩)
theorem al_NUM (C0 : Cx p s m args c cc nL own D cy) (M : Ws D b0 cy sb db g s H locs) {i : Int32} (hin : vp_in i (g.2.2 9)) (hdg : decode cc pc = .ok (.laload, 1)) (kk : W p l e R s m args below meth c H locs cells slots Q (F0 m (pc + 1) ls (.long (g.2.1 0 i.toNatClampNeg) :: rest))) : W p l e R s m args below meth c H locs cells slots Q (F0 m pc ls (.int i :: .ref (db 9) :: rest)) :=
  mg_lald C0.1 C0.2.1 C0.2.2.2.2.2 M.1 (k := 9) (Or.inl (by decide)) rfl 1 rfl rfl hin hdg kk
theorem ln_NUM (C0 : Cx p s m args c cc nL own D cy) (M : Ws D b0 cy sb db g s H locs) (hdg : decode cc pc = .ok (.arraylength, 1)) (kk : W p l e R s m args below meth c H locs cells slots Q (F0 m (pc + 1) ls (.int (nI (g.2.2 9)) :: rest))) : W p l e R s m args below meth c H locs cells slots Q (F0 m pc ls (.ref (db 9) :: rest)) :=
  mg_alen C0.1 C0.2.1 C0.2.2.2.2.2 M.1 (k := 9) (Or.inl (by decide)) rfl 1 rfl rfl hdg kk
theorem sv_NUM (cy : Cy) (sb db : Nat → Nat) (g : Gs) (j : Nat) (v : Int64) : ∀ k, lvk k → va_up (cont cy sb db g) (9) (.inl (cy.2.1, (g.2.2 9), .inr (.inl (vp_updL (g.2.1 0) j v)))) k = cont cy sb db (sL g 0 j v) k := by
  intro k hk
  by_cases h : k = 9
  · subst h
    rw [va_up_self]
    show _ = cnA cy sb db _ 9
    simp [cnA, sL_at, sL]
  · rw [va_up_ne _ _ h]
    exact (cont_sL (c := 0) hk h).symm
theorem as_NUM (C0 : Cx p s m args c cc nL own D cy) (M : Ws D b0 cy sb db g s H locs) {i : Int32} {x : Int64} (hin : vp_in i (g.2.2 9)) {g2 : Gs} (hg : g2 = sL g 0 i.toNatClampNeg x) (hdg : decode cc pc = .ok (.lastore, 1)) (kk : ∀ (H1 : Heap) (locs1 : List Loc), Ws D b0 cy sb db g2 s H1 locs1 → W p l e R s m args below meth c H1 locs1 cells slots Q (F0 m (pc + 1) ls rest)) : W p l e R s m args below meth c H locs cells slots Q (F0 m pc ls (.long x :: .int i :: .ref (db 9) :: rest)) := by
  subst hg
  exact mg_last C0.1 C0.2.1 C0.2.2.2.2.2 M.1 M.2 (k := 9) (Or.inl (by decide)) rfl 1 rfl rfl hin hdg (fun H1 locs1 M1 S1 => kk H1 locs1 ⟨mp_congr M1 (sv_NUM cy sb db g _ _), S1⟩)
theorem al_FIL (C0 : Cx p s m args c cc nL own D cy) (M : Ws D b0 cy sb db g s H locs) {i : Int32} (hin : vp_in i (g.2.2 10)) (hdg : decode cc pc = .ok (.baload, 1)) (kk : W p l e R s m args below meth c H locs cells slots Q (F0 m (pc + 1) ls (.int (g.1 13 0 i.toNatClampNeg) :: rest))) : W p l e R s m args below meth c H locs cells slots Q (F0 m pc ls (.int i :: .ref (db 10) :: rest)) :=
  mg_zald C0.1 C0.2.1 C0.2.2.2.2.2 M.1 (k := 10) (Or.inl (by decide)) rfl 2 rfl rfl hin hdg kk
theorem ln_FIL (C0 : Cx p s m args c cc nL own D cy) (M : Ws D b0 cy sb db g s H locs) (hdg : decode cc pc = .ok (.arraylength, 1)) (kk : W p l e R s m args below meth c H locs cells slots Q (F0 m (pc + 1) ls (.int (nI (g.2.2 10)) :: rest))) : W p l e R s m args below meth c H locs cells slots Q (F0 m pc ls (.ref (db 10) :: rest)) :=
  mg_alen C0.1 C0.2.1 C0.2.2.2.2.2 M.1 (k := 10) (Or.inl (by decide)) rfl 2 rfl rfl hdg kk
theorem sv_FIL (cy : Cy) (sb db : Nat → Nat) (g : Gs) (j : Nat) (v : Int32) : ∀ k, lvk k → va_up (cont cy sb db g) (10) (.inl (cy.2.2.1, (g.2.2 10), .inl (upd (g.1 13 0) j v))) k = cont cy sb db (sI g 13 0 j v) k := by
  intro k hk
  by_cases h : k = 10
  · subst h
    rw [va_up_self]
    show _ = cnA cy sb db _ 10
    simp [cnA, sI_at, sI, sA]
  · rw [va_up_ne _ _ h]
    exact (cont_sI (c := 13) (o := 0) hk h).symm
theorem as_FIL (C0 : Cx p s m args c cc nL own D cy) (M : Ws D b0 cy sb db g s H locs) {i : Int32} {x : Int32} (hin : vp_in i (g.2.2 10)) {g2 : Gs} (hg : g2 = sI g 13 0 i.toNatClampNeg (vp_nar .boolean x)) (hdg : decode cc pc = .ok (.bastore, 1)) (kk : ∀ (H1 : Heap) (locs1 : List Loc), Ws D b0 cy sb db g2 s H1 locs1 → W p l e R s m args below meth c H1 locs1 cells slots Q (F0 m (pc + 1) ls rest)) : W p l e R s m args below meth c H locs cells slots Q (F0 m pc ls (.int x :: .int i :: .ref (db 10) :: rest)) := by
  subst hg
  exact mg_zast C0.1 C0.2.1 C0.2.2.2.2.2 M.1 M.2 (k := 10) (Or.inl (by decide)) rfl 2 rfl rfl hin hdg (fun H1 locs1 M1 S1 => kk H1 locs1 ⟨mp_congr M1 (sv_FIL cy sb db g _ _), S1⟩)
theorem al_STA (C0 : Cx p s m args c cc nL own D cy) (M : Ws D b0 cy sb db g s H locs) {i : Int32} (hin : vp_in i (g.2.2 11)) (hdg : decode cc pc = .ok (.iaload, 1)) (kk : W p l e R s m args below meth c H locs cells slots Q (F0 m (pc + 1) ls (.int (g.1 14 0 i.toNatClampNeg) :: rest))) : W p l e R s m args below meth c H locs cells slots Q (F0 m pc ls (.int i :: .ref (db 11) :: rest)) :=
  mg_iald C0.1 C0.2.1 C0.2.2.2.2.2 M.1 (k := 11) (Or.inl (by decide)) rfl 0 rfl rfl hin hdg kk
theorem ln_STA (C0 : Cx p s m args c cc nL own D cy) (M : Ws D b0 cy sb db g s H locs) (hdg : decode cc pc = .ok (.arraylength, 1)) (kk : W p l e R s m args below meth c H locs cells slots Q (F0 m (pc + 1) ls (.int (nI (g.2.2 11)) :: rest))) : W p l e R s m args below meth c H locs cells slots Q (F0 m pc ls (.ref (db 11) :: rest)) :=
  mg_alen C0.1 C0.2.1 C0.2.2.2.2.2 M.1 (k := 11) (Or.inl (by decide)) rfl 0 rfl rfl hdg kk
theorem sv_STA (cy : Cy) (sb db : Nat → Nat) (g : Gs) (j : Nat) (v : Int32) : ∀ k, lvk k → va_up (cont cy sb db g) (11) (.inl (cy.1, (g.2.2 11), .inl (upd (g.1 14 0) j v))) k = cont cy sb db (sI g 14 0 j v) k := by
  intro k hk
  by_cases h : k = 11
  · subst h
    rw [va_up_self]
    show _ = cnA cy sb db _ 11
    simp [cnA, sI_at, sI, sA]
  · rw [va_up_ne _ _ h]
    exact (cont_sI (c := 14) (o := 0) hk h).symm
theorem as_STA (C0 : Cx p s m args c cc nL own D cy) (M : Ws D b0 cy sb db g s H locs) {i : Int32} {x : Int32} (hin : vp_in i (g.2.2 11)) {g2 : Gs} (hg : g2 = sI g 14 0 i.toNatClampNeg x) (hdg : decode cc pc = .ok (.iastore, 1)) (kk : ∀ (H1 : Heap) (locs1 : List Loc), Ws D b0 cy sb db g2 s H1 locs1 → W p l e R s m args below meth c H1 locs1 cells slots Q (F0 m (pc + 1) ls rest)) : W p l e R s m args below meth c H locs cells slots Q (F0 m pc ls (.int x :: .int i :: .ref (db 11) :: rest)) := by
  subst hg
  exact mg_iast C0.1 C0.2.1 C0.2.2.2.2.2 M.1 M.2 (k := 11) (Or.inl (by decide)) rfl 0 rfl rfl hin hdg (fun H1 locs1 M1 S1 => kk H1 locs1 ⟨mp_congr M1 (sv_STA cy sb db g _ _), S1⟩)
theorem al_LEN (C0 : Cx p s m args c cc nL own D cy) (M : Ws D b0 cy sb db g s H locs) {i : Int32} (hin : vp_in i (g.2.2 12)) (hdg : decode cc pc = .ok (.iaload, 1)) (kk : W p l e R s m args below meth c H locs cells slots Q (F0 m (pc + 1) ls (.int (g.1 15 0 i.toNatClampNeg) :: rest))) : W p l e R s m args below meth c H locs cells slots Q (F0 m pc ls (.int i :: .ref (db 12) :: rest)) :=
  mg_iald C0.1 C0.2.1 C0.2.2.2.2.2 M.1 (k := 12) (Or.inl (by decide)) rfl 0 rfl rfl hin hdg kk
theorem ln_LEN (C0 : Cx p s m args c cc nL own D cy) (M : Ws D b0 cy sb db g s H locs) (hdg : decode cc pc = .ok (.arraylength, 1)) (kk : W p l e R s m args below meth c H locs cells slots Q (F0 m (pc + 1) ls (.int (nI (g.2.2 12)) :: rest))) : W p l e R s m args below meth c H locs cells slots Q (F0 m pc ls (.ref (db 12) :: rest)) :=
  mg_alen C0.1 C0.2.1 C0.2.2.2.2.2 M.1 (k := 12) (Or.inl (by decide)) rfl 0 rfl rfl hdg kk
theorem sv_LEN (cy : Cy) (sb db : Nat → Nat) (g : Gs) (j : Nat) (v : Int32) : ∀ k, lvk k → va_up (cont cy sb db g) (12) (.inl (cy.1, (g.2.2 12), .inl (upd (g.1 15 0) j v))) k = cont cy sb db (sI g 15 0 j v) k := by
  intro k hk
  by_cases h : k = 12
  · subst h
    rw [va_up_self]
    show _ = cnA cy sb db _ 12
    simp [cnA, sI_at, sI, sA]
  · rw [va_up_ne _ _ h]
    exact (cont_sI (c := 15) (o := 0) hk h).symm
theorem as_LEN (C0 : Cx p s m args c cc nL own D cy) (M : Ws D b0 cy sb db g s H locs) {i : Int32} {x : Int32} (hin : vp_in i (g.2.2 12)) {g2 : Gs} (hg : g2 = sI g 15 0 i.toNatClampNeg x) (hdg : decode cc pc = .ok (.iastore, 1)) (kk : ∀ (H1 : Heap) (locs1 : List Loc), Ws D b0 cy sb db g2 s H1 locs1 → W p l e R s m args below meth c H1 locs1 cells slots Q (F0 m (pc + 1) ls rest)) : W p l e R s m args below meth c H locs cells slots Q (F0 m pc ls (.int x :: .int i :: .ref (db 12) :: rest)) := by
  subst hg
  exact mg_iast C0.1 C0.2.1 C0.2.2.2.2.2 M.1 M.2 (k := 12) (Or.inl (by decide)) rfl 0 rfl rfl hin hdg (fun H1 locs1 M1 S1 => kk H1 locs1 ⟨mp_congr M1 (sv_LEN cy sb db g _ _), S1⟩)
theorem al_LOW (C0 : Cx p s m args c cc nL own D cy) (M : Ws D b0 cy sb db g s H locs) {o : Nat} (hB : o < 25) {i : Int32} (hin : vp_in i 3) (hdg : decode cc pc = .ok (.iaload, 1)) (kk : W p l e R s m args below meth c H locs cells slots Q (F0 m (pc + 1) ls (.int (g.1 5 o i.toNatClampNeg) :: rest))) : W p l e R s m args below meth c H locs cells slots Q (F0 m pc ls (.int i :: .ref (sb (200 + o)) :: rest)) :=
  mg_iald C0.1 C0.2.1 C0.2.2.2.2.2 M.1 (k := 200 + o) (lv_low hB) (ad_low sb db hB) 0 (ct_low cy sb db g hB) rfl hin hdg kk
theorem ln_LOW (C0 : Cx p s m args c cc nL own D cy) (M : Ws D b0 cy sb db g s H locs) {o : Nat} (hB : o < 25) (hdg : decode cc pc = .ok (.arraylength, 1)) (kk : W p l e R s m args below meth c H locs cells slots Q (F0 m (pc + 1) ls (.int (nI 3) :: rest))) : W p l e R s m args below meth c H locs cells slots Q (F0 m pc ls (.ref (sb (200 + o)) :: rest)) :=
  mg_alen C0.1 C0.2.1 C0.2.2.2.2.2 M.1 (k := 200 + o) (lv_low hB) (ad_low sb db hB) 0 (ct_low cy sb db g hB) rfl hdg kk
theorem sv_LOW (cy : Cy) (sb db : Nat → Nat) (g : Gs) {o : Nat} (hB : o < 25) (j : Nat) (v : Int32) : ∀ k, lvk k → va_up (cont cy sb db g) (200 + o) (.inl (cy.1, 3, .inl (upd (g.1 5 o) j v))) k = cont cy sb db (sI g 5 o j v) k := by
  intro k hk
  by_cases h : k = 200 + o
  · subst h
    rw [va_up_self, ct_low cy sb db _ hB]
    simp [sI_at, sI, sA]
  · rw [va_up_ne _ _ h]
    exact (cont_sI (c := 5) (o := o) hk h).symm
theorem as_LOW (C0 : Cx p s m args c cc nL own D cy) (M : Ws D b0 cy sb db g s H locs) {o : Nat} (hB : o < 25) {i : Int32} {x : Int32} (hin : vp_in i 3) {g2 : Gs} (hg : g2 = sI g 5 o i.toNatClampNeg x) (hdg : decode cc pc = .ok (.iastore, 1)) (kk : ∀ (H1 : Heap) (locs1 : List Loc), Ws D b0 cy sb db g2 s H1 locs1 → W p l e R s m args below meth c H1 locs1 cells slots Q (F0 m (pc + 1) ls rest)) : W p l e R s m args below meth c H locs cells slots Q (F0 m pc ls (.int x :: .int i :: .ref (sb (200 + o)) :: rest)) := by
  subst hg
  exact mg_iast C0.1 C0.2.1 C0.2.2.2.2.2 M.1 M.2 (k := 200 + o) (lv_low hB) (ad_low sb db hB) 0 (ct_low cy sb db g hB) rfl hin hdg (fun H1 locs1 M1 S1 => kk H1 locs1 ⟨mp_congr M1 (sv_LOW cy sb db g hB _ _), S1⟩)
theorem al_HIG (C0 : Cx p s m args c cc nL own D cy) (M : Ws D b0 cy sb db g s H locs) {o : Nat} (hB : o < 25) {i : Int32} (hin : vp_in i 3) (hdg : decode cc pc = .ok (.iaload, 1)) (kk : W p l e R s m args below meth c H locs cells slots Q (F0 m (pc + 1) ls (.int (g.1 6 o i.toNatClampNeg) :: rest))) : W p l e R s m args below meth c H locs cells slots Q (F0 m pc ls (.int i :: .ref (sb (300 + o)) :: rest)) :=
  mg_iald C0.1 C0.2.1 C0.2.2.2.2.2 M.1 (k := 300 + o) (lv_hig hB) (ad_hig sb db hB) 0 (ct_hig cy sb db g hB) rfl hin hdg kk
theorem ln_HIG (C0 : Cx p s m args c cc nL own D cy) (M : Ws D b0 cy sb db g s H locs) {o : Nat} (hB : o < 25) (hdg : decode cc pc = .ok (.arraylength, 1)) (kk : W p l e R s m args below meth c H locs cells slots Q (F0 m (pc + 1) ls (.int (nI 3) :: rest))) : W p l e R s m args below meth c H locs cells slots Q (F0 m pc ls (.ref (sb (300 + o)) :: rest)) :=
  mg_alen C0.1 C0.2.1 C0.2.2.2.2.2 M.1 (k := 300 + o) (lv_hig hB) (ad_hig sb db hB) 0 (ct_hig cy sb db g hB) rfl hdg kk
theorem sv_HIG (cy : Cy) (sb db : Nat → Nat) (g : Gs) {o : Nat} (hB : o < 25) (j : Nat) (v : Int32) : ∀ k, lvk k → va_up (cont cy sb db g) (300 + o) (.inl (cy.1, 3, .inl (upd (g.1 6 o) j v))) k = cont cy sb db (sI g 6 o j v) k := by
  intro k hk
  by_cases h : k = 300 + o
  · subst h
    rw [va_up_self, ct_hig cy sb db _ hB]
    simp [sI_at, sI, sA]
  · rw [va_up_ne _ _ h]
    exact (cont_sI (c := 6) (o := o) hk h).symm
theorem as_HIG (C0 : Cx p s m args c cc nL own D cy) (M : Ws D b0 cy sb db g s H locs) {o : Nat} (hB : o < 25) {i : Int32} {x : Int32} (hin : vp_in i 3) {g2 : Gs} (hg : g2 = sI g 6 o i.toNatClampNeg x) (hdg : decode cc pc = .ok (.iastore, 1)) (kk : ∀ (H1 : Heap) (locs1 : List Loc), Ws D b0 cy sb db g2 s H1 locs1 → W p l e R s m args below meth c H1 locs1 cells slots Q (F0 m (pc + 1) ls rest)) : W p l e R s m args below meth c H locs cells slots Q (F0 m pc ls (.int x :: .int i :: .ref (sb (300 + o)) :: rest)) := by
  subst hg
  exact mg_iast C0.1 C0.2.1 C0.2.2.2.2.2 M.1 M.2 (k := 300 + o) (lv_hig hB) (ad_hig sb db hB) 0 (ct_hig cy sb db g hB) rfl hin hdg (fun H1 locs1 M1 S1 => kk H1 locs1 ⟨mp_congr M1 (sv_HIG cy sb db g hB _ _), S1⟩)
theorem al_ROWS (C0 : Cx p s m args c cc nL own D cy) (M : Ws D b0 cy sb db g s H locs) {n : Nat} (hB : n < 24) {i : Int32} (hin : vp_in i (g.2.2 (500 + n))) (hdg : decode cc pc = .ok (.iaload, 1)) (kk : W p l e R s m args below meth c H locs cells slots Q (F0 m (pc + 1) ls (.int (g.1 18 n i.toNatClampNeg) :: rest))) : W p l e R s m args below meth c H locs cells slots Q (F0 m pc ls (.int i :: .ref (db (500 + n)) :: rest)) :=
  mg_iald C0.1 C0.2.1 C0.2.2.2.2.2 M.1 (k := 500 + n) (lv_rows hB) (ad_rows sb db hB) 0 (ct_rows cy sb db g hB) rfl hin hdg kk
theorem ln_ROWS (C0 : Cx p s m args c cc nL own D cy) (M : Ws D b0 cy sb db g s H locs) {n : Nat} (hB : n < 24) (hdg : decode cc pc = .ok (.arraylength, 1)) (kk : W p l e R s m args below meth c H locs cells slots Q (F0 m (pc + 1) ls (.int (nI (g.2.2 (500 + n))) :: rest))) : W p l e R s m args below meth c H locs cells slots Q (F0 m pc ls (.ref (db (500 + n)) :: rest)) :=
  mg_alen C0.1 C0.2.1 C0.2.2.2.2.2 M.1 (k := 500 + n) (lv_rows hB) (ad_rows sb db hB) 0 (ct_rows cy sb db g hB) rfl hdg kk
theorem sv_ROWS (cy : Cy) (sb db : Nat → Nat) (g : Gs) {n : Nat} (hB : n < 24) (j : Nat) (v : Int32) : ∀ k, lvk k → va_up (cont cy sb db g) (500 + n) (.inl (cy.1, (g.2.2 (500 + n)), .inl (upd (g.1 18 n) j v))) k = cont cy sb db (sI g 18 n j v) k := by
  intro k hk
  by_cases h : k = 500 + n
  · subst h
    rw [va_up_self, ct_rows cy sb db _ hB]
    simp [sI_at, sI, sA]
  · rw [va_up_ne _ _ h]
    exact (cont_sI (c := 18) (o := n) hk h).symm
theorem as_ROWS (C0 : Cx p s m args c cc nL own D cy) (M : Ws D b0 cy sb db g s H locs) {n : Nat} (hB : n < 24) {i : Int32} {x : Int32} (hin : vp_in i (g.2.2 (500 + n))) {g2 : Gs} (hg : g2 = sI g 18 n i.toNatClampNeg x) (hdg : decode cc pc = .ok (.iastore, 1)) (kk : ∀ (H1 : Heap) (locs1 : List Loc), Ws D b0 cy sb db g2 s H1 locs1 → W p l e R s m args below meth c H1 locs1 cells slots Q (F0 m (pc + 1) ls rest)) : W p l e R s m args below meth c H locs cells slots Q (F0 m pc ls (.int x :: .int i :: .ref (db (500 + n)) :: rest)) := by
  subst hg
  exact mg_iast C0.1 C0.2.1 C0.2.2.2.2.2 M.1 M.2 (k := 500 + n) (lv_rows hB) (ad_rows sb db hB) 0 (ct_rows cy sb db g hB) rfl hin hdg (fun H1 locs1 M1 S1 => kk H1 locs1 ⟨mp_congr M1 (sv_ROWS cy sb db g hB _ _), S1⟩)
theorem al_Mlow (C0 : Cx p s m args c cc nL own D cy) (M : Ws D b0 cy sb db g s H locs) {i : Int32} (hin : vp_in i 3) (hdg : decode cc pc = .ok (.iaload, 1)) (kk : W p l e R s m args below meth c H locs cells slots Q (F0 m (pc + 1) ls (.int (g.1 23 0 i.toNatClampNeg) :: rest))) : W p l e R s m args below meth c H locs cells slots Q (F0 m pc ls (.int i :: .ref (sb 14) :: rest)) :=
  mg_iald C0.1 C0.2.1 C0.2.2.2.2.2 M.1 (k := 14) (Or.inl (by decide)) rfl 0 rfl rfl hin hdg kk
theorem ln_Mlow (C0 : Cx p s m args c cc nL own D cy) (M : Ws D b0 cy sb db g s H locs) (hdg : decode cc pc = .ok (.arraylength, 1)) (kk : W p l e R s m args below meth c H locs cells slots Q (F0 m (pc + 1) ls (.int (nI 3) :: rest))) : W p l e R s m args below meth c H locs cells slots Q (F0 m pc ls (.ref (sb 14) :: rest)) :=
  mg_alen C0.1 C0.2.1 C0.2.2.2.2.2 M.1 (k := 14) (Or.inl (by decide)) rfl 0 rfl rfl hdg kk
theorem sv_Mlow (cy : Cy) (sb db : Nat → Nat) (g : Gs) (j : Nat) (v : Int32) : ∀ k, lvk k → va_up (cont cy sb db g) (14) (.inl (cy.1, 3, .inl (upd (g.1 23 0) j v))) k = cont cy sb db (sI g 23 0 j v) k := by
  intro k hk
  by_cases h : k = 14
  · subst h
    rw [va_up_self]
    show _ = cnA cy sb db _ 14
    simp [cnA, sI_at, sI, sA]
  · rw [va_up_ne _ _ h]
    exact (cont_sI (c := 23) (o := 0) hk h).symm
theorem as_Mlow (C0 : Cx p s m args c cc nL own D cy) (M : Ws D b0 cy sb db g s H locs) {i : Int32} {x : Int32} (hin : vp_in i 3) {g2 : Gs} (hg : g2 = sI g 23 0 i.toNatClampNeg x) (hdg : decode cc pc = .ok (.iastore, 1)) (kk : ∀ (H1 : Heap) (locs1 : List Loc), Ws D b0 cy sb db g2 s H1 locs1 → W p l e R s m args below meth c H1 locs1 cells slots Q (F0 m (pc + 1) ls rest)) : W p l e R s m args below meth c H locs cells slots Q (F0 m pc ls (.int x :: .int i :: .ref (sb 14) :: rest)) := by
  subst hg
  exact mg_iast C0.1 C0.2.1 C0.2.2.2.2.2 M.1 M.2 (k := 14) (Or.inl (by decide)) rfl 0 rfl rfl hin hdg (fun H1 locs1 M1 S1 => kk H1 locs1 ⟨mp_congr M1 (sv_Mlow cy sb db g _ _), S1⟩)
theorem al_Mhigh (C0 : Cx p s m args c cc nL own D cy) (M : Ws D b0 cy sb db g s H locs) {i : Int32} (hin : vp_in i 3) (hdg : decode cc pc = .ok (.iaload, 1)) (kk : W p l e R s m args below meth c H locs cells slots Q (F0 m (pc + 1) ls (.int (g.1 24 0 i.toNatClampNeg) :: rest))) : W p l e R s m args below meth c H locs cells slots Q (F0 m pc ls (.int i :: .ref (sb 15) :: rest)) :=
  mg_iald C0.1 C0.2.1 C0.2.2.2.2.2 M.1 (k := 15) (Or.inl (by decide)) rfl 0 rfl rfl hin hdg kk
theorem ln_Mhigh (C0 : Cx p s m args c cc nL own D cy) (M : Ws D b0 cy sb db g s H locs) (hdg : decode cc pc = .ok (.arraylength, 1)) (kk : W p l e R s m args below meth c H locs cells slots Q (F0 m (pc + 1) ls (.int (nI 3) :: rest))) : W p l e R s m args below meth c H locs cells slots Q (F0 m pc ls (.ref (sb 15) :: rest)) :=
  mg_alen C0.1 C0.2.1 C0.2.2.2.2.2 M.1 (k := 15) (Or.inl (by decide)) rfl 0 rfl rfl hdg kk
theorem sv_Mhigh (cy : Cy) (sb db : Nat → Nat) (g : Gs) (j : Nat) (v : Int32) : ∀ k, lvk k → va_up (cont cy sb db g) (15) (.inl (cy.1, 3, .inl (upd (g.1 24 0) j v))) k = cont cy sb db (sI g 24 0 j v) k := by
  intro k hk
  by_cases h : k = 15
  · subst h
    rw [va_up_self]
    show _ = cnA cy sb db _ 15
    simp [cnA, sI_at, sI, sA]
  · rw [va_up_ne _ _ h]
    exact (cont_sI (c := 24) (o := 0) hk h).symm
theorem as_Mhigh (C0 : Cx p s m args c cc nL own D cy) (M : Ws D b0 cy sb db g s H locs) {i : Int32} {x : Int32} (hin : vp_in i 3) {g2 : Gs} (hg : g2 = sI g 24 0 i.toNatClampNeg x) (hdg : decode cc pc = .ok (.iastore, 1)) (kk : ∀ (H1 : Heap) (locs1 : List Loc), Ws D b0 cy sb db g2 s H1 locs1 → W p l e R s m args below meth c H1 locs1 cells slots Q (F0 m (pc + 1) ls rest)) : W p l e R s m args below meth c H locs cells slots Q (F0 m pc ls (.int x :: .int i :: .ref (sb 15) :: rest)) := by
  subst hg
  exact mg_iast C0.1 C0.2.1 C0.2.2.2.2.2 M.1 M.2 (k := 15) (Or.inl (by decide)) rfl 0 rfl rfl hin hdg (fun H1 locs1 M1 S1 => kk H1 locs1 ⟨mp_congr M1 (sv_Mhigh cy sb db g _ _), S1⟩)
theorem al_Mkinds (C0 : Cx p s m args c cc nL own D cy) (M : Ws D b0 cy sb db g s H locs) {i : Int32} (hin : vp_in i 24) (hdg : decode cc pc = .ok (.iaload, 1)) (kk : W p l e R s m args below meth c H locs cells slots Q (F0 m (pc + 1) ls (.int (g.1 26 0 i.toNatClampNeg) :: rest))) : W p l e R s m args below meth c H locs cells slots Q (F0 m pc ls (.int i :: .ref (sb 16) :: rest)) :=
  mg_iald C0.1 C0.2.1 C0.2.2.2.2.2 M.1 (k := 16) (Or.inl (by decide)) rfl 0 rfl rfl hin hdg kk
theorem ln_Mkinds (C0 : Cx p s m args c cc nL own D cy) (M : Ws D b0 cy sb db g s H locs) (hdg : decode cc pc = .ok (.arraylength, 1)) (kk : W p l e R s m args below meth c H locs cells slots Q (F0 m (pc + 1) ls (.int (nI 24) :: rest))) : W p l e R s m args below meth c H locs cells slots Q (F0 m pc ls (.ref (sb 16) :: rest)) :=
  mg_alen C0.1 C0.2.1 C0.2.2.2.2.2 M.1 (k := 16) (Or.inl (by decide)) rfl 0 rfl rfl hdg kk
theorem sv_Mkinds (cy : Cy) (sb db : Nat → Nat) (g : Gs) (j : Nat) (v : Int32) : ∀ k, lvk k → va_up (cont cy sb db g) (16) (.inl (cy.1, 24, .inl (upd (g.1 26 0) j v))) k = cont cy sb db (sI g 26 0 j v) k := by
  intro k hk
  by_cases h : k = 16
  · subst h
    rw [va_up_self]
    show _ = cnA cy sb db _ 16
    simp [cnA, sI_at, sI, sA]
  · rw [va_up_ne _ _ h]
    exact (cont_sI (c := 26) (o := 0) hk h).symm
theorem as_Mkinds (C0 : Cx p s m args c cc nL own D cy) (M : Ws D b0 cy sb db g s H locs) {i : Int32} {x : Int32} (hin : vp_in i 24) {g2 : Gs} (hg : g2 = sI g 26 0 i.toNatClampNeg x) (hdg : decode cc pc = .ok (.iastore, 1)) (kk : ∀ (H1 : Heap) (locs1 : List Loc), Ws D b0 cy sb db g2 s H1 locs1 → W p l e R s m args below meth c H1 locs1 cells slots Q (F0 m (pc + 1) ls rest)) : W p l e R s m args below meth c H locs cells slots Q (F0 m pc ls (.int x :: .int i :: .ref (sb 16) :: rest)) := by
  subst hg
  exact mg_iast C0.1 C0.2.1 C0.2.2.2.2.2 M.1 M.2 (k := 16) (Or.inl (by decide)) rfl 0 rfl rfl hin hdg (fun H1 locs1 M1 S1 => kk H1 locs1 ⟨mp_congr M1 (sv_Mkinds cy sb db g _ _), S1⟩)
theorem al_Mranks (C0 : Cx p s m args c cc nL own D cy) (M : Ws D b0 cy sb db g s H locs) {i : Int32} (hin : vp_in i 24) (hdg : decode cc pc = .ok (.iaload, 1)) (kk : W p l e R s m args below meth c H locs cells slots Q (F0 m (pc + 1) ls (.int (g.1 27 0 i.toNatClampNeg) :: rest))) : W p l e R s m args below meth c H locs cells slots Q (F0 m pc ls (.int i :: .ref (sb 17) :: rest)) :=
  mg_iald C0.1 C0.2.1 C0.2.2.2.2.2 M.1 (k := 17) (Or.inl (by decide)) rfl 0 rfl rfl hin hdg kk
theorem ln_Mranks (C0 : Cx p s m args c cc nL own D cy) (M : Ws D b0 cy sb db g s H locs) (hdg : decode cc pc = .ok (.arraylength, 1)) (kk : W p l e R s m args below meth c H locs cells slots Q (F0 m (pc + 1) ls (.int (nI 24) :: rest))) : W p l e R s m args below meth c H locs cells slots Q (F0 m pc ls (.ref (sb 17) :: rest)) :=
  mg_alen C0.1 C0.2.1 C0.2.2.2.2.2 M.1 (k := 17) (Or.inl (by decide)) rfl 0 rfl rfl hdg kk
theorem sv_Mranks (cy : Cy) (sb db : Nat → Nat) (g : Gs) (j : Nat) (v : Int32) : ∀ k, lvk k → va_up (cont cy sb db g) (17) (.inl (cy.1, 24, .inl (upd (g.1 27 0) j v))) k = cont cy sb db (sI g 27 0 j v) k := by
  intro k hk
  by_cases h : k = 17
  · subst h
    rw [va_up_self]
    show _ = cnA cy sb db _ 17
    simp [cnA, sI_at, sI, sA]
  · rw [va_up_ne _ _ h]
    exact (cont_sI (c := 27) (o := 0) hk h).symm
theorem as_Mranks (C0 : Cx p s m args c cc nL own D cy) (M : Ws D b0 cy sb db g s H locs) {i : Int32} {x : Int32} (hin : vp_in i 24) {g2 : Gs} (hg : g2 = sI g 27 0 i.toNatClampNeg x) (hdg : decode cc pc = .ok (.iastore, 1)) (kk : ∀ (H1 : Heap) (locs1 : List Loc), Ws D b0 cy sb db g2 s H1 locs1 → W p l e R s m args below meth c H1 locs1 cells slots Q (F0 m (pc + 1) ls rest)) : W p l e R s m args below meth c H locs cells slots Q (F0 m pc ls (.int x :: .int i :: .ref (sb 17) :: rest)) := by
  subst hg
  exact mg_iast C0.1 C0.2.1 C0.2.2.2.2.2 M.1 M.2 (k := 17) (Or.inl (by decide)) rfl 0 rfl rfl hin hdg (fun H1 locs1 M1 S1 => kk H1 locs1 ⟨mp_congr M1 (sv_Mranks cy sb db g _ _), S1⟩)
theorem al_Mlows (C0 : Cx p s m args c cc nL own D cy) (M : Ws D b0 cy sb db g s H locs) {i : Int32} (hin : vp_in i 72) (hdg : decode cc pc = .ok (.iaload, 1)) (kk : W p l e R s m args below meth c H locs cells slots Q (F0 m (pc + 1) ls (.int (g.1 28 0 i.toNatClampNeg) :: rest))) : W p l e R s m args below meth c H locs cells slots Q (F0 m pc ls (.int i :: .ref (sb 18) :: rest)) :=
  mg_iald C0.1 C0.2.1 C0.2.2.2.2.2 M.1 (k := 18) (Or.inl (by decide)) rfl 0 rfl rfl hin hdg kk
theorem ln_Mlows (C0 : Cx p s m args c cc nL own D cy) (M : Ws D b0 cy sb db g s H locs) (hdg : decode cc pc = .ok (.arraylength, 1)) (kk : W p l e R s m args below meth c H locs cells slots Q (F0 m (pc + 1) ls (.int (nI 72) :: rest))) : W p l e R s m args below meth c H locs cells slots Q (F0 m pc ls (.ref (sb 18) :: rest)) :=
  mg_alen C0.1 C0.2.1 C0.2.2.2.2.2 M.1 (k := 18) (Or.inl (by decide)) rfl 0 rfl rfl hdg kk
theorem sv_Mlows (cy : Cy) (sb db : Nat → Nat) (g : Gs) (j : Nat) (v : Int32) : ∀ k, lvk k → va_up (cont cy sb db g) (18) (.inl (cy.1, 72, .inl (upd (g.1 28 0) j v))) k = cont cy sb db (sI g 28 0 j v) k := by
  intro k hk
  by_cases h : k = 18
  · subst h
    rw [va_up_self]
    show _ = cnA cy sb db _ 18
    simp [cnA, sI_at, sI, sA]
  · rw [va_up_ne _ _ h]
    exact (cont_sI (c := 28) (o := 0) hk h).symm
theorem as_Mlows (C0 : Cx p s m args c cc nL own D cy) (M : Ws D b0 cy sb db g s H locs) {i : Int32} {x : Int32} (hin : vp_in i 72) {g2 : Gs} (hg : g2 = sI g 28 0 i.toNatClampNeg x) (hdg : decode cc pc = .ok (.iastore, 1)) (kk : ∀ (H1 : Heap) (locs1 : List Loc), Ws D b0 cy sb db g2 s H1 locs1 → W p l e R s m args below meth c H1 locs1 cells slots Q (F0 m (pc + 1) ls rest)) : W p l e R s m args below meth c H locs cells slots Q (F0 m pc ls (.int x :: .int i :: .ref (sb 18) :: rest)) := by
  subst hg
  exact mg_iast C0.1 C0.2.1 C0.2.2.2.2.2 M.1 M.2 (k := 18) (Or.inl (by decide)) rfl 0 rfl rfl hin hdg (fun H1 locs1 M1 S1 => kk H1 locs1 ⟨mp_congr M1 (sv_Mlows cy sb db g _ _), S1⟩)
theorem al_Mhighs (C0 : Cx p s m args c cc nL own D cy) (M : Ws D b0 cy sb db g s H locs) {i : Int32} (hin : vp_in i 72) (hdg : decode cc pc = .ok (.iaload, 1)) (kk : W p l e R s m args below meth c H locs cells slots Q (F0 m (pc + 1) ls (.int (g.1 29 0 i.toNatClampNeg) :: rest))) : W p l e R s m args below meth c H locs cells slots Q (F0 m pc ls (.int i :: .ref (sb 19) :: rest)) :=
  mg_iald C0.1 C0.2.1 C0.2.2.2.2.2 M.1 (k := 19) (Or.inl (by decide)) rfl 0 rfl rfl hin hdg kk
theorem ln_Mhighs (C0 : Cx p s m args c cc nL own D cy) (M : Ws D b0 cy sb db g s H locs) (hdg : decode cc pc = .ok (.arraylength, 1)) (kk : W p l e R s m args below meth c H locs cells slots Q (F0 m (pc + 1) ls (.int (nI 72) :: rest))) : W p l e R s m args below meth c H locs cells slots Q (F0 m pc ls (.ref (sb 19) :: rest)) :=
  mg_alen C0.1 C0.2.1 C0.2.2.2.2.2 M.1 (k := 19) (Or.inl (by decide)) rfl 0 rfl rfl hdg kk
theorem sv_Mhighs (cy : Cy) (sb db : Nat → Nat) (g : Gs) (j : Nat) (v : Int32) : ∀ k, lvk k → va_up (cont cy sb db g) (19) (.inl (cy.1, 72, .inl (upd (g.1 29 0) j v))) k = cont cy sb db (sI g 29 0 j v) k := by
  intro k hk
  by_cases h : k = 19
  · subst h
    rw [va_up_self]
    show _ = cnA cy sb db _ 19
    simp [cnA, sI_at, sI, sA]
  · rw [va_up_ne _ _ h]
    exact (cont_sI (c := 29) (o := 0) hk h).symm
theorem as_Mhighs (C0 : Cx p s m args c cc nL own D cy) (M : Ws D b0 cy sb db g s H locs) {i : Int32} {x : Int32} (hin : vp_in i 72) {g2 : Gs} (hg : g2 = sI g 29 0 i.toNatClampNeg x) (hdg : decode cc pc = .ok (.iastore, 1)) (kk : ∀ (H1 : Heap) (locs1 : List Loc), Ws D b0 cy sb db g2 s H1 locs1 → W p l e R s m args below meth c H1 locs1 cells slots Q (F0 m (pc + 1) ls rest)) : W p l e R s m args below meth c H locs cells slots Q (F0 m pc ls (.int x :: .int i :: .ref (sb 19) :: rest)) := by
  subst hg
  exact mg_iast C0.1 C0.2.1 C0.2.2.2.2.2 M.1 M.2 (k := 19) (Or.inl (by decide)) rfl 0 rfl rfl hin hdg (fun H1 locs1 M1 S1 => kk H1 locs1 ⟨mp_congr M1 (sv_Mhighs cy sb db g _ _), S1⟩)
theorem al_MrowOf (C0 : Cx p s m args c cc nL own D cy) (M : Ws D b0 cy sb db g s H locs) {i : Int32} (hin : vp_in i 24) (hdg : decode cc pc = .ok (.iaload, 1)) (kk : W p l e R s m args below meth c H locs cells slots Q (F0 m (pc + 1) ls (.int (g.1 30 0 i.toNatClampNeg) :: rest))) : W p l e R s m args below meth c H locs cells slots Q (F0 m pc ls (.int i :: .ref (sb 20) :: rest)) :=
  mg_iald C0.1 C0.2.1 C0.2.2.2.2.2 M.1 (k := 20) (Or.inl (by decide)) rfl 0 rfl rfl hin hdg kk
theorem ln_MrowOf (C0 : Cx p s m args c cc nL own D cy) (M : Ws D b0 cy sb db g s H locs) (hdg : decode cc pc = .ok (.arraylength, 1)) (kk : W p l e R s m args below meth c H locs cells slots Q (F0 m (pc + 1) ls (.int (nI 24) :: rest))) : W p l e R s m args below meth c H locs cells slots Q (F0 m pc ls (.ref (sb 20) :: rest)) :=
  mg_alen C0.1 C0.2.1 C0.2.2.2.2.2 M.1 (k := 20) (Or.inl (by decide)) rfl 0 rfl rfl hdg kk
theorem sv_MrowOf (cy : Cy) (sb db : Nat → Nat) (g : Gs) (j : Nat) (v : Int32) : ∀ k, lvk k → va_up (cont cy sb db g) (20) (.inl (cy.1, 24, .inl (upd (g.1 30 0) j v))) k = cont cy sb db (sI g 30 0 j v) k := by
  intro k hk
  by_cases h : k = 20
  · subst h
    rw [va_up_self]
    show _ = cnA cy sb db _ 20
    simp [cnA, sI_at, sI, sA]
  · rw [va_up_ne _ _ h]
    exact (cont_sI (c := 30) (o := 0) hk h).symm
theorem as_MrowOf (C0 : Cx p s m args c cc nL own D cy) (M : Ws D b0 cy sb db g s H locs) {i : Int32} {x : Int32} (hin : vp_in i 24) {g2 : Gs} (hg : g2 = sI g 30 0 i.toNatClampNeg x) (hdg : decode cc pc = .ok (.iastore, 1)) (kk : ∀ (H1 : Heap) (locs1 : List Loc), Ws D b0 cy sb db g2 s H1 locs1 → W p l e R s m args below meth c H1 locs1 cells slots Q (F0 m (pc + 1) ls rest)) : W p l e R s m args below meth c H locs cells slots Q (F0 m pc ls (.int x :: .int i :: .ref (sb 20) :: rest)) := by
  subst hg
  exact mg_iast C0.1 C0.2.1 C0.2.2.2.2.2 M.1 M.2 (k := 20) (Or.inl (by decide)) rfl 0 rfl rfl hin hdg (fun H1 locs1 M1 S1 => kk H1 locs1 ⟨mp_congr M1 (sv_MrowOf cy sb db g _ _), S1⟩)
theorem al_MrowAt (C0 : Cx p s m args c cc nL own D cy) (M : Ws D b0 cy sb db g s H locs) {i : Int32} (hin : vp_in i 13000) (hdg : decode cc pc = .ok (.iaload, 1)) (kk : W p l e R s m args below meth c H locs cells slots Q (F0 m (pc + 1) ls (.int (g.1 32 0 i.toNatClampNeg) :: rest))) : W p l e R s m args below meth c H locs cells slots Q (F0 m pc ls (.int i :: .ref (sb 21) :: rest)) :=
  mg_iald C0.1 C0.2.1 C0.2.2.2.2.2 M.1 (k := 21) (Or.inl (by decide)) rfl 0 rfl rfl hin hdg kk
theorem ln_MrowAt (C0 : Cx p s m args c cc nL own D cy) (M : Ws D b0 cy sb db g s H locs) (hdg : decode cc pc = .ok (.arraylength, 1)) (kk : W p l e R s m args below meth c H locs cells slots Q (F0 m (pc + 1) ls (.int (nI 13000) :: rest))) : W p l e R s m args below meth c H locs cells slots Q (F0 m pc ls (.ref (sb 21) :: rest)) :=
  mg_alen C0.1 C0.2.1 C0.2.2.2.2.2 M.1 (k := 21) (Or.inl (by decide)) rfl 0 rfl rfl hdg kk
theorem sv_MrowAt (cy : Cy) (sb db : Nat → Nat) (g : Gs) (j : Nat) (v : Int32) : ∀ k, lvk k → va_up (cont cy sb db g) (21) (.inl (cy.1, 13000, .inl (upd (g.1 32 0) j v))) k = cont cy sb db (sI g 32 0 j v) k := by
  intro k hk
  by_cases h : k = 21
  · subst h
    rw [va_up_self]
    show _ = cnA cy sb db _ 21
    simp [cnA, sI_at, sI, sA]
  · rw [va_up_ne _ _ h]
    exact (cont_sI (c := 32) (o := 0) hk h).symm
theorem as_MrowAt (C0 : Cx p s m args c cc nL own D cy) (M : Ws D b0 cy sb db g s H locs) {i : Int32} {x : Int32} (hin : vp_in i 13000) {g2 : Gs} (hg : g2 = sI g 32 0 i.toNatClampNeg x) (hdg : decode cc pc = .ok (.iastore, 1)) (kk : ∀ (H1 : Heap) (locs1 : List Loc), Ws D b0 cy sb db g2 s H1 locs1 → W p l e R s m args below meth c H1 locs1 cells slots Q (F0 m (pc + 1) ls rest)) : W p l e R s m args below meth c H locs cells slots Q (F0 m pc ls (.int x :: .int i :: .ref (sb 21) :: rest)) := by
  subst hg
  exact mg_iast C0.1 C0.2.1 C0.2.2.2.2.2 M.1 M.2 (k := 21) (Or.inl (by decide)) rfl 0 rfl rfl hin hdg (fun H1 locs1 M1 S1 => kk H1 locs1 ⟨mp_congr M1 (sv_MrowAt cy sb db g _ _), S1⟩)
theorem al_MrowSize (C0 : Cx p s m args c cc nL own D cy) (M : Ws D b0 cy sb db g s H locs) {i : Int32} (hin : vp_in i 13000) (hdg : decode cc pc = .ok (.iaload, 1)) (kk : W p l e R s m args below meth c H locs cells slots Q (F0 m (pc + 1) ls (.int (g.1 33 0 i.toNatClampNeg) :: rest))) : W p l e R s m args below meth c H locs cells slots Q (F0 m pc ls (.int i :: .ref (sb 22) :: rest)) :=
  mg_iald C0.1 C0.2.1 C0.2.2.2.2.2 M.1 (k := 22) (Or.inl (by decide)) rfl 0 rfl rfl hin hdg kk
theorem ln_MrowSize (C0 : Cx p s m args c cc nL own D cy) (M : Ws D b0 cy sb db g s H locs) (hdg : decode cc pc = .ok (.arraylength, 1)) (kk : W p l e R s m args below meth c H locs cells slots Q (F0 m (pc + 1) ls (.int (nI 13000) :: rest))) : W p l e R s m args below meth c H locs cells slots Q (F0 m pc ls (.ref (sb 22) :: rest)) :=
  mg_alen C0.1 C0.2.1 C0.2.2.2.2.2 M.1 (k := 22) (Or.inl (by decide)) rfl 0 rfl rfl hdg kk
theorem sv_MrowSize (cy : Cy) (sb db : Nat → Nat) (g : Gs) (j : Nat) (v : Int32) : ∀ k, lvk k → va_up (cont cy sb db g) (22) (.inl (cy.1, 13000, .inl (upd (g.1 33 0) j v))) k = cont cy sb db (sI g 33 0 j v) k := by
  intro k hk
  by_cases h : k = 22
  · subst h
    rw [va_up_self]
    show _ = cnA cy sb db _ 22
    simp [cnA, sI_at, sI, sA]
  · rw [va_up_ne _ _ h]
    exact (cont_sI (c := 33) (o := 0) hk h).symm
theorem as_MrowSize (C0 : Cx p s m args c cc nL own D cy) (M : Ws D b0 cy sb db g s H locs) {i : Int32} {x : Int32} (hin : vp_in i 13000) {g2 : Gs} (hg : g2 = sI g 33 0 i.toNatClampNeg x) (hdg : decode cc pc = .ok (.iastore, 1)) (kk : ∀ (H1 : Heap) (locs1 : List Loc), Ws D b0 cy sb db g2 s H1 locs1 → W p l e R s m args below meth c H1 locs1 cells slots Q (F0 m (pc + 1) ls rest)) : W p l e R s m args below meth c H locs cells slots Q (F0 m pc ls (.int x :: .int i :: .ref (sb 22) :: rest)) := by
  subst hg
  exact mg_iast C0.1 C0.2.1 C0.2.2.2.2.2 M.1 M.2 (k := 22) (Or.inl (by decide)) rfl 0 rfl rfl hin hdg (fun H1 locs1 M1 S1 => kk H1 locs1 ⟨mp_congr M1 (sv_MrowSize cy sb db g _ _), S1⟩)
theorem al_Mpool (C0 : Cx p s m args c cc nL own D cy) (M : Ws D b0 cy sb db g s H locs) {i : Int32} (hin : vp_in i 300000) (hdg : decode cc pc = .ok (.laload, 1)) (kk : W p l e R s m args below meth c H locs cells slots Q (F0 m (pc + 1) ls (.long (g.2.1 2 i.toNatClampNeg) :: rest))) : W p l e R s m args below meth c H locs cells slots Q (F0 m pc ls (.int i :: .ref (sb 23) :: rest)) :=
  mg_lald C0.1 C0.2.1 C0.2.2.2.2.2 M.1 (k := 23) (Or.inl (by decide)) rfl 1 rfl rfl hin hdg kk
theorem ln_Mpool (C0 : Cx p s m args c cc nL own D cy) (M : Ws D b0 cy sb db g s H locs) (hdg : decode cc pc = .ok (.arraylength, 1)) (kk : W p l e R s m args below meth c H locs cells slots Q (F0 m (pc + 1) ls (.int (nI 300000) :: rest))) : W p l e R s m args below meth c H locs cells slots Q (F0 m pc ls (.ref (sb 23) :: rest)) :=
  mg_alen C0.1 C0.2.1 C0.2.2.2.2.2 M.1 (k := 23) (Or.inl (by decide)) rfl 1 rfl rfl hdg kk
theorem sv_Mpool (cy : Cy) (sb db : Nat → Nat) (g : Gs) (j : Nat) (v : Int64) : ∀ k, lvk k → va_up (cont cy sb db g) (23) (.inl (cy.2.1, 300000, .inr (.inl (vp_updL (g.2.1 2) j v)))) k = cont cy sb db (sL g 2 j v) k := by
  intro k hk
  by_cases h : k = 23
  · subst h
    rw [va_up_self]
    show _ = cnA cy sb db _ 23
    simp [cnA, sL_at, sL]
  · rw [va_up_ne _ _ h]
    exact (cont_sL (c := 2) hk h).symm
theorem as_Mpool (C0 : Cx p s m args c cc nL own D cy) (M : Ws D b0 cy sb db g s H locs) {i : Int32} {x : Int64} (hin : vp_in i 300000) {g2 : Gs} (hg : g2 = sL g 2 i.toNatClampNeg x) (hdg : decode cc pc = .ok (.lastore, 1)) (kk : ∀ (H1 : Heap) (locs1 : List Loc), Ws D b0 cy sb db g2 s H1 locs1 → W p l e R s m args below meth c H1 locs1 cells slots Q (F0 m (pc + 1) ls rest)) : W p l e R s m args below meth c H locs cells slots Q (F0 m pc ls (.long x :: .int i :: .ref (sb 23) :: rest)) := by
  subst hg
  exact mg_last C0.1 C0.2.1 C0.2.2.2.2.2 M.1 M.2 (k := 23) (Or.inl (by decide)) rfl 1 rfl rfl hin hdg (fun H1 locs1 M1 S1 => kk H1 locs1 ⟨mp_congr M1 (sv_Mpool cy sb db g _ _), S1⟩)
theorem al_MhasBox (C0 : Cx p s m args c cc nL own D cy) (M : Ws D b0 cy sb db g s H locs) {i : Int32} (hin : vp_in i 300000) (hdg : decode cc pc = .ok (.baload, 1)) (kk : W p l e R s m args below meth c H locs cells slots Q (F0 m (pc + 1) ls (.int (g.1 36 0 i.toNatClampNeg) :: rest))) : W p l e R s m args below meth c H locs cells slots Q (F0 m pc ls (.int i :: .ref (sb 24) :: rest)) :=
  mg_zald C0.1 C0.2.1 C0.2.2.2.2.2 M.1 (k := 24) (Or.inl (by decide)) rfl 2 rfl rfl hin hdg kk
theorem ln_MhasBox (C0 : Cx p s m args c cc nL own D cy) (M : Ws D b0 cy sb db g s H locs) (hdg : decode cc pc = .ok (.arraylength, 1)) (kk : W p l e R s m args below meth c H locs cells slots Q (F0 m (pc + 1) ls (.int (nI 300000) :: rest))) : W p l e R s m args below meth c H locs cells slots Q (F0 m pc ls (.ref (sb 24) :: rest)) :=
  mg_alen C0.1 C0.2.1 C0.2.2.2.2.2 M.1 (k := 24) (Or.inl (by decide)) rfl 2 rfl rfl hdg kk
theorem sv_MhasBox (cy : Cy) (sb db : Nat → Nat) (g : Gs) (j : Nat) (v : Int32) : ∀ k, lvk k → va_up (cont cy sb db g) (24) (.inl (cy.2.2.1, 300000, .inl (upd (g.1 36 0) j v))) k = cont cy sb db (sI g 36 0 j v) k := by
  intro k hk
  by_cases h : k = 24
  · subst h
    rw [va_up_self]
    show _ = cnA cy sb db _ 24
    simp [cnA, sI_at, sI, sA]
  · rw [va_up_ne _ _ h]
    exact (cont_sI (c := 36) (o := 0) hk h).symm
theorem as_MhasBox (C0 : Cx p s m args c cc nL own D cy) (M : Ws D b0 cy sb db g s H locs) {i : Int32} {x : Int32} (hin : vp_in i 300000) {g2 : Gs} (hg : g2 = sI g 36 0 i.toNatClampNeg (vp_nar .boolean x)) (hdg : decode cc pc = .ok (.bastore, 1)) (kk : ∀ (H1 : Heap) (locs1 : List Loc), Ws D b0 cy sb db g2 s H1 locs1 → W p l e R s m args below meth c H1 locs1 cells slots Q (F0 m (pc + 1) ls rest)) : W p l e R s m args below meth c H locs cells slots Q (F0 m pc ls (.int x :: .int i :: .ref (sb 24) :: rest)) := by
  subst hg
  exact mg_zast C0.1 C0.2.1 C0.2.2.2.2.2 M.1 M.2 (k := 24) (Or.inl (by decide)) rfl 2 rfl rfl hin hdg (fun H1 locs1 M1 S1 => kk H1 locs1 ⟨mp_congr M1 (sv_MhasBox cy sb db g _ _), S1⟩)
theorem al_Mslot (C0 : Cx p s m args c cc nL own D cy) (M : Ws D b0 cy sb db g s H locs) {i : Int32} (hin : vp_in i 12100) (hdg : decode cc pc = .ok (.iaload, 1)) (kk : W p l e R s m args below meth c H locs cells slots Q (F0 m (pc + 1) ls (.int (g.1 38 0 i.toNatClampNeg) :: rest))) : W p l e R s m args below meth c H locs cells slots Q (F0 m pc ls (.int i :: .ref (sb 25) :: rest)) :=
  mg_iald C0.1 C0.2.1 C0.2.2.2.2.2 M.1 (k := 25) (Or.inl (by decide)) rfl 0 rfl rfl hin hdg kk
theorem ln_Mslot (C0 : Cx p s m args c cc nL own D cy) (M : Ws D b0 cy sb db g s H locs) (hdg : decode cc pc = .ok (.arraylength, 1)) (kk : W p l e R s m args below meth c H locs cells slots Q (F0 m (pc + 1) ls (.int (nI 12100) :: rest))) : W p l e R s m args below meth c H locs cells slots Q (F0 m pc ls (.ref (sb 25) :: rest)) :=
  mg_alen C0.1 C0.2.1 C0.2.2.2.2.2 M.1 (k := 25) (Or.inl (by decide)) rfl 0 rfl rfl hdg kk
theorem sv_Mslot (cy : Cy) (sb db : Nat → Nat) (g : Gs) (j : Nat) (v : Int32) : ∀ k, lvk k → va_up (cont cy sb db g) (25) (.inl (cy.1, 12100, .inl (upd (g.1 38 0) j v))) k = cont cy sb db (sI g 38 0 j v) k := by
  intro k hk
  by_cases h : k = 25
  · subst h
    rw [va_up_self]
    show _ = cnA cy sb db _ 25
    simp [cnA, sI_at, sI, sA]
  · rw [va_up_ne _ _ h]
    exact (cont_sI (c := 38) (o := 0) hk h).symm
theorem as_Mslot (C0 : Cx p s m args c cc nL own D cy) (M : Ws D b0 cy sb db g s H locs) {i : Int32} {x : Int32} (hin : vp_in i 12100) {g2 : Gs} (hg : g2 = sI g 38 0 i.toNatClampNeg x) (hdg : decode cc pc = .ok (.iastore, 1)) (kk : ∀ (H1 : Heap) (locs1 : List Loc), Ws D b0 cy sb db g2 s H1 locs1 → W p l e R s m args below meth c H1 locs1 cells slots Q (F0 m (pc + 1) ls rest)) : W p l e R s m args below meth c H locs cells slots Q (F0 m pc ls (.int x :: .int i :: .ref (sb 25) :: rest)) := by
  subst hg
  exact mg_iast C0.1 C0.2.1 C0.2.2.2.2.2 M.1 M.2 (k := 25) (Or.inl (by decide)) rfl 0 rfl rfl hin hdg (fun H1 locs1 M1 S1 => kk H1 locs1 ⟨mp_congr M1 (sv_Mslot cy sb db g _ _), S1⟩)
theorem al_MlineI (C0 : Cx p s m args c cc nL own D cy) (M : Ws D b0 cy sb db g s H locs) {i : Int32} (hin : vp_in i 30) (hdg : decode cc pc = .ok (.iaload, 1)) (kk : W p l e R s m args below meth c H locs cells slots Q (F0 m (pc + 1) ls (.int (g.1 40 0 i.toNatClampNeg) :: rest))) : W p l e R s m args below meth c H locs cells slots Q (F0 m pc ls (.int i :: .ref (sb 26) :: rest)) :=
  mg_iald C0.1 C0.2.1 C0.2.2.2.2.2 M.1 (k := 26) (Or.inl (by decide)) rfl 0 rfl rfl hin hdg kk
theorem ln_MlineI (C0 : Cx p s m args c cc nL own D cy) (M : Ws D b0 cy sb db g s H locs) (hdg : decode cc pc = .ok (.arraylength, 1)) (kk : W p l e R s m args below meth c H locs cells slots Q (F0 m (pc + 1) ls (.int (nI 30) :: rest))) : W p l e R s m args below meth c H locs cells slots Q (F0 m pc ls (.ref (sb 26) :: rest)) :=
  mg_alen C0.1 C0.2.1 C0.2.2.2.2.2 M.1 (k := 26) (Or.inl (by decide)) rfl 0 rfl rfl hdg kk
theorem sv_MlineI (cy : Cy) (sb db : Nat → Nat) (g : Gs) (j : Nat) (v : Int32) : ∀ k, lvk k → va_up (cont cy sb db g) (26) (.inl (cy.1, 30, .inl (upd (g.1 40 0) j v))) k = cont cy sb db (sI g 40 0 j v) k := by
  intro k hk
  by_cases h : k = 26
  · subst h
    rw [va_up_self]
    show _ = cnA cy sb db _ 26
    simp [cnA, sI_at, sI, sA]
  · rw [va_up_ne _ _ h]
    exact (cont_sI (c := 40) (o := 0) hk h).symm
theorem as_MlineI (C0 : Cx p s m args c cc nL own D cy) (M : Ws D b0 cy sb db g s H locs) {i : Int32} {x : Int32} (hin : vp_in i 30) {g2 : Gs} (hg : g2 = sI g 40 0 i.toNatClampNeg x) (hdg : decode cc pc = .ok (.iastore, 1)) (kk : ∀ (H1 : Heap) (locs1 : List Loc), Ws D b0 cy sb db g2 s H1 locs1 → W p l e R s m args below meth c H1 locs1 cells slots Q (F0 m (pc + 1) ls rest)) : W p l e R s m args below meth c H locs cells slots Q (F0 m pc ls (.int x :: .int i :: .ref (sb 26) :: rest)) := by
  subst hg
  exact mg_iast C0.1 C0.2.1 C0.2.2.2.2.2 M.1 M.2 (k := 26) (Or.inl (by decide)) rfl 0 rfl rfl hin hdg (fun H1 locs1 M1 S1 => kk H1 locs1 ⟨mp_congr M1 (sv_MlineI cy sb db g _ _), S1⟩)
theorem al_MlineJ (C0 : Cx p s m args c cc nL own D cy) (M : Ws D b0 cy sb db g s H locs) {i : Int32} (hin : vp_in i 30) (hdg : decode cc pc = .ok (.iaload, 1)) (kk : W p l e R s m args below meth c H locs cells slots Q (F0 m (pc + 1) ls (.int (g.1 41 0 i.toNatClampNeg) :: rest))) : W p l e R s m args below meth c H locs cells slots Q (F0 m pc ls (.int i :: .ref (sb 27) :: rest)) :=
  mg_iald C0.1 C0.2.1 C0.2.2.2.2.2 M.1 (k := 27) (Or.inl (by decide)) rfl 0 rfl rfl hin hdg kk
theorem ln_MlineJ (C0 : Cx p s m args c cc nL own D cy) (M : Ws D b0 cy sb db g s H locs) (hdg : decode cc pc = .ok (.arraylength, 1)) (kk : W p l e R s m args below meth c H locs cells slots Q (F0 m (pc + 1) ls (.int (nI 30) :: rest))) : W p l e R s m args below meth c H locs cells slots Q (F0 m pc ls (.ref (sb 27) :: rest)) :=
  mg_alen C0.1 C0.2.1 C0.2.2.2.2.2 M.1 (k := 27) (Or.inl (by decide)) rfl 0 rfl rfl hdg kk
theorem sv_MlineJ (cy : Cy) (sb db : Nat → Nat) (g : Gs) (j : Nat) (v : Int32) : ∀ k, lvk k → va_up (cont cy sb db g) (27) (.inl (cy.1, 30, .inl (upd (g.1 41 0) j v))) k = cont cy sb db (sI g 41 0 j v) k := by
  intro k hk
  by_cases h : k = 27
  · subst h
    rw [va_up_self]
    show _ = cnA cy sb db _ 27
    simp [cnA, sI_at, sI, sA]
  · rw [va_up_ne _ _ h]
    exact (cont_sI (c := 41) (o := 0) hk h).symm
theorem as_MlineJ (C0 : Cx p s m args c cc nL own D cy) (M : Ws D b0 cy sb db g s H locs) {i : Int32} {x : Int32} (hin : vp_in i 30) {g2 : Gs} (hg : g2 = sI g 41 0 i.toNatClampNeg x) (hdg : decode cc pc = .ok (.iastore, 1)) (kk : ∀ (H1 : Heap) (locs1 : List Loc), Ws D b0 cy sb db g2 s H1 locs1 → W p l e R s m args below meth c H1 locs1 cells slots Q (F0 m (pc + 1) ls rest)) : W p l e R s m args below meth c H locs cells slots Q (F0 m pc ls (.int x :: .int i :: .ref (sb 27) :: rest)) := by
  subst hg
  exact mg_iast C0.1 C0.2.1 C0.2.2.2.2.2 M.1 M.2 (k := 27) (Or.inl (by decide)) rfl 0 rfl rfl hin hdg (fun H1 locs1 M1 S1 => kk H1 locs1 ⟨mp_congr M1 (sv_MlineJ cy sb db g _ _), S1⟩)
theorem al_MlineK (C0 : Cx p s m args c cc nL own D cy) (M : Ws D b0 cy sb db g s H locs) {i : Int32} (hin : vp_in i 30) (hdg : decode cc pc = .ok (.iaload, 1)) (kk : W p l e R s m args below meth c H locs cells slots Q (F0 m (pc + 1) ls (.int (g.1 42 0 i.toNatClampNeg) :: rest))) : W p l e R s m args below meth c H locs cells slots Q (F0 m pc ls (.int i :: .ref (sb 28) :: rest)) :=
  mg_iald C0.1 C0.2.1 C0.2.2.2.2.2 M.1 (k := 28) (Or.inl (by decide)) rfl 0 rfl rfl hin hdg kk
theorem ln_MlineK (C0 : Cx p s m args c cc nL own D cy) (M : Ws D b0 cy sb db g s H locs) (hdg : decode cc pc = .ok (.arraylength, 1)) (kk : W p l e R s m args below meth c H locs cells slots Q (F0 m (pc + 1) ls (.int (nI 30) :: rest))) : W p l e R s m args below meth c H locs cells slots Q (F0 m pc ls (.ref (sb 28) :: rest)) :=
  mg_alen C0.1 C0.2.1 C0.2.2.2.2.2 M.1 (k := 28) (Or.inl (by decide)) rfl 0 rfl rfl hdg kk
theorem sv_MlineK (cy : Cy) (sb db : Nat → Nat) (g : Gs) (j : Nat) (v : Int32) : ∀ k, lvk k → va_up (cont cy sb db g) (28) (.inl (cy.1, 30, .inl (upd (g.1 42 0) j v))) k = cont cy sb db (sI g 42 0 j v) k := by
  intro k hk
  by_cases h : k = 28
  · subst h
    rw [va_up_self]
    show _ = cnA cy sb db _ 28
    simp [cnA, sI_at, sI, sA]
  · rw [va_up_ne _ _ h]
    exact (cont_sI (c := 42) (o := 0) hk h).symm
theorem as_MlineK (C0 : Cx p s m args c cc nL own D cy) (M : Ws D b0 cy sb db g s H locs) {i : Int32} {x : Int32} (hin : vp_in i 30) {g2 : Gs} (hg : g2 = sI g 42 0 i.toNatClampNeg x) (hdg : decode cc pc = .ok (.iastore, 1)) (kk : ∀ (H1 : Heap) (locs1 : List Loc), Ws D b0 cy sb db g2 s H1 locs1 → W p l e R s m args below meth c H1 locs1 cells slots Q (F0 m (pc + 1) ls rest)) : W p l e R s m args below meth c H locs cells slots Q (F0 m pc ls (.int x :: .int i :: .ref (sb 28) :: rest)) := by
  subst hg
  exact mg_iast C0.1 C0.2.1 C0.2.2.2.2.2 M.1 M.2 (k := 28) (Or.inl (by decide)) rfl 0 rfl rfl hin hdg (fun H1 locs1 M1 S1 => kk H1 locs1 ⟨mp_congr M1 (sv_MlineK cy sb db g _ _), S1⟩)
theorem al_MlineV (C0 : Cx p s m args c cc nL own D cy) (M : Ws D b0 cy sb db g s H locs) {i : Int32} (hin : vp_in i 30) (hdg : decode cc pc = .ok (.laload, 1)) (kk : W p l e R s m args below meth c H locs cells slots Q (F0 m (pc + 1) ls (.long (g.2.1 3 i.toNatClampNeg) :: rest))) : W p l e R s m args below meth c H locs cells slots Q (F0 m pc ls (.int i :: .ref (sb 29) :: rest)) :=
  mg_lald C0.1 C0.2.1 C0.2.2.2.2.2 M.1 (k := 29) (Or.inl (by decide)) rfl 1 rfl rfl hin hdg kk
theorem ln_MlineV (C0 : Cx p s m args c cc nL own D cy) (M : Ws D b0 cy sb db g s H locs) (hdg : decode cc pc = .ok (.arraylength, 1)) (kk : W p l e R s m args below meth c H locs cells slots Q (F0 m (pc + 1) ls (.int (nI 30) :: rest))) : W p l e R s m args below meth c H locs cells slots Q (F0 m pc ls (.ref (sb 29) :: rest)) :=
  mg_alen C0.1 C0.2.1 C0.2.2.2.2.2 M.1 (k := 29) (Or.inl (by decide)) rfl 1 rfl rfl hdg kk
theorem sv_MlineV (cy : Cy) (sb db : Nat → Nat) (g : Gs) (j : Nat) (v : Int64) : ∀ k, lvk k → va_up (cont cy sb db g) (29) (.inl (cy.2.1, 30, .inr (.inl (vp_updL (g.2.1 3) j v)))) k = cont cy sb db (sL g 3 j v) k := by
  intro k hk
  by_cases h : k = 29
  · subst h
    rw [va_up_self]
    show _ = cnA cy sb db _ 29
    simp [cnA, sL_at, sL]
  · rw [va_up_ne _ _ h]
    exact (cont_sL (c := 3) hk h).symm
theorem as_MlineV (C0 : Cx p s m args c cc nL own D cy) (M : Ws D b0 cy sb db g s H locs) {i : Int32} {x : Int64} (hin : vp_in i 30) {g2 : Gs} (hg : g2 = sL g 3 i.toNatClampNeg x) (hdg : decode cc pc = .ok (.lastore, 1)) (kk : ∀ (H1 : Heap) (locs1 : List Loc), Ws D b0 cy sb db g2 s H1 locs1 → W p l e R s m args below meth c H1 locs1 cells slots Q (F0 m (pc + 1) ls rest)) : W p l e R s m args below meth c H locs cells slots Q (F0 m pc ls (.long x :: .int i :: .ref (sb 29) :: rest)) := by
  subst hg
  exact mg_last C0.1 C0.2.1 C0.2.2.2.2.2 M.1 M.2 (k := 29) (Or.inl (by decide)) rfl 1 rfl rfl hin hdg (fun H1 locs1 M1 S1 => kk H1 locs1 ⟨mp_congr M1 (sv_MlineV cy sb db g _ _), S1⟩)
theorem al_ARRS (C0 : Cx p s m args c cc nL own D cy) (M : Ws D b0 cy sb db g s H locs) {i : Int32} (hin : vp_in i 24) (hdg : decode cc pc = .ok (.aaload, 1)) (kk : W p l e R s m args below meth c H locs cells slots Q (F0 m (pc + 1) ls (.ref (sb (400 + i.toNatClampNeg)) :: rest))) : W p l e R s m args below meth c H locs cells slots Q (F0 m pc ls (.int i :: .ref (sb 1) :: rest)) :=
  mg_aald C0.1 C0.2.1 C0.2.2.2.2.2 M.1 (k := 1) (Or.inl (by decide)) rfl 3 rfl rfl hin hdg kk
end ROWS
end
section
/-! Words of the functions that the methods are, and the rows of calls and ends. -/
def FU : Nat := 70000
abbrev inb (i : Int32) (n : Nat) : Prop := ¬ (i < 0 ∨ n ≤ i.toNatClampNeg)
def chk {β : Type} (c : Prop) [Decidable c] (k : Option β) : Option β := if c then k else none
theorem chk_s {β : Type} {c : Prop} [Decidable c] {k : Option β} {r : β} (h : chk c k = some r) : c ∧ k = some r := by
  unfold chk at h
  split at h
  · rename_i q
    exact ⟨q, h⟩
  · cases h
def lett {α β : Type} (x : α) (k : α → Option β) : Option β := k x
theorem lett_s {α β : Type} {x : α} {k : α → Option β} {r : β} (h : lett x k = some r) : ∃ v, v = x ∧ k v = some r := ⟨x, rfl, h⟩
def unw {β : Type} (o : Option Nat) (k : Nat → Option β) : Option β := match o with
  | none => none
  | some n => chk (n < 24) (k n)
theorem unw_s {β : Type} {o : Option Nat} {k : Nat → Option β} {r : β} (h : unw o k = some r) : ∃ n, o = some n ∧ n < 24 ∧ k n = some r := by
  cases o with
  | none => cases h
  | some n => exact ⟨n, rfl, (chk_s (show chk _ _ = _ from h)).1, (chk_s (show chk _ _ = _ from h)).2⟩
def cas {β : Type} (o : Option Nat) (a : Option β) (k : Nat → Option β) : Option β := match o with
  | none => a
  | some n => chk (n < 24) (k n)
def exi {β γ ε : Type} (q : β ⊕ ε) (a : β → Option γ) (k : ε → Option γ) : Option γ := match q with
  | .inl r => a r
  | .inr x => k x
theorem bnd_s {α β : Type} {x : Option α} {k : α → Option β} {r : β} (h : x.bind k = some r) : ∃ a, x = some a ∧ k a = some r := by
  cases x with
  | none => cases h
  | some a => exact ⟨a, rfl, h⟩
def rfA (sb : Nat → Nat) (o : Option Nat) : Value := match o with
  | none => .null
  | some n => .ref (sb (400 + n))
def WK (D : va_G) (b0 : Nat) (cy : Cy) (sb db : Nat → Nat) (g : Gs) (U : State) : Prop := mp_ D (fun q => b0 ≤ q) lvk (adr sb db) (cont cy sb db g) U.heap ∧ va_K D vwCl (tyL cy) U
def QX (val : Option Value) (D : va_G) (b0 : Nat) (cy : Cy) (sb db : Nat → Nat) (g : Gs) : Array Value → State → Outcome → State → Prop := fun _ st oc t => oc = .returned val ∧ WK D b0 cy sb db g t ∧ va_F (fun q => b0 ≤ q) st t
abbrev CM (l : Launch) (y : MethodName) (cc : ByteArray) (maxL : Nat) (ret : Option FieldType) (rm : Room) (av : List Value) (val : Option Value) (D : va_G) (b0 : Nat) (cy : Cy) (sb db : Nat → Nat) (g g2 : Gs) : Prop :=
  Met l y (Cond.code y cc maxL ret :: wsL_law) rm (va_Pc av (WK D b0 cy sb db g)) (QX val D b0 cy sb db g2) rm.cells rm.slots (fun q => b0 ≤ q)
def Yb (y : MethodName) (cc : ByteArray) (maxL : Nat) (ret : Option FieldType) (n : Nat) : Prop := Cond.code y cc maxL ret ∈ wsL_law ∧ Cond.initialized y.cls ∈ wsL_law ∧ y.cls ≠ "java/lang/invoke/MethodHandle" ∧ y.cls ≠ "java/lang/invoke/VarHandle" ∧ (parseMethodDescriptor y.desc).map (fun d => d.parameters.length) = some n
def Yv (y : MethodName) (C : String) (cc : ByteArray) (maxL : Nat) (ret : Option FieldType) (n : Nat) : Prop := Yb y cc maxL ret n ∧ Cond.instanceMethod y ∈ wsL_law ∧ Cond.selects C y y ∈ wsL_law
def Ys (y : MethodName) (cc : ByteArray) (maxL : Nat) (ret : Option FieldType) (n : Nat) : Prop := Yb y cc maxL ret n ∧ Cond.static y ∈ wsL_law
theorem wk_blind {av : List Value} {D : va_G} {b0 : Nat} {cy : Cy} {sb db : Nat → Nat} {g : Gs} : FrameBlind (va_Pc av (WK D b0 cy sb db g)) := fun a U g mk q => by
  obtain ⟨q0, q1, q2⟩ := q
  exact ⟨q0, q1, va_K.moved (u := U) (U := U.calling g mk a) (Vm.Alike.refl U.vm) q2⟩
section CALLS
variable {p : Program} {l : Launch} {e : Env} {R : Room} {s : State} {m : MethodId} {args : Array Value} {below : List Frame} {meth : Method} {c : Code} {H : Heap} {locs : List Loc} {cells slots : Nat} {Q : State → Prop}
variable {cc : ByteArray} {pc nL : Nat} {ls : Array Slot} {rest : List Value} {D : va_G} {b0 : Nat} {cy : Cy} {sb db : Nat → Nat} {g g2 : Gs} {own : String}
theorem kr_0 {mc ms : Nat} {a : Array Value} {val : Option Value} {st0 : List Value} (hr : va_Run p l e R s m args below meth c H locs cells slots mc ms (F0 m pc ls st0) rest (QX val D b0 cy sb db g2 a) (fun q => b0 ≤ q)) (M : Ws D b0 cy sb db g s H locs)
    (kk : ∀ (H1 : Heap) (locs1 : List Loc), Ws D b0 cy sb db g2 s H1 locs1 → W p l e R s m args below meth c H1 locs1 (cells + mc) (slots + ms) Q (F0 m (pc + 3) ls (val.toList ++ rest))) : W p l e R s m args below meth c H locs cells slots Q (F0 m pc ls st0) := by
  intro T hT X
  obtain ⟨v, st₀, t, T', L, h0, X', hL, e1, e2, ⟨hv, hw, hz, hk⟩, st⟩ := hr T hT X
  cases hv
  rw [h0] at hz hk
  have hS := M.2
  obtain ⟨t2, a1, b1⟩ := kk T'.heap (locs ++ L) ⟨by rw [e1]; exact hw.1, Nat.le_trans hS.1 (by rw [e1]; exact hz), fun q h1 h2 => by rw [e1, hk q (Nat.lt_of_lt_of_le h1 hS.1) h2]; exact hS.2.1 q h1 h2, fun q hq => by
      rcases List.mem_append.mp hq with h | h
      · exact hS.2.2 q h
      · exact hL q h⟩ T' rfl X'
  exact ⟨t2, st t2 a1, b1⟩
theorem kB {index : Nat} {y : MethodName} {cc2 : ByteArray} {maxL n : Nat} {ret : Option FieldType} {rm : Room} (hts : ∀ w ∈ wsL_law, w.before args s = true) (Y : Yb y cc2 maxL ret n) (hl : Cond.methodLink own index y ∈ wsL_law) (hR : rm.frames + 1 ≤ R.frames ∧ 8 + (maxL + 11) + rm.locals ≤ R.locals) : CallB R s args own index y cc2 maxL ret (Cond.code y cc2 maxL ret :: wsL_law) rm rm.cells rm.slots n :=
  callB_of n hts (gd_law y cc2 maxL ret Y.1) rfl rfl rfl (hts _ Y.2.1) (hts _ hl) Y.2.2 hR
theorem kV {index : Nat} {y : MethodName} {C : String} {cc2 : ByteArray} {maxL n : Nat} {ret : Option FieldType} {rm : Room} {As st0 stk : List Value} {b c1 s1 : Nat} {val : Option Value} (C0 : Cx p s m args c cc nL own D cy) (M : Ws D b0 cy sb db g s H locs) (hM : CM l y cc2 maxL ret rm (.ref b :: As) val D b0 cy sb db g g2) (hl : Cond.methodLink own index y ∈ wsL_law) (Y : Yv y C cc2 maxL ret n)
    (hrv : ∃ cell : Cell, H[b]? = some cell ∧ cell.vm.isStatics = false ∧ s.vm.findClass C = some cell.cls) (hR : rm.frames + 1 ≤ R.frames ∧ 8 + (maxL + 11) + rm.locals ≤ R.locals) (hn : As.length = n) (hsz : ls.size = nL) (hst : st0 = As.reverse ++ .ref b :: rest) (hW : (rest.map fun v => v.category).sum ≤ 8) (hdg : decode cc pc = .ok (.invokevirtual index, 3)) (hc1 : cells + rm.cells = c1) (hs1 : slots + rm.slots = s1) (hf : c1 ≤ R.cells ∧ s1 ≤ R.slots) (hstk : val.toList ++ rest = stk)
    (kk : ∀ (H1 : Heap) (locs1 : List Loc), Ws D b0 cy sb db g2 s H1 locs1 → W p l e R s m args below meth c H1 locs1 c1 s1 Q (F0 m (pc + 3) ls stk)) : W p l e R s m args below meth c H locs cells slots Q (F0 m pc ls st0) := by
  subst hc1; subst hs1; subst hstk
  exact kr_0 (va_runV (C := C) (bytes := cc2) (maxL := maxL) (ret := ret) (n := n) (As := As) (rest := rest) ⟨C0.1, C0.2.1, C0.2.2.1, C0.2.2.2.1, C0.2.2.2.2.1⟩ hM ⟨kB C0.2.2.2.2.1 Y.1 hl hR, C0.2.2.2.2.1 _ Y.2.1, C0.2.2.2.2.1 _ Y.2.2⟩ ⟨wk_blind, hrv, fun U hU hW => ⟨rfl, by rw [hU]; exact M.1, va_K.moved hW.alike C0.2.2.2.2.2⟩⟩ rfl hn hsz hst (lv_room hW) hdg hf) M kk
theorem kS {index : Nat} {y : MethodName} {cc2 : ByteArray} {maxL n : Nat} {ret : Option FieldType} {rm : Room} {As st0 stk : List Value} {c1 s1 : Nat} {val : Option Value} (C0 : Cx p s m args c cc nL own D cy) (M : Ws D b0 cy sb db g s H locs) (hM : CM l y cc2 maxL ret rm As val D b0 cy sb db g g2) (hl : Cond.methodLink own index y ∈ wsL_law) (Y : Ys y cc2 maxL ret n)
    (hR : rm.frames + 1 ≤ R.frames ∧ 8 + (maxL + 11) + rm.locals ≤ R.locals) (hn : As.length = n) (hsz : ls.size = nL) (hst : st0 = As.reverse ++ rest) (hW : (rest.map fun v => v.category).sum ≤ 8) (hdg : decode cc pc = .ok (.invokestatic index, 3)) (hc1 : cells + rm.cells = c1) (hs1 : slots + rm.slots = s1) (hf : c1 ≤ R.cells ∧ s1 ≤ R.slots) (hstk : val.toList ++ rest = stk)
    (kk : ∀ (H1 : Heap) (locs1 : List Loc), Ws D b0 cy sb db g2 s H1 locs1 → W p l e R s m args below meth c H1 locs1 c1 s1 Q (F0 m (pc + 3) ls stk)) : W p l e R s m args below meth c H locs cells slots Q (F0 m pc ls st0) := by
  subst hc1; subst hs1; subst hstk
  exact kr_0 (va_runS (bytes := cc2) (maxL := maxL) (ret := ret) (n := n) (As := As) (rest := rest) ⟨C0.1, C0.2.1, C0.2.2.1, C0.2.2.2.1, C0.2.2.2.2.1⟩ hM ⟨kB C0.2.2.2.2.1 Y.1 hl hR, C0.2.2.2.2.1 _ Y.2⟩ ⟨wk_blind, fun U hU hW => ⟨rfl, by rw [hU]; exact M.1, va_K.moved hW.alike C0.2.2.2.2.2⟩⟩ rfl hn hsz hst (lv_room hW) hdg hf) M kk
/-- who is called -/
theorem rv_X4 (C0 : Cx p s m args c cc nL own D cy) (M : Ws D b0 cy sb db g s H locs) : ∃ cell : Cell, H[sb 0]? = some cell ∧ cell.vm.isStatics = false ∧ s.vm.findClass RX4 = some cell.cls := va_recv (q := (RX4, TX4, 8)) C0.2.2.2.2.2 (mp_one (mp_at M.1 (k := 0) (Or.inl (by decide)) rfl rfl)) (ci := 4) (q0 := 0) rfl rfl
theorem rv_X0 (C0 : Cx p s m args c cc nL own D cy) (M : Ws D b0 cy sb db g s H locs) : ∃ cell : Cell, H[sb 3]? = some cell ∧ cell.vm.isStatics = false ∧ s.vm.findClass RX0 = some cell.cls := va_recv (q := (RX0, TX0, 5)) C0.2.2.2.2.2 (mp_one (mp_at M.1 (k := 3) (Or.inl (by decide)) rfl rfl)) (ci := 0) (q0 := 0) rfl rfl
theorem rv_X3 (C0 : Cx p s m args c cc nL own D cy) (M : Ws D b0 cy sb db g s H locs) : ∃ cell : Cell, H[sb 8]? = some cell ∧ cell.vm.isStatics = false ∧ s.vm.findClass RX3 = some cell.cls := va_recv (q := (RX3, TX3, 6)) C0.2.2.2.2.2 (mp_one (mp_at M.1 (k := 8) (Or.inl (by decide)) rfl rfl)) (ci := 3) (q0 := 0) rfl rfl
theorem rv_X5 (C0 : Cx p s m args c cc nL own D cy) (M : Ws D b0 cy sb db g s H locs) : ∃ cell : Cell, H[sb 13]? = some cell ∧ cell.vm.isStatics = false ∧ s.vm.findClass RX5 = some cell.cls := va_recv (q := (RX5, TX5, 25)) C0.2.2.2.2.2 (mp_one (mp_at M.1 (k := 13) (Or.inl (by decide)) rfl rfl)) (ci := 5) (q0 := 0) rfl rfl
theorem rv_X2 (C0 : Cx p s m args c cc nL own D cy) (M : Ws D b0 cy sb db g s H locs) {o : Nat} (hB : o < 25) : ∃ cell : Cell, H[sb (100 + o)]? = some cell ∧ cell.vm.isStatics = false ∧ s.vm.findClass RX2 = some cell.cls := va_recv (q := (RX2, TX2, 3)) C0.2.2.2.2.2 (mp_one (mp_at M.1 (k := 100 + o) (lv_sh hB) (ad_sh sb db hB) (ct_sh cy sb db g hB))) (ci := 2) (q0 := 0) rfl rfl
theorem rv_X1 (C0 : Cx p s m args c cc nL own D cy) (M : Ws D b0 cy sb db g s H locs) {n : Nat} (hB : n < 24) : ∃ cell : Cell, H[sb (400 + n)]? = some cell ∧ cell.vm.isStatics = false ∧ s.vm.findClass RX1 = some cell.cls := va_recv (q := (RX1, TX1, 4)) C0.2.2.2.2.2 (mp_one (mp_at M.1 (k := 400 + n) (lv_ma hB) (ad_ma sb db hB) (ct_ma cy sb db g hB))) (ci := 1) (q0 := 0) rfl rfl
/-- ends -/
theorem rt_q (C0 : Cx p s m args c cc nL own D cy) (M : Ws D b0 cy sb db g s H locs) (val : Option Value) : ∀ t : State, t.heap = H → s.WarmedH t.vm → QX val D b0 cy sb db g args s (.returned val) t := fun t ht hW => ⟨rfl, ⟨by rw [ht]; exact M.1, va_K.moved hW.alike C0.2.2.2.2.2⟩, M.2.F ht⟩
theorem rt_i (C0 : Cx p s m args c cc nL own D cy) (M : Ws D b0 cy sb db g s H locs) (hr : meth.sig.returnType = some .int) (hk : meth.locks = false) {v : Int32} (hdg : decode cc pc = .ok (.ireturn, 1)) : W p l e R s m args below meth c H locs cells slots (MQ below (QX (some (.int v)) D b0 cy sb db g) args s cells slots (fun q => b0 ≤ q)) (F0 m pc ls [.int v]) := W.iret C0.1 C0.2.1 hr (rt_q C0 M _) M.2.2.2 hdg hk
theorem rt_z (C0 : Cx p s m args c cc nL own D cy) (M : Ws D b0 cy sb db g s H locs) (hr : meth.sig.returnType = some .boolean) (hk : meth.locks = false) {v : Int32} (hv : v &&& 1 = v) (hdg : decode cc pc = .ok (.ireturn, 1)) : W p l e R s m args below meth c H locs cells slots (MQ below (QX (some (.int v)) D b0 cy sb db g) args s cells slots (fun q => b0 ≤ q)) (F0 m pc ls [.int v]) := W.zret C0.1 C0.2.1 hr (show Value.int (v &&& 1) = .int v by rw [hv]) (rt_q C0 M _) M.2.2.2 hdg hk
theorem rt_l (C0 : Cx p s m args c cc nL own D cy) (M : Ws D b0 cy sb db g s H locs) (hr : meth.sig.returnType = some .long) (hk : meth.locks = false) {v : Int64} (hdg : decode cc pc = .ok (.lreturn, 1)) : W p l e R s m args below meth c H locs cells slots (MQ below (QX (some (.long v)) D b0 cy sb db g) args s cells slots (fun q => b0 ≤ q)) (F0 m pc ls [.long v]) := W.lret C0.1 C0.2.1 hr (rt_q C0 M _) M.2.2.2 hdg hk
theorem rt_v (C0 : Cx p s m args c cc nL own D cy) (M : Ws D b0 cy sb db g s H locs) (hr : meth.sig.returnType = none) (hk : meth.locks = false) (hdg : decode cc pc = .ok (.return_, 1)) : W p l e R s m args below meth c H locs cells slots (MQ below (QX none D b0 cy sb db g) args s cells slots (fun q => b0 ≤ q)) (F0 m pc ls []) := W.vret C0.1 C0.2.1 hr (rt_q C0 M _) M.2.2.2 hdg hk
theorem rt_a (C0 : Cx p s m args c cc nL own D cy) (M : Ws D b0 cy sb db g s H locs) {rt : String} (hr : meth.sig.returnType = some (.object rt)) (hk : meth.locks = false) {o : Option Nat} (hdg : decode cc pc = .ok (.areturn, 1)) : W p l e R s m args below meth c H locs cells slots (MQ below (QX (some (rfA sb o)) D b0 cy sb db g) args s cells slots (fun q => b0 ≤ q)) (F0 m pc ls [rfA sb o]) := W.aret C0.1 C0.2.1 hr (Or.inl ⟨_, rfl⟩) (by cases o with
  | none => exact Or.inl rfl
  | some n => exact Or.inr ⟨_, rfl⟩) (rt_q C0 M _) M.2.2.2 hdg hk
/-- names on the stack -/
theorem nm_i {v t : Int32} (hv : v = t) (k : W p l e R s m args below meth c H locs cells slots Q (F0 m pc ls (.int v :: rest))) : W p l e R s m args below meth c H locs cells slots Q (F0 m pc ls (.int t :: rest)) := hv ▸ k
theorem nm_l {v t : Int64} (hv : v = t) (k : W p l e R s m args below meth c H locs cells slots Q (F0 m pc ls (.long v :: rest))) : W p l e R s m args below meth c H locs cells slots Q (F0 m pc ls (.long t :: rest)) := hv ▸ k
/-- references that may be null -/
theorem lq_aload_n (hexec : p.tables.exec = Jvm.exec) (hb : c.code = cc) {k : Fin 4} {i : Nat} (o : Option Nat) (hdg : decode cc pc = .ok (.aload_n k, 1)) (hi : (k : Nat) = i) (hl : ls[i]? = some (.val (rfA sb o))) (kk : W p l e R s m args below meth c H locs cells slots Q (F0 m (pc + 1) ls (rfA sb o :: rest))) : W p l e R s m args below meth c H locs cells slots Q (F0 m pc ls rest) := by
  cases o with
  | none => exact lv_aload_nN hexec hb hdg hi hl kk
  | some n => exact lv_aload_n hexec hb hdg hi hl kk
theorem lq_aload (hexec : p.tables.exec = Jvm.exec) (hb : c.code = cc) {i : Nat} (o : Option Nat) (hdg : decode cc pc = .ok (.aload i, 2)) (hl : ls[i]? = some (.val (rfA sb o))) (kk : W p l e R s m args below meth c H locs cells slots Q (F0 m (pc + 2) ls (rfA sb o :: rest))) : W p l e R s m args below meth c H locs cells slots Q (F0 m pc ls rest) := by
  cases o with
  | none => exact lv_aloadN hexec hb hdg hl kk
  | some n => exact lv_aload hexec hb hdg hl kk
theorem lq_astore_n (hexec : p.tables.exec = Jvm.exec) (hb : c.code = cc) {k : Fin 4} {i nL : Nat} (o : Option Nat) {lv lv' : List (Nat × Value)} (hdg : decode cc pc = .ok (.astore_n k, 1)) (hi : (k : Nat) = i) (h : lv_has ls nL lv) (hn : i < nL) (hl : (i, rfA sb o) :: lv.filter (fun q => !(q.1 == i) && !(q.1 + 1 == i && q.2.category == 2)) = lv')
    (kk : ∀ ls', lv_has ls' nL lv' → W p l e R s m args below meth c H locs cells slots Q (F0 m (pc + 1) ls' rest)) : W p l e R s m args below meth c H locs cells slots Q (F0 m pc ls (rfA sb o :: rest)) := by
  cases o with
  | none => exact lv_astore_nN hexec hb hdg hi h hn hl kk
  | some n => exact lv_astore_n hexec hb hdg hi h hn hl kk
theorem lq_astore (hexec : p.tables.exec = Jvm.exec) (hb : c.code = cc) {i nL : Nat} (o : Option Nat) {lv lv' : List (Nat × Value)} (hdg : decode cc pc = .ok (.astore i, 2)) (h : lv_has ls nL lv) (hn : i < nL) (hl : (i, rfA sb o) :: lv.filter (fun q => !(q.1 == i) && !(q.1 + 1 == i && q.2.category == 2)) = lv')
    (kk : ∀ ls', lv_has ls' nL lv' → W p l e R s m args below meth c H locs cells slots Q (F0 m (pc + 2) ls' rest)) : W p l e R s m args below meth c H locs cells slots Q (F0 m pc ls (rfA sb o :: rest)) := by
  cases o with
  | none => exact lv_astoreN hexec hb hdg h hn hl kk
  | some n => exact lv_astore hexec hb hdg h hn hl kk
end CALLS
end
