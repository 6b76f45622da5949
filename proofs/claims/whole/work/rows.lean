section
-- ===== PART A: goes FIRST, ahead of the names: the tables' words, and 'selects' of the private methods out of them =====
/-- a private method of a class that the tables say can be made, by its rows of tables_1 -/
def lw_okq (q : MethodName × Nat) : Prop := (q.1.cls ≠ "java/lang/invoke/MethodHandle" ∧ q.1.cls ≠ "java/lang/invoke/VarHandle") ∧ Cond.instantiable q.1.cls q.2 ∈ tables_1 ∧ Cond.privateMethod q.1 ∈ tables_1 ∧ Cond.instanceMethod q.1 ∈ tables_1
theorem lw_p0 : lw_okq (⟨"java/lang/Throwable", "fillInStackTrace", "(I)Ljava/lang/Throwable;"⟩, 6) := ⟨⟨by decide +kernel, by decide +kernel⟩, List.mem_of_getElem? (i := 210) (by decide +kernel), List.mem_of_getElem? (i := 208) (by decide +kernel), List.mem_of_getElem? (i := 209) (by decide +kernel)⟩
theorem lw_p1 : lw_okq (⟨"ShapeJudge$Inspector", "inspectLine", "()V"⟩, 4) := ⟨⟨by decide +kernel, by decide +kernel⟩, List.mem_of_getElem? (i := 92) (by decide +kernel), List.mem_of_getElem? (i := 401) (by decide +kernel), List.mem_of_getElem? (i := 402) (by decide +kernel)⟩
theorem lw_p2 : lw_okq (⟨"ShapeJudge$Shapes", "differentPoints", "(I)I"⟩, 8) := ⟨⟨by decide +kernel, by decide +kernel⟩, List.mem_of_getElem? (i := 31) (by decide +kernel), List.mem_of_getElem? (i := 409) (by decide +kernel), List.mem_of_getElem? (i := 410) (by decide +kernel)⟩
theorem lw_p3 : lw_okq (⟨"ShapeJudge$Shapes", "behindChain", "(I)I"⟩, 8) := ⟨⟨by decide +kernel, by decide +kernel⟩, List.mem_of_getElem? (i := 31) (by decide +kernel), List.mem_of_getElem? (i := 413) (by decide +kernel), List.mem_of_getElem? (i := 414) (by decide +kernel)⟩
theorem lw_p4 : lw_okq (⟨"ShapeJudge$Shapes", "isSame", "(II)Z"⟩, 8) := ⟨⟨by decide +kernel, by decide +kernel⟩, List.mem_of_getElem? (i := 31) (by decide +kernel), List.mem_of_getElem? (i := 417) (by decide +kernel), List.mem_of_getElem? (i := 418) (by decide +kernel)⟩
theorem lw_p5 : lw_okq (⟨"ShapeJudge$Shapes", "countPolygons", "(I)I"⟩, 8) := ⟨⟨by decide +kernel, by decide +kernel⟩, List.mem_of_getElem? (i := 31) (by decide +kernel), List.mem_of_getElem? (i := 429) (by decide +kernel), List.mem_of_getElem? (i := 430) (by decide +kernel)⟩
theorem lw_p6 : lw_okq (⟨"ShapeJudge$Shapes", "toPolygon", "(II)LShapeJudge$Polygon;"⟩, 8) := ⟨⟨by decide +kernel, by decide +kernel⟩, List.mem_of_getElem? (i := 31) (by decide +kernel), List.mem_of_getElem? (i := 438) (by decide +kernel), List.mem_of_getElem? (i := 439) (by decide +kernel)⟩
theorem lw_p7 : lw_okq (⟨"ShapeJudge$Shapes", "toRing", "(III)LShapeJudge$Ring;"⟩, 8) := ⟨⟨by decide +kernel, by decide +kernel⟩, List.mem_of_getElem? (i := 31) (by decide +kernel), List.mem_of_getElem? (i := 444) (by decide +kernel), List.mem_of_getElem? (i := 445) (by decide +kernel)⟩
theorem lw_p8 : lw_okq (⟨"ShapeJudge$Inspector", "inspectRings", "(LShapeJudge$Polygon;)Z"⟩, 4) := ⟨⟨by decide +kernel, by decide +kernel⟩, List.mem_of_getElem? (i := 92) (by decide +kernel), List.mem_of_getElem? (i := 588) (by decide +kernel), List.mem_of_getElem? (i := 589) (by decide +kernel)⟩
theorem lw_p9 : lw_okq (⟨"ShapeJudge$Finding", "tellAt", "(IIII)V"⟩, 2) := ⟨⟨by decide +kernel, by decide +kernel⟩, List.mem_of_getElem? (i := 76) (by decide +kernel), List.mem_of_getElem? (i := 596) (by decide +kernel), List.mem_of_getElem? (i := 597) (by decide +kernel)⟩
theorem lw_p10 : lw_okq (⟨"ShapeJudge$Inspector", "inspectSegments", "([LShapeJudge$Ring;Z)Z"⟩, 4) := ⟨⟨by decide +kernel, by decide +kernel⟩, List.mem_of_getElem? (i := 92) (by decide +kernel), List.mem_of_getElem? (i := 600) (by decide +kernel), List.mem_of_getElem? (i := 601) (by decide +kernel)⟩
theorem lw_p11 : lw_okq (⟨"ShapeJudge$Inspector", "inspectSegment", "(LShapeJudge$Segment;LShapeJudge$Ring;I)Z"⟩, 4) := ⟨⟨by decide +kernel, by decide +kernel⟩, List.mem_of_getElem? (i := 92) (by decide +kernel), List.mem_of_getElem? (i := 604) (by decide +kernel), List.mem_of_getElem? (i := 605) (by decide +kernel)⟩
theorem lw_p12 : lw_okq (⟨"ShapeJudge$Meeting", "meet", "(LShapeJudge$Segment;LShapeJudge$Segment;)I"⟩, 2) := ⟨⟨by decide +kernel, by decide +kernel⟩, List.mem_of_getElem? (i := 98) (by decide +kernel), List.mem_of_getElem? (i := 616) (by decide +kernel), List.mem_of_getElem? (i := 617) (by decide +kernel)⟩
theorem lw_p13 : lw_okq (⟨"ShapeJudge$Meeting", "meetOnOneLine", "(LShapeJudge$Box;LShapeJudge$Box;)I"⟩, 2) := ⟨⟨by decide +kernel, by decide +kernel⟩, List.mem_of_getElem? (i := 98) (by decide +kernel), List.mem_of_getElem? (i := 625) (by decide +kernel), List.mem_of_getElem? (i := 626) (by decide +kernel)⟩
theorem lw_p14 : lw_okq (⟨"ShapeJudge$Meeting", "meetAt", "(II)I"⟩, 2) := ⟨⟨by decide +kernel, by decide +kernel⟩, List.mem_of_getElem? (i := 98) (by decide +kernel), List.mem_of_getElem? (i := 631) (by decide +kernel), List.mem_of_getElem? (i := 632) (by decide +kernel)⟩
theorem lw_p15 : lw_okq (⟨"ShapeJudge$Meeting", "ringsCross", "(LShapeJudge$Segment;LShapeJudge$Segment;)Z"⟩, 2) := ⟨⟨by decide +kernel, by decide +kernel⟩, List.mem_of_getElem? (i := 98) (by decide +kernel), List.mem_of_getElem? (i := 642) (by decide +kernel), List.mem_of_getElem? (i := 643) (by decide +kernel)⟩
def lw_privs_1 : List (MethodName × Nat) := [(⟨"java/lang/Throwable", "fillInStackTrace", "(I)Ljava/lang/Throwable;"⟩, 6), (⟨"ShapeJudge$Inspector", "inspectLine", "()V"⟩, 4), (⟨"ShapeJudge$Shapes", "differentPoints", "(I)I"⟩, 8), (⟨"ShapeJudge$Shapes", "behindChain", "(I)I"⟩, 8), (⟨"ShapeJudge$Shapes", "isSame", "(II)Z"⟩, 8), (⟨"ShapeJudge$Shapes", "countPolygons", "(I)I"⟩, 8), (⟨"ShapeJudge$Shapes", "toPolygon", "(II)LShapeJudge$Polygon;"⟩, 8), (⟨"ShapeJudge$Shapes", "toRing", "(III)LShapeJudge$Ring;"⟩, 8), (⟨"ShapeJudge$Inspector", "inspectRings", "(LShapeJudge$Polygon;)Z"⟩, 4), (⟨"ShapeJudge$Finding", "tellAt", "(IIII)V"⟩, 2), (⟨"ShapeJudge$Inspector", "inspectSegments", "([LShapeJudge$Ring;Z)Z"⟩, 4), (⟨"ShapeJudge$Inspector", "inspectSegment", "(LShapeJudge$Segment;LShapeJudge$Ring;I)Z"⟩, 4), (⟨"ShapeJudge$Meeting", "meet", "(LShapeJudge$Segment;LShapeJudge$Segment;)I"⟩, 2), (⟨"ShapeJudge$Meeting", "meetOnOneLine", "(LShapeJudge$Box;LShapeJudge$Box;)I"⟩, 2), (⟨"ShapeJudge$Meeting", "meetAt", "(II)I"⟩, 2), (⟨"ShapeJudge$Meeting", "ringsCross", "(LShapeJudge$Segment;LShapeJudge$Segment;)Z"⟩, 2)]
theorem lw_r1 : ∀ q ∈ lw_privs_1, lw_okq q := List.forall_mem_cons.mpr ⟨lw_p0, List.forall_mem_cons.mpr ⟨lw_p1, List.forall_mem_cons.mpr ⟨lw_p2, List.forall_mem_cons.mpr ⟨lw_p3, List.forall_mem_cons.mpr ⟨lw_p4, List.forall_mem_cons.mpr ⟨lw_p5, List.forall_mem_cons.mpr ⟨lw_p6, List.forall_mem_cons.mpr ⟨lw_p7, List.forall_mem_cons.mpr ⟨lw_p8, List.forall_mem_cons.mpr ⟨lw_p9, List.forall_mem_cons.mpr ⟨lw_p10, List.forall_mem_cons.mpr ⟨lw_p11, List.forall_mem_cons.mpr ⟨lw_p12, List.forall_mem_cons.mpr ⟨lw_p13, List.forall_mem_cons.mpr ⟨lw_p14, List.forall_mem_cons.mpr ⟨lw_p15, fun _ h => absurd h List.not_mem_nil⟩⟩⟩⟩⟩⟩⟩⟩⟩⟩⟩⟩⟩⟩⟩⟩
theorem lw_p16 : lw_okq (⟨"ShapeJudge$Inspector", "tellSegments", "(ILShapeJudge$Segment;LShapeJudge$Segment;)V"⟩, 4) := ⟨⟨by decide +kernel, by decide +kernel⟩, List.mem_of_getElem? (i := 92) (by decide +kernel), List.mem_of_getElem? (i := 654) (by decide +kernel), List.mem_of_getElem? (i := 655) (by decide +kernel)⟩
theorem lw_p17 : lw_okq (⟨"ShapeJudge$Inspector", "inspectHoles", "(LShapeJudge$Polygon;)Z"⟩, 4) := ⟨⟨by decide +kernel, by decide +kernel⟩, List.mem_of_getElem? (i := 92) (by decide +kernel), List.mem_of_getElem? (i := 662) (by decide +kernel), List.mem_of_getElem? (i := 663) (by decide +kernel)⟩
theorem lw_p18 : lw_okq (⟨"ShapeJudge$Inspector", "inspectPairsOfHoles", "(LShapeJudge$Polygon;)Z"⟩, 4) := ⟨⟨by decide +kernel, by decide +kernel⟩, List.mem_of_getElem? (i := 92) (by decide +kernel), List.mem_of_getElem? (i := 692) (by decide +kernel), List.mem_of_getElem? (i := 693) (by decide +kernel)⟩
theorem lw_p19 : lw_okq (⟨"ShapeJudge$Inspector", "inspectWholeness", "(LShapeJudge$Polygon;)Z"⟩, 4) := ⟨⟨by decide +kernel, by decide +kernel⟩, List.mem_of_getElem? (i := 92) (by decide +kernel), List.mem_of_getElem? (i := 696) (by decide +kernel), List.mem_of_getElem? (i := 697) (by decide +kernel)⟩
theorem lw_p20 : lw_okq (⟨"ShapeJudge$Polygon", "isNewCorner", "(ILShapeJudge$Segment;)Z"⟩, 2) := ⟨⟨by decide +kernel, by decide +kernel⟩, List.mem_of_getElem? (i := 573) (by decide +kernel), List.mem_of_getElem? (i := 704) (by decide +kernel), List.mem_of_getElem? (i := 705) (by decide +kernel)⟩
theorem lw_p21 : lw_okq (⟨"ShapeJudge$Polygon", "joinsInRound", "(LShapeJudge$Segment;[I)Z"⟩, 2) := ⟨⟨by decide +kernel, by decide +kernel⟩, List.mem_of_getElem? (i := 573) (by decide +kernel), List.mem_of_getElem? (i := 714) (by decide +kernel), List.mem_of_getElem? (i := 715) (by decide +kernel)⟩
theorem lw_p22 : lw_okq (⟨"ShapeJudge$Inspector", "inspectPairsOfParts", "([LShapeJudge$Polygon;)V"⟩, 4) := ⟨⟨by decide +kernel, by decide +kernel⟩, List.mem_of_getElem? (i := 92) (by decide +kernel), List.mem_of_getElem? (i := 726) (by decide +kernel), List.mem_of_getElem? (i := 727) (by decide +kernel)⟩
theorem lw_p23 : lw_okq (⟨"ShapeJudgeModel", "noPlace", "()V"⟩, 26) := ⟨⟨by decide +kernel, by decide +kernel⟩, List.mem_of_getElem? (i := 767) (by decide +kernel), List.mem_of_getElem? (i := 860) (by decide +kernel), List.mem_of_getElem? (i := 861) (by decide +kernel)⟩
theorem lw_p24 : lw_okq (⟨"ShapeJudgeModel", "fail", "(I)I"⟩, 26) := ⟨⟨by decide +kernel, by decide +kernel⟩, List.mem_of_getElem? (i := 767) (by decide +kernel), List.mem_of_getElem? (i := 871) (by decide +kernel), List.mem_of_getElem? (i := 872) (by decide +kernel)⟩
theorem lw_p25 : lw_okq (⟨"ShapeJudgeModel", "takes", "(I)Z"⟩, 26) := ⟨⟨by decide +kernel, by decide +kernel⟩, List.mem_of_getElem? (i := 767) (by decide +kernel), List.mem_of_getElem? (i := 875) (by decide +kernel), List.mem_of_getElem? (i := 876) (by decide +kernel)⟩
theorem lw_p26 : lw_okq (⟨"ShapeJudgeModel", "top", "()I"⟩, 26) := ⟨⟨by decide +kernel, by decide +kernel⟩, List.mem_of_getElem? (i := 767) (by decide +kernel), List.mem_of_getElem? (i := 879) (by decide +kernel), List.mem_of_getElem? (i := 880) (by decide +kernel)⟩
theorem lw_p27 : lw_okq (⟨"ShapeJudgeModel", "isFew", "(III)Z"⟩, 26) := ⟨⟨by decide +kernel, by decide +kernel⟩, List.mem_of_getElem? (i := 767) (by decide +kernel), List.mem_of_getElem? (i := 905) (by decide +kernel), List.mem_of_getElem? (i := 906) (by decide +kernel)⟩
theorem lw_p28 : lw_okq (⟨"ShapeJudgeModel", "same", "(II)Z"⟩, 26) := ⟨⟨by decide +kernel, by decide +kernel⟩, List.mem_of_getElem? (i := 767) (by decide +kernel), List.mem_of_getElem? (i := 909) (by decide +kernel), List.mem_of_getElem? (i := 910) (by decide +kernel)⟩
theorem lw_p29 : lw_okq (⟨"ShapeJudgeModel", "told", "(IIIII)I"⟩, 26) := ⟨⟨by decide +kernel, by decide +kernel⟩, List.mem_of_getElem? (i := 767) (by decide +kernel), List.mem_of_getElem? (i := 913) (by decide +kernel), List.mem_of_getElem? (i := 914) (by decide +kernel)⟩
theorem lw_p30 : lw_okq (⟨"ShapeJudgeModel", "polygon", "(III)I"⟩, 26) := ⟨⟨by decide +kernel, by decide +kernel⟩, List.mem_of_getElem? (i := 767) (by decide +kernel), List.mem_of_getElem? (i := 917) (by decide +kernel), List.mem_of_getElem? (i := 918) (by decide +kernel)⟩
theorem lw_p31 : lw_okq (⟨"ShapeJudgeModel", "ringsOf", "(III)I"⟩, 26) := ⟨⟨by decide +kernel, by decide +kernel⟩, List.mem_of_getElem? (i := 767) (by decide +kernel), List.mem_of_getElem? (i := 921) (by decide +kernel), List.mem_of_getElem? (i := 922) (by decide +kernel)⟩
def lw_privs_2 : List (MethodName × Nat) := [(⟨"ShapeJudge$Inspector", "tellSegments", "(ILShapeJudge$Segment;LShapeJudge$Segment;)V"⟩, 4), (⟨"ShapeJudge$Inspector", "inspectHoles", "(LShapeJudge$Polygon;)Z"⟩, 4), (⟨"ShapeJudge$Inspector", "inspectPairsOfHoles", "(LShapeJudge$Polygon;)Z"⟩, 4), (⟨"ShapeJudge$Inspector", "inspectWholeness", "(LShapeJudge$Polygon;)Z"⟩, 4), (⟨"ShapeJudge$Polygon", "isNewCorner", "(ILShapeJudge$Segment;)Z"⟩, 2), (⟨"ShapeJudge$Polygon", "joinsInRound", "(LShapeJudge$Segment;[I)Z"⟩, 2), (⟨"ShapeJudge$Inspector", "inspectPairsOfParts", "([LShapeJudge$Polygon;)V"⟩, 4), (⟨"ShapeJudgeModel", "noPlace", "()V"⟩, 26), (⟨"ShapeJudgeModel", "fail", "(I)I"⟩, 26), (⟨"ShapeJudgeModel", "takes", "(I)Z"⟩, 26), (⟨"ShapeJudgeModel", "top", "()I"⟩, 26), (⟨"ShapeJudgeModel", "isFew", "(III)Z"⟩, 26), (⟨"ShapeJudgeModel", "same", "(II)Z"⟩, 26), (⟨"ShapeJudgeModel", "told", "(IIIII)I"⟩, 26), (⟨"ShapeJudgeModel", "polygon", "(III)I"⟩, 26), (⟨"ShapeJudgeModel", "ringsOf", "(III)I"⟩, 26)]
theorem lw_r2 : ∀ q ∈ lw_privs_2, lw_okq q := List.forall_mem_cons.mpr ⟨lw_p16, List.forall_mem_cons.mpr ⟨lw_p17, List.forall_mem_cons.mpr ⟨lw_p18, List.forall_mem_cons.mpr ⟨lw_p19, List.forall_mem_cons.mpr ⟨lw_p20, List.forall_mem_cons.mpr ⟨lw_p21, List.forall_mem_cons.mpr ⟨lw_p22, List.forall_mem_cons.mpr ⟨lw_p23, List.forall_mem_cons.mpr ⟨lw_p24, List.forall_mem_cons.mpr ⟨lw_p25, List.forall_mem_cons.mpr ⟨lw_p26, List.forall_mem_cons.mpr ⟨lw_p27, List.forall_mem_cons.mpr ⟨lw_p28, List.forall_mem_cons.mpr ⟨lw_p29, List.forall_mem_cons.mpr ⟨lw_p30, List.forall_mem_cons.mpr ⟨lw_p31, fun _ h => absurd h List.not_mem_nil⟩⟩⟩⟩⟩⟩⟩⟩⟩⟩⟩⟩⟩⟩⟩⟩
theorem lw_p32 : lw_okq (⟨"ShapeJudgeModel", "end", "(I)I"⟩, 26) := ⟨⟨by decide +kernel, by decide +kernel⟩, List.mem_of_getElem? (i := 767) (by decide +kernel), List.mem_of_getElem? (i := 925) (by decide +kernel), List.mem_of_getElem? (i := 926) (by decide +kernel)⟩
theorem lw_p33 : lw_okq (⟨"ShapeJudgeModel", "pairsOf", "(III)I"⟩, 26) := ⟨⟨by decide +kernel, by decide +kernel⟩, List.mem_of_getElem? (i := 767) (by decide +kernel), List.mem_of_getElem? (i := 929) (by decide +kernel), List.mem_of_getElem? (i := 930) (by decide +kernel)⟩
theorem lw_p34 : lw_okq (⟨"ShapeJudgeModel", "isSegment", "(I)Z"⟩, 26) := ⟨⟨by decide +kernel, by decide +kernel⟩, List.mem_of_getElem? (i := 767) (by decide +kernel), List.mem_of_getElem? (i := 933) (by decide +kernel), List.mem_of_getElem? (i := 934) (by decide +kernel)⟩
theorem lw_p35 : lw_okq (⟨"ShapeJudgeModel", "pair", "(IIII)I"⟩, 26) := ⟨⟨by decide +kernel, by decide +kernel⟩, List.mem_of_getElem? (i := 767) (by decide +kernel), List.mem_of_getElem? (i := 937) (by decide +kernel), List.mem_of_getElem? (i := 938) (by decide +kernel)⟩
theorem lw_p36 : lw_okq (⟨"ShapeJudgeModel", "meet", "(II)I"⟩, 26) := ⟨⟨by decide +kernel, by decide +kernel⟩, List.mem_of_getElem? (i := 767) (by decide +kernel), List.mem_of_getElem? (i := 941) (by decide +kernel), List.mem_of_getElem? (i := 942) (by decide +kernel)⟩
theorem lw_p37 : lw_okq (⟨"ShapeJudgeModel", "side", "(IIII)I"⟩, 26) := ⟨⟨by decide +kernel, by decide +kernel⟩, List.mem_of_getElem? (i := 767) (by decide +kernel), List.mem_of_getElem? (i := 945) (by decide +kernel), List.mem_of_getElem? (i := 946) (by decide +kernel)⟩
theorem lw_p38 : lw_okq (⟨"ShapeJudgeModel", "along", "(II)I"⟩, 26) := ⟨⟨by decide +kernel, by decide +kernel⟩, List.mem_of_getElem? (i := 767) (by decide +kernel), List.mem_of_getElem? (i := 952) (by decide +kernel), List.mem_of_getElem? (i := 953) (by decide +kernel)⟩
theorem lw_p39 : lw_okq (⟨"ShapeJudgeModel", "less", "(II)I"⟩, 26) := ⟨⟨by decide +kernel, by decide +kernel⟩, List.mem_of_getElem? (i := 767) (by decide +kernel), List.mem_of_getElem? (i := 956) (by decide +kernel), List.mem_of_getElem? (i := 957) (by decide +kernel)⟩
theorem lw_p40 : lw_okq (⟨"ShapeJudgeModel", "more", "(II)I"⟩, 26) := ⟨⟨by decide +kernel, by decide +kernel⟩, List.mem_of_getElem? (i := 767) (by decide +kernel), List.mem_of_getElem? (i := 960) (by decide +kernel), List.mem_of_getElem? (i := 961) (by decide +kernel)⟩
theorem lw_p41 : lw_okq (⟨"ShapeJudgeModel", "meets", "(II)Z"⟩, 26) := ⟨⟨by decide +kernel, by decide +kernel⟩, List.mem_of_getElem? (i := 767) (by decide +kernel), List.mem_of_getElem? (i := 964) (by decide +kernel), List.mem_of_getElem? (i := 965) (by decide +kernel)⟩
theorem lw_p42 : lw_okq (⟨"ShapeJudgeModel", "isOn", "(III)Z"⟩, 26) := ⟨⟨by decide +kernel, by decide +kernel⟩, List.mem_of_getElem? (i := 767) (by decide +kernel), List.mem_of_getElem? (i := 968) (by decide +kernel), List.mem_of_getElem? (i := 969) (by decide +kernel)⟩
theorem lw_p43 : lw_okq (⟨"ShapeJudgeModel", "begins", "(I)Z"⟩, 26) := ⟨⟨by decide +kernel, by decide +kernel⟩, List.mem_of_getElem? (i := 767) (by decide +kernel), List.mem_of_getElem? (i := 975) (by decide +kernel), List.mem_of_getElem? (i := 976) (by decide +kernel)⟩
theorem lw_p44 : lw_okq (⟨"ShapeJudgeModel", "crosses", "(IIII)Z"⟩, 26) := ⟨⟨by decide +kernel, by decide +kernel⟩, List.mem_of_getElem? (i := 767) (by decide +kernel), List.mem_of_getElem? (i := 979) (by decide +kernel), List.mem_of_getElem? (i := 980) (by decide +kernel)⟩
theorem lw_p45 : lw_okq (⟨"ShapeJudgeModel", "ways", "(II)V"⟩, 26) := ⟨⟨by decide +kernel, by decide +kernel⟩, List.mem_of_getElem? (i := 767) (by decide +kernel), List.mem_of_getElem? (i := 983) (by decide +kernel), List.mem_of_getElem? (i := 984) (by decide +kernel)⟩
theorem lw_p46 : lw_okq (⟨"ShapeJudgeModel", "next", "(II)I"⟩, 26) := ⟨⟨by decide +kernel, by decide +kernel⟩, List.mem_of_getElem? (i := 767) (by decide +kernel), List.mem_of_getElem? (i := 987) (by decide +kernel), List.mem_of_getElem? (i := 988) (by decide +kernel)⟩
theorem lw_p47 : lw_okq (⟨"ShapeJudgeModel", "other", "(III)V"⟩, 26) := ⟨⟨by decide +kernel, by decide +kernel⟩, List.mem_of_getElem? (i := 767) (by decide +kernel), List.mem_of_getElem? (i := 997) (by decide +kernel), List.mem_of_getElem? (i := 998) (by decide +kernel)⟩
def lw_privs_3 : List (MethodName × Nat) := [(⟨"ShapeJudgeModel", "end", "(I)I"⟩, 26), (⟨"ShapeJudgeModel", "pairsOf", "(III)I"⟩, 26), (⟨"ShapeJudgeModel", "isSegment", "(I)Z"⟩, 26), (⟨"ShapeJudgeModel", "pair", "(IIII)I"⟩, 26), (⟨"ShapeJudgeModel", "meet", "(II)I"⟩, 26), (⟨"ShapeJudgeModel", "side", "(IIII)I"⟩, 26), (⟨"ShapeJudgeModel", "along", "(II)I"⟩, 26), (⟨"ShapeJudgeModel", "less", "(II)I"⟩, 26), (⟨"ShapeJudgeModel", "more", "(II)I"⟩, 26), (⟨"ShapeJudgeModel", "meets", "(II)Z"⟩, 26), (⟨"ShapeJudgeModel", "isOn", "(III)Z"⟩, 26), (⟨"ShapeJudgeModel", "begins", "(I)Z"⟩, 26), (⟨"ShapeJudgeModel", "crosses", "(IIII)Z"⟩, 26), (⟨"ShapeJudgeModel", "ways", "(II)V"⟩, 26), (⟨"ShapeJudgeModel", "next", "(II)I"⟩, 26), (⟨"ShapeJudgeModel", "other", "(III)V"⟩, 26)]
theorem lw_r3 : ∀ q ∈ lw_privs_3, lw_okq q := List.forall_mem_cons.mpr ⟨lw_p32, List.forall_mem_cons.mpr ⟨lw_p33, List.forall_mem_cons.mpr ⟨lw_p34, List.forall_mem_cons.mpr ⟨lw_p35, List.forall_mem_cons.mpr ⟨lw_p36, List.forall_mem_cons.mpr ⟨lw_p37, List.forall_mem_cons.mpr ⟨lw_p38, List.forall_mem_cons.mpr ⟨lw_p39, List.forall_mem_cons.mpr ⟨lw_p40, List.forall_mem_cons.mpr ⟨lw_p41, List.forall_mem_cons.mpr ⟨lw_p42, List.forall_mem_cons.mpr ⟨lw_p43, List.forall_mem_cons.mpr ⟨lw_p44, List.forall_mem_cons.mpr ⟨lw_p45, List.forall_mem_cons.mpr ⟨lw_p46, List.forall_mem_cons.mpr ⟨lw_p47, fun _ h => absurd h List.not_mem_nil⟩⟩⟩⟩⟩⟩⟩⟩⟩⟩⟩⟩⟩⟩⟩⟩
theorem lw_p48 : lw_okq (⟨"ShapeJudgeModel", "holesOf", "(III)I"⟩, 26) := ⟨⟨by decide +kernel, by decide +kernel⟩, List.mem_of_getElem? (i := 767) (by decide +kernel), List.mem_of_getElem? (i := 1001) (by decide +kernel), List.mem_of_getElem? (i := 1002) (by decide +kernel)⟩
theorem lw_p49 : lw_okq (⟨"ShapeJudgeModel", "liesIn", "(II)Z"⟩, 26) := ⟨⟨by decide +kernel, by decide +kernel⟩, List.mem_of_getElem? (i := 767) (by decide +kernel), List.mem_of_getElem? (i := 1005) (by decide +kernel), List.mem_of_getElem? (i := 1006) (by decide +kernel)⟩
theorem lw_p50 : lw_okq (⟨"ShapeJudgeModel", "isOnRing", "(III)Z"⟩, 26) := ⟨⟨by decide +kernel, by decide +kernel⟩, List.mem_of_getElem? (i := 767) (by decide +kernel), List.mem_of_getElem? (i := 1009) (by decide +kernel), List.mem_of_getElem? (i := 1010) (by decide +kernel)⟩
theorem lw_p51 : lw_okq (⟨"ShapeJudgeModel", "odd", "(IIIII)Z"⟩, 26) := ⟨⟨by decide +kernel, by decide +kernel⟩, List.mem_of_getElem? (i := 767) (by decide +kernel), List.mem_of_getElem? (i := 1013) (by decide +kernel), List.mem_of_getElem? (i := 1014) (by decide +kernel)⟩
theorem lw_p52 : lw_okq (⟨"ShapeJudgeModel", "splitOf", "(III)I"⟩, 26) := ⟨⟨by decide +kernel, by decide +kernel⟩, List.mem_of_getElem? (i := 767) (by decide +kernel), List.mem_of_getElem? (i := 1017) (by decide +kernel), List.mem_of_getElem? (i := 1018) (by decide +kernel)⟩
theorem lw_p53 : lw_okq (⟨"ShapeJudgeModel", "isFirst", "(II)Z"⟩, 26) := ⟨⟨by decide +kernel, by decide +kernel⟩, List.mem_of_getElem? (i := 767) (by decide +kernel), List.mem_of_getElem? (i := 1021) (by decide +kernel), List.mem_of_getElem? (i := 1022) (by decide +kernel)⟩
theorem lw_p54 : lw_okq (⟨"ShapeJudgeModel", "joins", "(II)Z"⟩, 26) := ⟨⟨by decide +kernel, by decide +kernel⟩, List.mem_of_getElem? (i := 767) (by decide +kernel), List.mem_of_getElem? (i := 1025) (by decide +kernel), List.mem_of_getElem? (i := 1026) (by decide +kernel)⟩
theorem lw_p55 : lw_okq (⟨"ShapeJudgeModel", "polygons", "(I)I"⟩, 26) := ⟨⟨by decide +kernel, by decide +kernel⟩, List.mem_of_getElem? (i := 767) (by decide +kernel), List.mem_of_getElem? (i := 1029) (by decide +kernel), List.mem_of_getElem? (i := 1030) (by decide +kernel)⟩
theorem lw_p56 : lw_okq (⟨"ShapeJudgeModel", "isPart", "(II)Z"⟩, 26) := ⟨⟨by decide +kernel, by decide +kernel⟩, List.mem_of_getElem? (i := 767) (by decide +kernel), List.mem_of_getElem? (i := 1033) (by decide +kernel), List.mem_of_getElem? (i := 1034) (by decide +kernel)⟩
theorem lw_p57 : lw_okq (⟨"ShapeJudgeModel", "apart", "(I)I"⟩, 26) := ⟨⟨by decide +kernel, by decide +kernel⟩, List.mem_of_getElem? (i := 767) (by decide +kernel), List.mem_of_getElem? (i := 1037) (by decide +kernel), List.mem_of_getElem? (i := 1038) (by decide +kernel)⟩
theorem lw_p58 : lw_okq (⟨"ShapeJudgeModel", "against", "(IIII)I"⟩, 26) := ⟨⟨by decide +kernel, by decide +kernel⟩, List.mem_of_getElem? (i := 767) (by decide +kernel), List.mem_of_getElem? (i := 1041) (by decide +kernel), List.mem_of_getElem? (i := 1042) (by decide +kernel)⟩
theorem lw_p59 : lw_okq (⟨"ShapeJudgeModel", "isInside", "(II)Z"⟩, 26) := ⟨⟨by decide +kernel, by decide +kernel⟩, List.mem_of_getElem? (i := 767) (by decide +kernel), List.mem_of_getElem? (i := 1045) (by decide +kernel), List.mem_of_getElem? (i := 1046) (by decide +kernel)⟩
def lw_privs_4 : List (MethodName × Nat) := [(⟨"ShapeJudgeModel", "holesOf", "(III)I"⟩, 26), (⟨"ShapeJudgeModel", "liesIn", "(II)Z"⟩, 26), (⟨"ShapeJudgeModel", "isOnRing", "(III)Z"⟩, 26), (⟨"ShapeJudgeModel", "odd", "(IIIII)Z"⟩, 26), (⟨"ShapeJudgeModel", "splitOf", "(III)I"⟩, 26), (⟨"ShapeJudgeModel", "isFirst", "(II)Z"⟩, 26), (⟨"ShapeJudgeModel", "joins", "(II)Z"⟩, 26), (⟨"ShapeJudgeModel", "polygons", "(I)I"⟩, 26), (⟨"ShapeJudgeModel", "isPart", "(II)Z"⟩, 26), (⟨"ShapeJudgeModel", "apart", "(I)I"⟩, 26), (⟨"ShapeJudgeModel", "against", "(IIII)I"⟩, 26), (⟨"ShapeJudgeModel", "isInside", "(II)Z"⟩, 26)]
theorem lw_r4 : ∀ q ∈ lw_privs_4, lw_okq q := List.forall_mem_cons.mpr ⟨lw_p48, List.forall_mem_cons.mpr ⟨lw_p49, List.forall_mem_cons.mpr ⟨lw_p50, List.forall_mem_cons.mpr ⟨lw_p51, List.forall_mem_cons.mpr ⟨lw_p52, List.forall_mem_cons.mpr ⟨lw_p53, List.forall_mem_cons.mpr ⟨lw_p54, List.forall_mem_cons.mpr ⟨lw_p55, List.forall_mem_cons.mpr ⟨lw_p56, List.forall_mem_cons.mpr ⟨lw_p57, List.forall_mem_cons.mpr ⟨lw_p58, List.forall_mem_cons.mpr ⟨lw_p59, fun _ h => absurd h List.not_mem_nil⟩⟩⟩⟩⟩⟩⟩⟩⟩⟩⟩⟩
def lw_privs : List (MethodName × Nat) := lw_privs_1 ++ (lw_privs_2 ++ (lw_privs_3 ++ (lw_privs_4)))
def lw_tbl : List Cond := k2_sels lw_privs ++ tables_1
theorem lw_privs_ok : ∀ q ∈ lw_privs, lw_okq q := by
  show ∀ q ∈ lw_privs_1 ++ (lw_privs_2 ++ (lw_privs_3 ++ (lw_privs_4))), lw_okq q
  exact List.forall_mem_append.mpr ⟨lw_r1, List.forall_mem_append.mpr ⟨lw_r2, List.forall_mem_append.mpr ⟨lw_r3, lw_r4⟩⟩⟩
end
section
/-! ===== BEGIN words of one list among another's, by their places ===== -/
theorem goodIn_r {big : List Cond} (ws : List Cond) (ps : List Nat) (hp : ws = ps.filterMap (fun i => big[i]?)) (h : ws.all goodWord = true) : GoodIn big ws := by
  intro w hw
  have h1 := List.all_eq_true.mp h w hw
  rw [hp] at hw
  obtain ⟨i, -, hi⟩ := List.mem_filterMap.mp hw
  have hm : w ∈ big := by first | exact List.mem_of_getElem? hi | exact List.getElem?_mem hi
  exact ⟨hm, good_of_word h1⟩
theorem goodIn_app {big a b : List Cond} (ha : GoodIn big a) (hb : GoodIn big b) : GoodIn big (a ++ b) := fun w h => (List.mem_append.mp h).elim (ha w) (hb w)
theorem goodIn_ca {big a b : List Cond} {c : Cond} (ha : GoodIn big (c :: a)) (hb : GoodIn big b) : GoodIn big (c :: (a ++ b)) := fun w h => (List.mem_cons.mp h).elim (fun e => ha w (List.mem_cons.mpr (Or.inl e))) (fun h => (List.mem_append.mp h).elim (fun h => ha w (List.mem_cons.mpr (Or.inr h))) (hb w))
theorem goodIn_sub {big ws : List Cond} (hm : ∀ w ∈ ws, w ∈ big) (h : ws.all goodWord = true) : GoodIn big ws := fun w hw => ⟨hm w hw, good_of_word (List.all_eq_true.mp h w hw)⟩
/-! ===== END ===== -/

/-! ===== BEGIN exceptions that leave a method, and their catching by the caller (launches without stack traces) ===== -/
section VXA
/-! The laws vx_back, vx_callV, vx_callS, vx_callSW, vx_throw0, vx_throwS follow proofs of the library, with one case more: JvmDerived/Free/Laws.lean (Back.of_free), Shelf42/LK1.lean (callV, callS), Shelf/KitTraced.lean (throwNew0V, throwNewS). -/
/-- where a method has thrown q: the class by its name, the cell, what was written, the world -/
def vx_T (XC : String → State → State → Prop) (st : State) (q : Addr) (t : State) (mc ms : Nat) (free : Addr → Prop) : Prop :=
  ∃ (E : String) (ce : Cell) (L : List Loc), XC E st t ∧ t.heap[q]? = some ce ∧ ce.vm = .none ∧ st.vm.findClass E = some ce.cls ∧ st.WarmedH t.vm ∧ st.sameButNew ({ t with vm := st.vm } : State) L mc ms ∧ ∀ z ∈ L, free z.base
def vx_Q (Qc : Array Value → State → Outcome → State → Prop) (XC : String → State → State → Prop) (mc ms : Nat) (free : Addr → Prop) : Array Value → State → Outcome → State → Prop := fun a st o t =>
  (Qc a st o t ∧ ∃ L, FrameEnd st o t L mc ms ∧ ∀ q ∈ L, free q.base) ∨ ∃ q, o = .threw q ∧ vx_T XC st q t mc ms free
/-- a callee that returns or throws -/
def vx_Met (l : Launch) (y : MethodName) (ws : List Cond) (rm : Room) (Pc : Array Value → State → Prop) (Qc : Array Value → State → Outcome → State → Prop) (XC : String → State → State → Prop) (mc ms : Nat) (free : Addr → Prop) : Prop :=
  MetFree l y (headSpec ws rm) Pc (fun _ _ _ _ _ => True) (vx_Q Qc XC mc ms free)
def vx_Post (XC : String → State → State → Prop) (mc ms : Nat) (free : Addr → Prop) : Pt → Array Value → Addr → Pt → Prop := fun A a q B =>
  ∃ (g : JFrame) (mk : MethodId) (t : State) (L : List Loc) (E : String) (ce : Cell), B.U.heap = t.heap ∧ B.U.vm = t.vm ∧ XC E (A.U.calling g mk a) t ∧ t.heap[q]? = some ce ∧ ce.vm = .none ∧ A.U.vm.findClass E = some ce.cls ∧ B.locs = A.locs ++ L ∧ (∀ z ∈ L, free z.base) ∧ B.cells = A.cells + mc ∧ B.slots = A.slots + ms
def vx_Back (l : Launch) (R : Room) (p : Program) (e : Env) (below : List Frame) (s : State) (sargs : Array Value) (y : MethodName) (len W9 : Nat)
    (Pre : Pt → Array Value → Prop) (Post : Pt → Array Value → Option Value → Pt → Prop) (PostX : Pt → Array Value → Addr → Pt → Prop) : Prop :=
  ∀ (m : MethodId) (meth : Method) (c : Code) (A : Pt) (g : JFrame) (ig : Instr) (mk : MethodId) (a : Array Value),
    Stand p l e R s m sargs below meth c A.U A.locs A.cells A.slots → g.method = m → g.locals.size = c.maxLocals → decode c.code g.pc = .ok (ig, len) →
    2 * g.monitorRoom + (g.stack.map fun v => v.category).sum ≤ W9 → A.U.methodNamed? y = some mk → Pre A a →
    (∃ (v : Option Value) (B : Pt), Stand p l e R s m sargs below meth c B.U B.locs B.cells B.slots ∧ Post A a v B ∧
      Steps p.tables e below (doInvoke e (A.U.setTop g) [] mk a).1 (B.U.setTop { g with pc := g.pc + len, stack := v.toList ++ g.stack })) ∨
    (∃ (q : Addr) (B : Pt), Stand p l e R s m sargs below meth c B.U B.locs B.cells B.slots ∧ PostX A a q B ∧
      Steps p.tables e below (doInvoke e (A.U.setTop g) [] mk a).1 ((B.U.setTop g).pushFrame (.throwing q)))
section Payer
variable {l : Launch} {R : Room} {p : Program} {e : Env} {below : List Frame} {s : State} {sargs : Array Value} {y : MethodName} {len W9 : Nat}
theorem vx_back {ws : List Cond} {rm : Room} {Pc : Array Value → State → Prop} {Qc : Array Value → State → Outcome → State → Prop} {XC : String → State → State → Prop} {mc ms : Nat} {free : Addr → Prop} {bytes : ByteArray} {maxL : Nat} {ret : Option FieldType}
    (hM : vx_Met l y ws rm Pc Qc XC mc ms free) (hblind : FrameBlind Pc) (hrc : rm.cells = mc) (hrs : rm.slots = ms)
    (hframes : rm.frames + 1 ≤ R.frames) (hlocals : W9 + (maxL + 11) + rm.locals ≤ R.locals)
    (hws : ∀ w ∈ ws, ∀ a' U, s.WarmedH U.vm → w.before a' U = true) (hcode : Cond.code y bytes maxL ret ∈ ws) (hinit : ∀ a' U, s.WarmedH U.vm → (Cond.initialized y.cls).before a' U = true) :
    vx_Back l R p e below s sargs y len W9 (PreOf R mc ms Pc) (PostOf Qc mc ms free) (vx_Post XC mc ms free) := by
  intro m meth c A g ig mk a X hg hsize hdg hW hn hp
  have h1 : (headSpec ws rm).pre.before a A.U = true := atoms_intro fun w hw => hws w hw _ _ X.warmed
  have h2 : (Cond.code y bytes maxL ret).before a A.U = true := hws _ hcode _ _ X.warmed
  have h3 : (Cond.initialized y.cls).before a A.U = true := hinit _ _ X.warmed
  have h4 : A.cells + (headSpec ws rm).room.cells ≤ R.cells := by rw [show (headSpec ws rm).room.cells = mc from hrc]; exact hp.1
  have h5 : A.slots + (headSpec ws rm).room.slots ≤ R.slots := by rw [show (headSpec ws rm).room.slots = ms from hrs]; exact hp.2.1
  have hPc : Pc a (A.U.calling g mk a) := hblind _ _ _ _ hp.2.2
  obtain ⟨U, Ls, c0, s0⟩ := A
  dsimp only [Pt.U, Pt.locs, Pt.cells, Pt.slots] at h1 h2 h3 h4 h5 X hn hPc ⊢
  obtain ⟨methY, cY, hmY, hcY, -, hlY, -, -, -, -⟩ := Cond.code_spec hn h2
  obtain ⟨kY, hkY, -⟩ := className_of_methodNamed hn
  have hinitY : kY.init = .initialized := Cond.initialized_spec (findClass_of_methodNamed hn) hkY h3
  have h : At U g.method c below := by rw [hg]; exact X.here
  have hlocals9 : W9 + (maxL + 11) + (headSpec ws rm).room.locals ≤ R.locals := hlocals
  have happ : (headSpec ws rm).appliesLoose y e.platform (U.calling g mk a) = true :=
    Spec.appliesLoose_calling (g := g) h hdg hn hkY hinitY
      (X.room_calling (g := g) (R' := (headSpec ws rm).room) hsize hmY hcY hframes (by rw [hlY]; omega) h4 h5) h1
  obtain ⟨mid, hmid⟩ := h.above
  have hfr : (U.setTop g).frames = (.java g :: mid) ++ below := by rw [State.frames_setTop' g h.top, hmid]; rfl
  obtain ⟨o, s₂, hsteps, -, hend, hq⟩ := Steps.callFree hM p X.admits X.cas X.clock (acts := []) hfr happ hPc trivial
  have hq' : vx_Q Qc XC mc ms free a (U.calling g mk a) o s₂ := hq
  rw [State.frames_setTop' g h.top] at hend
  obtain ⟨g₀, hg0⟩ := Option.isSome_iff_exists.mp h.top
  obtain ⟨r, hr⟩ := State.topJava?_eq_some.mp hg0
  have hr' : (({ U with heap := s₂.heap, slotsUsed := s₂.slotsUsed } : State).setVm s₂.vm).frames = .java g₀ :: r := hr
  rcases hq' with ⟨hqc, L, hfe, hL⟩ | ⟨q, rfl, E, ce, L, hx, hce, hcv, hcl, hW₂, hsm, hL⟩
  · obtain ⟨⟨v, rfl⟩, hW₂, e2, q2, q3, q4, q5, q6⟩ := id hfe
    have e3 : s₂ = ({ (U.calling g mk a).setFrames s₂.frames with heap := s₂.heap, slotsUsed := s₂.slotsUsed } : State).setVm s₂.vm := by
      have : s₂ = ({ s₂ with vm := (U.calling g mk a).vm } : State).setVm s₂.vm := rfl
      rw [e2] at this
      exact this
    obtain ⟨c₂, i₂, len₂, hc₂, hd₂, hf₂⟩ := hend
    have hW' : U.WarmedH s₂.vm := hW₂
    have hcc : c₂ = c := by
      have h1 : s₂.code? g.method = U.code? g.method := by
        rw [State.code?_eq, State.code?_eq, hW'.alike.method?]
      exact Option.some.inj (hc₂.symm.trans (h1.trans h.code))
    subst hcc
    have hlen : len₂ = len := by rw [hdg] at hd₂; cases hd₂; rfl
    subst hlen
    have hs₂ : s₂ = (({ U with heap := s₂.heap, slotsUsed := s₂.slotsUsed } : State).setVm s₂.vm).setTop { g with pc := g.pc + len₂, stack := v.toList ++ g.stack } := by
      refine e3.trans ?_
      rw [hf₂, State.calling_eq h.top, State.setFrames_setFrames, State.setTop_of_frames _ hr', hr]
      rfl
    have hsame : U.sameButNew ({ U with heap := s₂.heap, slotsUsed := s₂.slotsUsed } : State) L mc ms := by
      refine ⟨?_, q2, q3, q4, q5, q6⟩
      obtain ⟨t, ht, -⟩ := State.frames_cons hr
      show ({ U with heap := s₂.heap, slotsUsed := s₂.slotsUsed } : State) = { U.setFrames U.frames with heap := s₂.heap, slotsUsed := s₂.slotsUsed }
      rw [State.setFrames_self ht]
    subst hg
    refine Or.inl ⟨v, ⟨(({ U with heap := s₂.heap, slotsUsed := s₂.slotsUsed } : State).setVm s₂.vm), Ls ++ L, c0 + mc, s0 + ms⟩,
      ⟨X.admits, X.cas, X.clock, X.frames, X.room, X.hears, X.method, X.code, (X.here.setHeapUsed s₂.heap s₂.slotsUsed).setVm hW'.alike, X.tail, State.WarmedH.trans X.warmed hW', X.limits, X.bytes, X.same.trans (hsame.setVm s.vm)⟩,
      ⟨g, mk, s₂, L, rfl, rfl, hqc, rfl, hL, rfl, rfl⟩, ?_⟩
    show Steps p.tables e below _ ((({ U with heap := s₂.heap, slotsUsed := s₂.slotsUsed } : State).setVm s₂.vm).setTop { g with pc := g.pc + len₂, stack := v.toList ++ g.stack })
    rw [← hs₂]
    exact hsteps
  · obtain ⟨e2, q2, q3, q4, q5, q6⟩ := id hsm
    have e3 : s₂ = ({ (U.calling g mk a).setFrames s₂.frames with heap := s₂.heap, slotsUsed := s₂.slotsUsed } : State).setVm s₂.vm := by
      have : s₂ = ({ s₂ with vm := (U.calling g mk a).vm } : State).setVm s₂.vm := rfl
      rw [e2] at this
      exact this
    have hf₂ : s₂.frames = .throwing q :: .java g :: U.frames.tail := hend
    have hW' : U.WarmedH s₂.vm := hW₂
    have hs₂ : s₂ = ((({ U with heap := s₂.heap, slotsUsed := s₂.slotsUsed } : State).setVm s₂.vm).setTop g).pushFrame (.throwing q) := by
      refine e3.trans ?_
      rw [hf₂, State.calling_eq h.top, State.setFrames_setFrames, State.pushFrame, State.frames_setTop _ hr', State.setTop_of_frames _ hr', State.setFrames_setFrames, hr]
      rfl
    have hsame : U.sameButNew ({ U with heap := s₂.heap, slotsUsed := s₂.slotsUsed } : State) L mc ms := by
      refine ⟨?_, q2, q3, q4, q5, q6⟩
      obtain ⟨t, ht, -⟩ := State.frames_cons hr
      show ({ U with heap := s₂.heap, slotsUsed := s₂.slotsUsed } : State) = { U.setFrames U.frames with heap := s₂.heap, slotsUsed := s₂.slotsUsed }
      rw [State.setFrames_self ht]
    subst hg
    refine Or.inr ⟨q, ⟨(({ U with heap := s₂.heap, slotsUsed := s₂.slotsUsed } : State).setVm s₂.vm), Ls ++ L, c0 + mc, s0 + ms⟩,
      ⟨X.admits, X.cas, X.clock, X.frames, X.room, X.hears, X.method, X.code, (X.here.setHeapUsed s₂.heap s₂.slotsUsed).setVm hW'.alike, X.tail, State.WarmedH.trans X.warmed hW', X.limits, X.bytes, X.same.trans (hsame.setVm s.vm)⟩,
      ⟨g, mk, s₂, L, E, ce, rfl, rfl, hx, hce, hcv, hcl, rfl, hL, rfl, rfl⟩, ?_⟩
    show Steps p.tables e below _ (((({ U with heap := s₂.heap, slotsUsed := s₂.slotsUsed } : State).setVm s₂.vm).setTop g).pushFrame (.throwing q))
    rw [← hs₂]
    exact hsteps
end Payer
section Calls
variable {p : Program} {l : Launch} {e : Env} {R : Room} {s : State} {m : MethodId} {args : Array Value} {below : List Frame} {meth : Method} {c : Code} {T : State} {locs : List Loc} {cells slots : Nat}
theorem vx_callV (X : Stand p l e R s m args below meth c T locs cells slots) (hexec : p.tables.exec = Jvm.exec) {own C : String} {index : Nat} {y : MethodName} {bytes : ByteArray} {maxL : Nat} {ret : Option FieldType}
    (hown : s.vm.findClass own = some m.cls) (hlink : (Cond.methodLink own index y).before args s = true) (hinst : (Cond.instanceMethod y).before args s = true) (hsel : (Cond.selects C y y).before args s = true)
    (hcode : (Cond.code y bytes maxL ret).before args s = true) (hy : y.cls ≠ "java/lang/invoke/MethodHandle" ∧ y.cls ≠ "java/lang/invoke/VarHandle")
    {W9 : Nat} {Pre : Pt → Array Value → Prop} {Post : Pt → Array Value → Option Value → Pt → Prop} {PostX : Pt → Array Value → Addr → Pt → Prop} (hK : vx_Back l R p e below s args y 3 W9 Pre Post PostX)
    {b : Addr} {cellB : Cell} (hcell : T.heap[b]? = some cellB) (hobj : cellB.vm.isStatics = false) (hcls : s.vm.findClass C = some cellB.cls)
    {g : JFrame} (hg : g.method = m) (hsize : g.locals.size = c.maxLocals) {argsL rest : List Value} (hlen : ∀ sig, parseMethodDescriptor y.desc = some sig → argsL.length = sig.parameters.length)
    (hstack : g.stack = argsL.reverse ++ .ref b :: rest) (hW : 2 * g.monitorRoom + (rest.map fun v => v.category).sum ≤ W9) (hdg : decode c.code g.pc = .ok (.invokevirtual index, 3))
    (hpre : ∀ vm₁, s.WarmedH vm₁ → Pre ⟨T.setVm vm₁, locs, cells, slots⟩ (Value.ref b :: argsL).toArray) :
    (∃ (v : Option Value) (vm₁ : Vm) (B : Pt), s.WarmedH vm₁ ∧ Stand p l e R s m args below meth c B.U B.locs B.cells B.slots ∧ Post ⟨T.setVm vm₁, locs, cells, slots⟩ (Value.ref b :: argsL).toArray v B ∧
      ∀ target, Steps p.tables e below (B.U.setTop { g with pc := g.pc + 3, stack := v.toList ++ rest }) target → Steps p.tables e below (T.setTop g) target) ∨
    (∃ (q : Addr) (vm₁ : Vm) (B : Pt), s.WarmedH vm₁ ∧ Stand p l e R s m args below meth c B.U B.locs B.cells B.slots ∧ PostX ⟨T.setVm vm₁, locs, cells, slots⟩ (Value.ref b :: argsL).toArray q B ∧
      Steps p.tables e below (T.setTop g) ((B.U.setTop { g with stack := rest }).pushFrame (.throwing q))) := by
  obtain ⟨mk, methM, hnamed, hmethM, hstM, habM⟩ := Cond.instanceMethod_spec hinst
  obtain ⟨methM', cM, hmethM', -, -, -, -, -, -, hsigM⟩ := Cond.code_spec hnamed hcode
  cases hmethM.symm.trans hmethM'
  obtain ⟨c2, r2, m2, q1, q2, q3, q4, kP, hkP, hkPi⟩ := Cond.selects_spec hsel
  cases hcls.symm.trans q1
  cases (State.methodFound?_of_named hnamed hy).symm.trans q2
  cases hnamed.symm.trans q3
  have hselP : selectMethod e.platform s.vm cellB.cls mk = .method mk := by rw [Launch.admits_selectMethod X.admits]; exact q4
  obtain ⟨vm₁, X₁, hstep₁⟩ := X.invokevirtual hexec hown hlink hnamed hmethM hstM hkP hkPi hy (a := b) (cell := cellB) hcell
    (fun z h => by rw [h] at hobj; cases hobj) hselP hmethM habM hkP hkPi (g := g) hg (argsL := argsL) (rest := rest) (hlen _ hsigM) hstack hdg
  rcases hK m meth c ⟨T.setVm vm₁, locs, cells, slots⟩ { g with stack := rest } (.invokevirtual index) mk (Value.ref b :: argsL).toArray X₁ hg hsize hdg hW (X₁.named hnamed) (hpre vm₁ X₁.warmed) with ⟨v, B, X', hpost, hsteps⟩ | ⟨q, B, X', hpost, hsteps⟩
  · exact Or.inl ⟨v, vm₁, B, X₁.warmed, X', hpost, fun target h => hstep₁ _ fun acts => by rw [doInvoke_state]; exact hsteps.trans h⟩
  · exact Or.inr ⟨q, vm₁, B, X₁.warmed, X', hpost, hstep₁ _ fun acts => by rw [doInvoke_state]; exact hsteps⟩
theorem vx_callS (X : Stand p l e R s m args below meth c T locs cells slots) (hexec : p.tables.exec = Jvm.exec) {own : String} {index : Nat} {y : MethodName} {bytes : ByteArray} {maxL : Nat} {ret : Option FieldType}
    (hown : s.vm.findClass own = some m.cls) (hlink : (Cond.methodLink own index y).before args s = true) (hstat : (Cond.static y).before args s = true) (hinit : (Cond.initialized y.cls).before args s = true)
    (hcode : (Cond.code y bytes maxL ret).before args s = true) (hy : y.cls ≠ "java/lang/invoke/MethodHandle" ∧ y.cls ≠ "java/lang/invoke/VarHandle")
    {W9 : Nat} {Pre : Pt → Array Value → Prop} {Post : Pt → Array Value → Option Value → Pt → Prop} {PostX : Pt → Array Value → Addr → Pt → Prop} (hK : vx_Back l R p e below s args y 3 W9 Pre Post PostX)
    {g : JFrame} (hg : g.method = m) (hsize : g.locals.size = c.maxLocals) {argsL rest : List Value} (hlen : ∀ sig, parseMethodDescriptor y.desc = some sig → argsL.length = sig.parameters.length)
    (hstack : g.stack = argsL.reverse ++ rest) (hW : 2 * g.monitorRoom + (rest.map fun v => v.category).sum ≤ W9) (hdg : decode c.code g.pc = .ok (.invokestatic index, 3))
    (hpre : ∀ vm₁, s.WarmedH vm₁ → Pre ⟨T.setVm vm₁, locs, cells, slots⟩ argsL.toArray) :
    (∃ (v : Option Value) (vm₁ : Vm) (B : Pt), s.WarmedH vm₁ ∧ Stand p l e R s m args below meth c B.U B.locs B.cells B.slots ∧ Post ⟨T.setVm vm₁, locs, cells, slots⟩ argsL.toArray v B ∧
      ∀ target, Steps p.tables e below (B.U.setTop { g with pc := g.pc + 3, stack := v.toList ++ rest }) target → Steps p.tables e below (T.setTop g) target) ∨
    (∃ (q : Addr) (vm₁ : Vm) (B : Pt), s.WarmedH vm₁ ∧ Stand p l e R s m args below meth c B.U B.locs B.cells B.slots ∧ PostX ⟨T.setVm vm₁, locs, cells, slots⟩ argsL.toArray q B ∧
      Steps p.tables e below (T.setTop g) ((B.U.setTop { g with stack := rest }).pushFrame (.throwing q))) := by
  obtain ⟨mk, hnamed⟩ := Cond.code_named hcode
  obtain ⟨methM, cM, hmethM, -, -, -, -, -, -, hsigM⟩ := Cond.code_spec hnamed hcode
  have hstatic : methM.isStatic = true := Cond.static_spec hnamed hmethM hstat
  obtain ⟨kP, hkP, -⟩ := className_of_methodNamed hnamed
  have hinitP : kP.init = .initialized := Cond.initialized_spec (findClass_of_methodNamed hnamed) hkP hinit
  obtain ⟨vm₁, X₁, hstep₁⟩ := X.invokestatic hexec hown hlink hnamed hmethM hstatic hkP hinitP hy (g := g) hg (argsL := argsL) (rest := rest) (hlen _ hsigM) hstack hdg
  rcases hK m meth c ⟨T.setVm vm₁, locs, cells, slots⟩ { g with stack := rest } (.invokestatic index) mk argsL.toArray X₁ hg hsize hdg hW (X₁.named hnamed) (hpre vm₁ X₁.warmed) with ⟨v, B, X', hpost, hsteps⟩ | ⟨q, B, X', hpost, hsteps⟩
  · exact Or.inl ⟨v, vm₁, B, X₁.warmed, X', hpost, fun target h => hstep₁ _ fun acts => by rw [doInvoke_state]; exact hsteps.trans h⟩
  · exact Or.inr ⟨q, vm₁, B, X₁.warmed, X', hpost, hstep₁ _ fun acts => by rw [doInvoke_state]; exact hsteps⟩
end Calls
theorem vx_cls {s : State} {T : State} {vm₁ : Vm} {E : String} {k : ClassId} (hW : s.WarmedH vm₁) (h : (T.setVm vm₁).vm.findClass E = some k) : s.vm.findClass E = some k := by
  have h1 : vm₁.findClass E = some k := h
  rw [hW.alike.findClass] at h1
  exact h1
/-- the method's frame g, with q thrown over it -/
def vx_W (p : Program) (l : Launch) (e : Env) (R : Room) (s : State) (m : MethodId) (args : Array Value) (below : List Frame) (meth : Method) (c : Code) (H : Heap) (locs : List Loc) (cells slots : Nat) (Q : State → Prop) (g : JFrame) (q : Addr) : Prop :=
  ∀ T : State, T.heap = H → Stand p l e R s m args below meth c T locs cells slots → ∃ t, Steps p.tables e below ((T.setTop g).pushFrame (.throwing q)) t ∧ Q t
def vx_Run (p : Program) (l : Launch) (e : Env) (R : Room) (s : State) (m : MethodId) (args : Array Value) (below : List Frame) (meth : Method) (c : Code) (H : Heap) (locs : List Loc) (cells slots mc ms : Nat) (g : JFrame) (rest : List Value) (Qa : State → Outcome → State → Prop) (XC : String → State → State → Prop) (free : Addr → Prop) : Prop :=
  ∀ T : State, T.heap = H → Stand p l e R s m args below meth c T locs cells slots →
    (∃ (v : Option Value) (st₀ t T' : State) (L : List Loc), st₀.heap = H ∧ Stand p l e R s m args below meth c T' (locs ++ L) (cells + mc) (slots + ms) ∧ (∀ q ∈ L, free q.base) ∧ T'.heap = t.heap ∧ T'.vm = t.vm ∧ Qa st₀ (.returned v) t ∧
      Goes p e below T g T' { g with pc := g.pc + 3, stack := v.toList ++ rest }) ∨
    (∃ (q : Addr) (st₀ t T' : State) (L : List Loc) (E : String) (ce : Cell), st₀.heap = H ∧ Stand p l e R s m args below meth c T' (locs ++ L) (cells + mc) (slots + ms) ∧ (∀ z ∈ L, free z.base) ∧ T'.heap = t.heap ∧ T'.vm = t.vm ∧ XC E st₀ t ∧ t.heap[q]? = some ce ∧ ce.vm = .none ∧ s.vm.findClass E = some ce.cls ∧
      Steps p.tables e below (T.setTop g) ((T'.setTop { g with stack := rest }).pushFrame (.throwing q)))
def vx_X {S : Type} (px : S → Prop) (B : String → S → State → Prop) (A : Nat → Prop) : String → State → State → Prop := fun E st t => ∃ u : S, px u ∧ B E u t ∧ va_F A st t
section Runs
variable {p : Program} {l : Launch} {e : Env} {R : Room} {s : State} {m : MethodId} {args : Array Value} {below : List Frame} {meth : Method} {c : Code} {H : Heap} {locs : List Loc} {cells slots : Nat}
variable {y : MethodName} {bytes cc : ByteArray} {maxL nL mc ms n index : Nat} {ret : Option FieldType} {ws : List Cond} {rm : Room} {Pc : Array Value → State → Prop} {Qc : Array Value → State → Outcome → State → Prop} {XC : String → State → State → Prop} {free : Addr → Prop} {Ts : List Cond} {own C : String} {b : Addr} {As rest : List Value} {g : JFrame}
theorem vx_callBack (cb : CallB R s args own index y bytes maxL ret ws rm mc ms n) (hM : vx_Met l y ws rm Pc Qc XC mc ms free) (hbl : FrameBlind Pc) : vx_Back l R p e below s args y 3 8 (PreOf R mc ms Pc) (PostOf Qc mc ms free) (vx_Post XC mc ms free) := by
  obtain ⟨hrc, hrs, hfr, hlo, hws, hcw, -, hini, -⟩ := cb
  exact vx_back (bytes := bytes) (maxL := maxL) (ret := ret) hM hbl hrc hrs hfr hlo hws hcw (fun a' U hW => word_at hW (Or.inl (by first | rfl | simp [Cond.onTables, Cond.keeps, Cond.steady])) hini)
theorem vx_runV (S : CallFix p m c cc nL s args Ts own) (hM : vx_Met l y ws rm Pc Qc XC mc ms free) (cw : CallW R s args own C index y bytes maxL ret ws rm mc ms n) (hp : PreV s H C b Pc As)
    (hg : g.method = m) (hn : As.length = n) (hsize : g.locals.size = nL) (hstack : g.stack = As.reverse ++ .ref b :: rest) (hW : 2 * g.monitorRoom + (rest.map fun v => v.category).sum ≤ 8) (hdg : decode cc g.pc = .ok (.invokevirtual index, 3)) (hf : cells + mc ≤ R.cells ∧ slots + ms ≤ R.slots) :
    vx_Run p l e R s m args below meth c H locs cells slots mc ms g rest (Qc (Value.ref b :: As).toArray) XC free := by
  have hK : vx_Back l R p e below s args y 3 8 (PreOf R mc ms Pc) (PostOf Qc mc ms free) (vx_Post XC mc ms free) := vx_callBack cw.1 hM hp.1
  obtain ⟨⟨-, -, -, -, -, -, hcode, -, hy, hlen, hl⟩, hin, hse⟩ := cw
  obtain ⟨hx, hb, hml, ho, -⟩ := S
  obtain ⟨-, ⟨cellB, hcB, hoB, hclB⟩, hPc⟩ := hp
  intro T hT X
  rcases vx_callV X hx (C := C) (bytes := bytes) (maxL := maxL) (ret := ret) ho hl hin hse hcode hy hK (by rw [hT]; exact hcB) hoB hclB hg (hsize.trans hml.symm) (argsL := As) (rest := rest) (fun sig h => hn.trans (hlen sig h)) hstack hW (by rw [hb]; exact hdg)
    (fun vm₁ hW₁ => ⟨hf.1, hf.2, hPc (T.setVm vm₁) hT hW₁⟩) with ⟨v, vm₁, ⟨U', l2, c2, s2⟩, hW₁, X', ⟨g', mk, t, L, e1, e2, hq, h1, hL, h2, h3⟩, st⟩ | ⟨q, vm₁, ⟨U', l2, c2, s2⟩, hW₁, X', ⟨g', mk, t, L, E, ce, e1, e2, hq, hce, hcv, hcl, h1, hL, h2, h3⟩, st⟩
  · dsimp only [Pt.U, Pt.locs, Pt.cells, Pt.slots] at X' e1 e2 h1 h2 h3 st
    subst h1; subst h2; subst h3
    exact Or.inl ⟨v, (T.setVm vm₁).calling g' mk (Value.ref b :: As).toArray, t, U', L, hT, X', hL, e1, e2, hq, st⟩
  · dsimp only [Pt.U, Pt.locs, Pt.cells, Pt.slots] at X' e1 e2 h1 h2 h3 st hcl
    subst h1; subst h2; subst h3
    exact Or.inr ⟨q, (T.setVm vm₁).calling g' mk (Value.ref b :: As).toArray, t, U', L, E, ce, hT, X', hL, e1, e2, hq, hce, hcv, vx_cls hW₁ hcl, st⟩
theorem vx_runS (S : CallFix p m c cc nL s args Ts own) (hM : vx_Met l y ws rm Pc Qc XC mc ms free) (cw : CallB R s args own index y bytes maxL ret ws rm mc ms n ∧ (Cond.static y).before args s = true) (hp : PreS s H Pc As)
    (hg : g.method = m) (hn : As.length = n) (hsize : g.locals.size = nL) (hstack : g.stack = As.reverse ++ rest) (hW : 2 * g.monitorRoom + (rest.map fun v => v.category).sum ≤ 8) (hdg : decode cc g.pc = .ok (.invokestatic index, 3)) (hf : cells + mc ≤ R.cells ∧ slots + ms ≤ R.slots) :
    vx_Run p l e R s m args below meth c H locs cells slots mc ms g rest (Qc As.toArray) XC free := by
  have hK : vx_Back l R p e below s args y 3 8 (PreOf R mc ms Pc) (PostOf Qc mc ms free) (vx_Post XC mc ms free) := vx_callBack cw.1 hM hp.1
  obtain ⟨⟨-, -, -, -, -, -, hcode, hini, hy, hlen, hl⟩, hstt⟩ := cw
  obtain ⟨hx, hb, hml, ho, -⟩ := S
  intro T hT X
  rcases vx_callS X hx (bytes := bytes) (maxL := maxL) (ret := ret) ho hl hstt hini hcode hy hK hg (hsize.trans hml.symm) (argsL := As) (rest := rest) (fun sig h => hn.trans (hlen sig h)) hstack hW (by rw [hb]; exact hdg)
    (fun vm₁ hW₁ => ⟨hf.1, hf.2, hp.2 (T.setVm vm₁) hT hW₁⟩) with ⟨v, vm₁, ⟨U', l2, c2, s2⟩, hW₁, X', ⟨g', mk, t, L, e1, e2, hq, h1, hL, h2, h3⟩, st⟩ | ⟨q, vm₁, ⟨U', l2, c2, s2⟩, hW₁, X', ⟨g', mk, t, L, E, ce, e1, e2, hq, hce, hcv, hcl, h1, hL, h2, h3⟩, st⟩
  · dsimp only [Pt.U, Pt.locs, Pt.cells, Pt.slots] at X' e1 e2 h1 h2 h3 st
    subst h1; subst h2; subst h3
    exact Or.inl ⟨v, (T.setVm vm₁).calling g' mk As.toArray, t, U', L, hT, X', hL, e1, e2, hq, st⟩
  · dsimp only [Pt.U, Pt.locs, Pt.cells, Pt.slots] at X' e1 e2 h1 h2 h3 st hcl
    subst h1; subst h2; subst h3
    exact Or.inr ⟨q, (T.setVm vm₁).calling g' mk As.toArray, t, U', L, E, ce, hT, X', hL, e1, e2, hq, hce, hcv, vx_cls hW₁ hcl, st⟩
end Runs
section Rows
variable {p : Program} {l : Launch} {e : Env} {R : Room} {s : State} {m : MethodId} {args : Array Value} {below : List Frame} {meth : Method} {c : Code} {H : Heap} {locs : List Loc} {cells slots : Nat} {Q : State → Prop}
variable {mc ms : Nat} {free : Addr → Prop} {A0 A1 : Nat → Prop} {H0 : Heap} {a : Array Value} {pc : Nat} {ls : Array Slot} {st0 rest : List Value}
theorem vx_keep {st₀ t T' : State} {L : List Loc} (h0 : st₀.heap = H) (e1 : T'.heap = t.heap) (hS : va_S A0 H0 H locs) (hA : ∀ q, q < H.size → A1 q → A0 q) (hf : ∀ q, free q → A0 q) (hL : ∀ q ∈ L, free q.base) (hF : va_F A1 st₀ t) :
    H.size ≤ T'.heap.size ∧ (∀ q : Nat, q < H.size → ¬ A1 q → T'.heap[q]? = H[q]?) ∧ va_S A0 H0 T'.heap (locs ++ L) := by
  obtain ⟨hz, hk⟩ := hF
  rw [h0] at hz hk
  exact ⟨by rw [e1]; exact hz, fun q h1 h2 => by rw [e1]; exact hk q h1 h2,
    ⟨Nat.le_trans hS.1 (by rw [e1]; exact hz), fun q h1 h2 => by rw [e1, hk q (Nat.lt_of_lt_of_le h1 hS.1) (fun z => h2 (hA q (Nat.lt_of_lt_of_le h1 hS.1) z))]; exact hS.2.1 q h1 h2, fun q hq => by
      rcases List.mem_append.mp hq with h | h
      · exact hS.2.2 q h
      · exact hf _ (hL q h)⟩⟩
theorem vx_calli {S SX : Type} {post : Int32 → S → Prop} {px : SX → Prop} {B : S → State → Prop} {BX : String → SX → State → Prop} {AX : Nat → Prop} (hr : vx_Run p l e R s m args below meth c H locs cells slots mc ms (F0 m pc ls st0) rest (va_Qi post B A1 a) (vx_X px BX AX) free) (hS : va_S A0 H0 H locs) (hA : ∀ q, q < H.size → A1 q → A0 q) (hf : ∀ q, free q → A0 q) (hAX : ∀ q, q < H.size → AX q → A0 q)
    (kx : ∀ (E : String) (ce : Cell) (q9 : Addr) (u : SX) (t : State) (H1 : Heap) (locs1 : List Loc), t.heap = H1 → s.vm.Alike t.vm → px u → BX E u t → H.size ≤ H1.size → (∀ q : Nat, q < H.size → ¬ AX q → H1[q]? = H[q]?) → va_S A0 H0 H1 locs1 → H1[q9]? = some ce → ce.vm = .none → s.vm.findClass E = some ce.cls → vx_W p l e R s m args below meth c H1 locs1 (cells + mc) (slots + ms) Q (F0 m pc ls rest) q9)
    (kk : ∀ (r : Int32) (u : S) (t : State) (H1 : Heap) (locs1 : List Loc), t.heap = H1 → s.vm.Alike t.vm → post r u → B u t → H.size ≤ H1.size → (∀ q : Nat, q < H.size → ¬ A1 q → H1[q]? = H[q]?) → va_S A0 H0 H1 locs1 → W p l e R s m args below meth c H1 locs1 (cells + mc) (slots + ms) Q (F0 m (pc + 3) ls (.int r :: rest))) : W p l e R s m args below meth c H locs cells slots Q (F0 m pc ls st0) := by
  intro T hT X
  rcases hr T hT X with ⟨v, st₀, t, T', L, h0, X', hL, e1, e2, ⟨⟨r, u, hv, hp, hb⟩, hF⟩, st⟩ | ⟨q, st₀, t, T', L, E, ce, h0, X', hL, e1, e2, ⟨u, hp, hb, hF⟩, hce, hcv, hcl, st⟩
  · cases hv
    obtain ⟨k1, k2, k3⟩ := vx_keep h0 e1 hS hA hf hL hF
    obtain ⟨t2, a1, b1⟩ := kk r u t T'.heap (locs ++ L) e1.symm (by rw [← e2]; exact X'.warmed.alike) hp hb k1 k2 k3 T' rfl X'
    exact ⟨t2, st t2 a1, b1⟩
  · obtain ⟨k1, k2, k3⟩ := vx_keep h0 e1 hS hAX hf hL hF
    obtain ⟨t2, a1, b1⟩ := kx E ce q u t T'.heap (locs ++ L) e1.symm (by rw [← e2]; exact X'.warmed.alike) hp hb k1 k2 k3 (by rw [e1]; exact hce) hcv hcl T' rfl X'
    exact ⟨t2, st.trans a1, b1⟩
theorem vx_calll {S SX : Type} {post : Int64 → S → Prop} {px : SX → Prop} {B : S → State → Prop} {BX : String → SX → State → Prop} {AX : Nat → Prop} (hr : vx_Run p l e R s m args below meth c H locs cells slots mc ms (F0 m pc ls st0) rest (va_Ql post B A1 a) (vx_X px BX AX) free) (hS : va_S A0 H0 H locs) (hA : ∀ q, q < H.size → A1 q → A0 q) (hf : ∀ q, free q → A0 q) (hAX : ∀ q, q < H.size → AX q → A0 q)
    (kx : ∀ (E : String) (ce : Cell) (q9 : Addr) (u : SX) (t : State) (H1 : Heap) (locs1 : List Loc), t.heap = H1 → s.vm.Alike t.vm → px u → BX E u t → H.size ≤ H1.size → (∀ q : Nat, q < H.size → ¬ AX q → H1[q]? = H[q]?) → va_S A0 H0 H1 locs1 → H1[q9]? = some ce → ce.vm = .none → s.vm.findClass E = some ce.cls → vx_W p l e R s m args below meth c H1 locs1 (cells + mc) (slots + ms) Q (F0 m pc ls rest) q9)
    (kk : ∀ (r : Int64) (u : S) (t : State) (H1 : Heap) (locs1 : List Loc), t.heap = H1 → s.vm.Alike t.vm → post r u → B u t → H.size ≤ H1.size → (∀ q : Nat, q < H.size → ¬ A1 q → H1[q]? = H[q]?) → va_S A0 H0 H1 locs1 → W p l e R s m args below meth c H1 locs1 (cells + mc) (slots + ms) Q (F0 m (pc + 3) ls (.long r :: rest))) : W p l e R s m args below meth c H locs cells slots Q (F0 m pc ls st0) := by
  intro T hT X
  rcases hr T hT X with ⟨v, st₀, t, T', L, h0, X', hL, e1, e2, ⟨⟨r, u, hv, hp, hb⟩, hF⟩, st⟩ | ⟨q, st₀, t, T', L, E, ce, h0, X', hL, e1, e2, ⟨u, hp, hb, hF⟩, hce, hcv, hcl, st⟩
  · cases hv
    obtain ⟨k1, k2, k3⟩ := vx_keep h0 e1 hS hA hf hL hF
    obtain ⟨t2, a1, b1⟩ := kk r u t T'.heap (locs ++ L) e1.symm (by rw [← e2]; exact X'.warmed.alike) hp hb k1 k2 k3 T' rfl X'
    exact ⟨t2, st t2 a1, b1⟩
  · obtain ⟨k1, k2, k3⟩ := vx_keep h0 e1 hS hAX hf hL hF
    obtain ⟨t2, a1, b1⟩ := kx E ce q u t T'.heap (locs ++ L) e1.symm (by rw [← e2]; exact X'.warmed.alike) hp hb k1 k2 k3 (by rw [e1]; exact hce) hcv hcl T' rfl X'
    exact ⟨t2, st.trans a1, b1⟩
theorem vx_callf {S SX : Type} {post : UInt32 → S → Prop} {px : SX → Prop} {B : S → State → Prop} {BX : String → SX → State → Prop} {AX : Nat → Prop} (hr : vx_Run p l e R s m args below meth c H locs cells slots mc ms (F0 m pc ls st0) rest (va_Qf post B A1 a) (vx_X px BX AX) free) (hS : va_S A0 H0 H locs) (hA : ∀ q, q < H.size → A1 q → A0 q) (hf : ∀ q, free q → A0 q) (hAX : ∀ q, q < H.size → AX q → A0 q)
    (kx : ∀ (E : String) (ce : Cell) (q9 : Addr) (u : SX) (t : State) (H1 : Heap) (locs1 : List Loc), t.heap = H1 → s.vm.Alike t.vm → px u → BX E u t → H.size ≤ H1.size → (∀ q : Nat, q < H.size → ¬ AX q → H1[q]? = H[q]?) → va_S A0 H0 H1 locs1 → H1[q9]? = some ce → ce.vm = .none → s.vm.findClass E = some ce.cls → vx_W p l e R s m args below meth c H1 locs1 (cells + mc) (slots + ms) Q (F0 m pc ls rest) q9)
    (kk : ∀ (r : UInt32) (u : S) (t : State) (H1 : Heap) (locs1 : List Loc), t.heap = H1 → s.vm.Alike t.vm → post r u → B u t → H.size ≤ H1.size → (∀ q : Nat, q < H.size → ¬ A1 q → H1[q]? = H[q]?) → va_S A0 H0 H1 locs1 → W p l e R s m args below meth c H1 locs1 (cells + mc) (slots + ms) Q (F0 m (pc + 3) ls (.float r :: rest))) : W p l e R s m args below meth c H locs cells slots Q (F0 m pc ls st0) := by
  intro T hT X
  rcases hr T hT X with ⟨v, st₀, t, T', L, h0, X', hL, e1, e2, ⟨⟨r, u, hv, hp, hb⟩, hF⟩, st⟩ | ⟨q, st₀, t, T', L, E, ce, h0, X', hL, e1, e2, ⟨u, hp, hb, hF⟩, hce, hcv, hcl, st⟩
  · cases hv
    obtain ⟨k1, k2, k3⟩ := vx_keep h0 e1 hS hA hf hL hF
    obtain ⟨t2, a1, b1⟩ := kk r u t T'.heap (locs ++ L) e1.symm (by rw [← e2]; exact X'.warmed.alike) hp hb k1 k2 k3 T' rfl X'
    exact ⟨t2, st t2 a1, b1⟩
  · obtain ⟨k1, k2, k3⟩ := vx_keep h0 e1 hS hAX hf hL hF
    obtain ⟨t2, a1, b1⟩ := kx E ce q u t T'.heap (locs ++ L) e1.symm (by rw [← e2]; exact X'.warmed.alike) hp hb k1 k2 k3 (by rw [e1]; exact hce) hcv hcl T' rfl X'
    exact ⟨t2, st.trans a1, b1⟩
theorem vx_calld {S SX : Type} {post : UInt64 → S → Prop} {px : SX → Prop} {B : S → State → Prop} {BX : String → SX → State → Prop} {AX : Nat → Prop} (hr : vx_Run p l e R s m args below meth c H locs cells slots mc ms (F0 m pc ls st0) rest (va_Qd post B A1 a) (vx_X px BX AX) free) (hS : va_S A0 H0 H locs) (hA : ∀ q, q < H.size → A1 q → A0 q) (hf : ∀ q, free q → A0 q) (hAX : ∀ q, q < H.size → AX q → A0 q)
    (kx : ∀ (E : String) (ce : Cell) (q9 : Addr) (u : SX) (t : State) (H1 : Heap) (locs1 : List Loc), t.heap = H1 → s.vm.Alike t.vm → px u → BX E u t → H.size ≤ H1.size → (∀ q : Nat, q < H.size → ¬ AX q → H1[q]? = H[q]?) → va_S A0 H0 H1 locs1 → H1[q9]? = some ce → ce.vm = .none → s.vm.findClass E = some ce.cls → vx_W p l e R s m args below meth c H1 locs1 (cells + mc) (slots + ms) Q (F0 m pc ls rest) q9)
    (kk : ∀ (r : UInt64) (u : S) (t : State) (H1 : Heap) (locs1 : List Loc), t.heap = H1 → s.vm.Alike t.vm → post r u → B u t → H.size ≤ H1.size → (∀ q : Nat, q < H.size → ¬ A1 q → H1[q]? = H[q]?) → va_S A0 H0 H1 locs1 → W p l e R s m args below meth c H1 locs1 (cells + mc) (slots + ms) Q (F0 m (pc + 3) ls (.double r :: rest))) : W p l e R s m args below meth c H locs cells slots Q (F0 m pc ls st0) := by
  intro T hT X
  rcases hr T hT X with ⟨v, st₀, t, T', L, h0, X', hL, e1, e2, ⟨⟨r, u, hv, hp, hb⟩, hF⟩, st⟩ | ⟨q, st₀, t, T', L, E, ce, h0, X', hL, e1, e2, ⟨u, hp, hb, hF⟩, hce, hcv, hcl, st⟩
  · cases hv
    obtain ⟨k1, k2, k3⟩ := vx_keep h0 e1 hS hA hf hL hF
    obtain ⟨t2, a1, b1⟩ := kk r u t T'.heap (locs ++ L) e1.symm (by rw [← e2]; exact X'.warmed.alike) hp hb k1 k2 k3 T' rfl X'
    exact ⟨t2, st t2 a1, b1⟩
  · obtain ⟨k1, k2, k3⟩ := vx_keep h0 e1 hS hAX hf hL hF
    obtain ⟨t2, a1, b1⟩ := kx E ce q u t T'.heap (locs ++ L) e1.symm (by rw [← e2]; exact X'.warmed.alike) hp hb k1 k2 k3 (by rw [e1]; exact hce) hcv hcl T' rfl X'
    exact ⟨t2, st.trans a1, b1⟩
theorem vx_callv {S SX : Type} {post : S → Prop} {px : SX → Prop} {B : S → State → Prop} {BX : String → SX → State → Prop} {AX : Nat → Prop} (hr : vx_Run p l e R s m args below meth c H locs cells slots mc ms (F0 m pc ls st0) rest (va_Qv post B A1 a) (vx_X px BX AX) free) (hS : va_S A0 H0 H locs) (hA : ∀ q, q < H.size → A1 q → A0 q) (hf : ∀ q, free q → A0 q) (hAX : ∀ q, q < H.size → AX q → A0 q)
    (kx : ∀ (E : String) (ce : Cell) (q9 : Addr) (u : SX) (t : State) (H1 : Heap) (locs1 : List Loc), t.heap = H1 → s.vm.Alike t.vm → px u → BX E u t → H.size ≤ H1.size → (∀ q : Nat, q < H.size → ¬ AX q → H1[q]? = H[q]?) → va_S A0 H0 H1 locs1 → H1[q9]? = some ce → ce.vm = .none → s.vm.findClass E = some ce.cls → vx_W p l e R s m args below meth c H1 locs1 (cells + mc) (slots + ms) Q (F0 m pc ls rest) q9)
    (kk : ∀ (u : S) (t : State) (H1 : Heap) (locs1 : List Loc), t.heap = H1 → s.vm.Alike t.vm → post u → B u t → H.size ≤ H1.size → (∀ q : Nat, q < H.size → ¬ A1 q → H1[q]? = H[q]?) → va_S A0 H0 H1 locs1 → W p l e R s m args below meth c H1 locs1 (cells + mc) (slots + ms) Q (F0 m (pc + 3) ls (rest))) : W p l e R s m args below meth c H locs cells slots Q (F0 m pc ls st0) := by
  intro T hT X
  rcases hr T hT X with ⟨v, st₀, t, T', L, h0, X', hL, e1, e2, ⟨⟨u, hv, hp, hb⟩, hF⟩, st⟩ | ⟨q, st₀, t, T', L, E, ce, h0, X', hL, e1, e2, ⟨u, hp, hb, hF⟩, hce, hcv, hcl, st⟩
  · cases hv
    obtain ⟨k1, k2, k3⟩ := vx_keep h0 e1 hS hA hf hL hF
    obtain ⟨t2, a1, b1⟩ := kk u t T'.heap (locs ++ L) e1.symm (by rw [← e2]; exact X'.warmed.alike) hp hb k1 k2 k3 T' rfl X'
    exact ⟨t2, st t2 a1, b1⟩
  · obtain ⟨k1, k2, k3⟩ := vx_keep h0 e1 hS hAX hf hL hF
    obtain ⟨t2, a1, b1⟩ := kx E ce q u t T'.heap (locs ++ L) e1.symm (by rw [← e2]; exact X'.warmed.alike) hp hb k1 k2 k3 (by rw [e1]; exact hce) hcv hcl T' rfl X'
    exact ⟨t2, st.trans a1, b1⟩
end Rows
section Ends
variable {p : Program} {l : Launch} {e : Env} {R : Room} {s : State} {m : MethodId} {args : Array Value} {below : List Frame} {meth : Method} {c : Code} {H : Heap} {locs : List Loc} {cells slots : Nat} {Q : State → Prop}
variable {mc ms : Nat} {free : Addr → Prop} {A0 A1 : Nat → Prop} {H0 : Heap} {a : Array Value} {ls : Array Slot} {st0 rest : List Value}
variable {Qc : Array Value → State → Outcome → State → Prop} {XC : String → State → State → Prop}
/-- what a body that may throw owes at its end -/
def vx_MQ (below : List Frame) (Qc : Array Value → State → Outcome → State → Prop) (XC : String → State → State → Prop) (a : Array Value) (s : State) (mc ms : Nat) (free : Addr → Prop) : State → Prop := fun t =>
  ∃ o, t.status = .running ∧ Ended t below o ∧ vx_Q Qc XC mc ms free a s o t
theorem vx_ret {g : JFrame} {mc ms : Nat} (k : W p l e R s m args below meth c H locs cells slots (MQ below Qc args s mc ms free) g) : W p l e R s m args below meth c H locs cells slots (vx_MQ below Qc XC args s mc ms free) g := by
  intro T hT X
  obtain ⟨t, a1, o, b1, b2, b3, b4⟩ := k T hT X
  exact ⟨t, a1, o, b1, b2, Or.inl ⟨b3, b4⟩⟩
/-- not caught here: it goes on to the caller -/
theorem vx_widen {g : JFrame} {q : Addr} {k n : Nat} (h1 : cells ≤ k) (h2 : slots ≤ n) (kk : vx_W p l e R s m args below meth c H locs k n Q g q) : vx_W p l e R s m args below meth c H locs cells slots Q g q := fun T hT X => kk T hT (stand_widen X h1 h2)
theorem vx_out {pc : Nat} {E : String} {ce : Cell} {q : Addr} {mc ms : Nat} (hout : ∀ x ∈ c.exceptionTable.toList, covers x pc = false) (hlocks : meth.locks = false) (hcell : H[q]? = some ce) (hv : ce.vm = .none) (hcl : s.vm.findClass E = some ce.cls)
    (hx : ∀ t : State, t.heap = H → s.vm.Alike t.vm → XC E s t) (hf : ∀ z ∈ locs, free z.base) (hc : cells ≤ mc) (hs : slots ≤ ms) :
    vx_W p l e R s m args below meth c H locs cells slots (vx_MQ below Qc XC args s mc ms free) (F0 m pc ls rest) q := by
  intro T hT X
  obtain ⟨st1, hrun, hend, hW, hsm⟩ := X.leaveThrown q (g := F0 m pc ls rest) rfl rfl rfl hout hlocks
  have hcell9 : (T.setFrames (.throwing q :: below)).heap[q]? = some ce := by
    show T.heap[q]? = some ce
    rw [hT]; exact hcell
  exact ⟨_, st1, .threw q, hrun, hend, Or.inr ⟨q, rfl, E, ce, locs, hx _ hT hW.alike, hcell9, hv, hcl, hW, hsm.mono hc hs, hf⟩⟩
theorem vx_frame {U : State} {k n : Nat} (h : s.sameButNew ({ U with vm := s.vm } : State) locs k n) : s.heap.size ≤ U.heap.size ∧ ∀ q : Nat, q < s.heap.size → (∀ z ∈ locs, z.base ≠ q) → U.heap[q]? = s.heap[q]? := by
  obtain ⟨-, h2, -, -, -, h6⟩ := h
  refine ⟨h2, fun q hq hz => ?_⟩
  obtain ⟨c9, e1, e2, e3, e4⟩ := h6 q _ (Array.getElem?_eq_getElem hq)
  have hs : c9.slots = (s.heap[q]).slots := Array.ext_getElem? fun i => e4 i fun hm => hz _ hm rfl
  have h9 : c9 = s.heap[q] := by
    rw [hs] at e2
    exact e2
  have e5 : U.heap[q]? = some c9 := e1
  rw [e5, h9, Array.getElem?_eq_getElem hq]
/-- the words of a throw but the four that speak of the heap -/
def vx_no (w : Cond) : Bool := decide (w ≠ .isRef (.static Bundle.tN "UNASSIGNED_STACK" Bundle.steD)) && decide (w ≠ .isRef (.static Bundle.tN "SUPPRESSED_SENTINEL" Bundle.listD)) && decide (w ≠ .laysStatic Bundle.tN "UNASSIGNED_STACK" Bundle.steD) && decide (w ≠ .laysStatic Bundle.tN "SUPPRESSED_SENTINEL" Bundle.listD)
def vx_at0 (own : String) (ic : Nat) (X : String) (names : List String) : List Cond := (Bundle.ownAtoms0 own ic X names).filter vx_no
def vx_atS (own : String) (ic : Nat) (X : String) (names : List String) : List Cond := (Bundle.ownAtoms own ic X names).filter vx_no
/-- a word that the tables alone decide, or a good one -/
def vx_ot (w : Cond) : Bool := w.onTables || goodWord w
theorem vx_ot_at {args a' : Array Value} {s U : State} {w : Cond} (hW : s.WarmedH U.vm) (hvm : s.vm = U.vm) (hg : vx_ot w = true) (h : w.before args s = true) : w.before a' U = true := by
  simp only [vx_ot, Bool.or_eq_true] at hg
  rcases hg with hg | hg
  · exact va_tabs hg hvm h
  · exact word_at hW (good_of_word hg) h
/-- a list's words: the good ones out of the method's own list, the others by premises of their own -/
theorem vx_hat {args : Array Value} {s : State} {L B : List Cond} (h1 : ∀ w ∈ L.filter goodWord, w.before args s = true) (h2 : ∀ w ∈ L.filter (fun w => !goodWord w), w ∈ B) (h3 : ∀ w ∈ B, w.before args s = true) : ∀ w ∈ L, w.before args s = true := by
  intro w hw
  by_cases g : goodWord w = true
  · exact h1 w (List.mem_filter.mpr ⟨hw, g⟩)
  · refine h3 w (h2 w (List.mem_filter.mpr ⟨hw, ?_⟩))
    show (!goodWord w) = true
    cases hgw : goodWord w
    · rfl
    · exact absurd hgw g
theorem vx_c {args : Array Value} {s : State} {w : Cond} {B : List Cond} (h : w.before args s = true) (t : ∀ w ∈ B, w.before args s = true) : ∀ w' ∈ w :: B, w'.before args s = true := fun w' h' => (List.mem_cons.mp h').elim (fun e => by rw [e]; exact h) (t w')
theorem vx_n {args : Array Value} {s : State} : ∀ w ∈ ([] : List Cond), w.before args s = true := fun _ h => nomatch h
theorem vx_own {args : Array Value} {s : State} {L : List Cond} (h1 : ∀ w ∈ L.filter vx_no, w.before args s = true)
    (hU : (Cond.isRef (.static Bundle.tN "UNASSIGNED_STACK" Bundle.steD)).before args s = true) (hN : (Cond.isRef (.static Bundle.tN "SUPPRESSED_SENTINEL" Bundle.listD)).before args s = true)
    (lU : (Cond.laysStatic Bundle.tN "UNASSIGNED_STACK" Bundle.steD).before args s = true) (lN : (Cond.laysStatic Bundle.tN "SUPPRESSED_SENTINEL" Bundle.listD).before args s = true) : ∀ w ∈ L, w.before args s = true := by
  intro w hw
  by_cases e1 : w = .isRef (.static Bundle.tN "UNASSIGNED_STACK" Bundle.steD)
  · rw [e1]; exact hU
  · by_cases e2 : w = .isRef (.static Bundle.tN "SUPPRESSED_SENTINEL" Bundle.listD)
    · rw [e2]; exact hN
    · by_cases e3 : w = .laysStatic Bundle.tN "UNASSIGNED_STACK" Bundle.steD
      · rw [e3]; exact lU
      · by_cases e4 : w = .laysStatic Bundle.tN "SUPPRESSED_SENTINEL" Bundle.listD
        · rw [e4]; exact lN
        · exact h1 w (List.mem_filter.mpr ⟨hw, by unfold vx_no; rw [decide_eq_true e1, decide_eq_true e2, decide_eq_true e3, decide_eq_true e4]; rfl⟩)
/-- where a static field lies, its class's statics cell in H -/
def vx_L (C n d : String) (A : Nat → Prop) (U : State) (H : Heap) : Prop := ∃ (c : ClassId) (k : Class) (i : Nat) (f : Field) (a : Nat) (cell : Cell), U.vm.findClass C = some c ∧ U.fieldFound? C n d = some (c, k, i, f) ∧ f.isStatic = true ∧ k.statics = some a ∧ H[a]? = some cell ∧ cell.vm.isStatics = true ∧ cell.cls = c ∧ f.slot < cell.slots.size ∧ k.staticTypes[f.slot]? = some f.type ∧ ¬ A a
theorem vx_L.moved {C n d : String} {A : Nat → Prop} {u U : State} {H : Heap} (hvm : u.vm.Alike U.vm) (h : vx_L C n d A u H) : vx_L C n d A U H := by
  obtain ⟨c, k, i, f, a, cell, h1, h2, h3, h4, h5, h6, h7, h8, h9, h10⟩ := h
  obtain ⟨k', hi', he⟩ := State.fieldFound?_setVm hvm h2
  exact ⟨c, k', i, f, a, cell, by rw [hvm.findClass]; exact h1, hi', h3, by rw [he]; exact h4, h5, h6, h7, h8, by rw [he]; exact h9, h10⟩
theorem vx_L.kept {C n d : String} {A : Nat → Prop} {U : State} {H H1 : Heap} (h : vx_L C n d A U H) (hq : ∀ a : Nat, a < H.size → ¬ A a → H1[a]? = H[a]?) : vx_L C n d A U H1 := by
  obtain ⟨c, k, i, f, a, cell, h1, h2, h3, h4, h5, h6, h7, h8, h9, h10⟩ := h
  exact ⟨c, k, i, f, a, cell, h1, h2, h3, h4, by rw [hq a (Array.getElem?_eq_some_iff.mp h5).1 h10]; exact h5, h6, h7, h8, h9, h10⟩
theorem vx_L.narrow {C n d : String} {A B : Nat → Prop} {U : State} {H : Heap} (h : vx_L C n d A U H) (hAB : ∀ q, B q → A q) : vx_L C n d B U H := by
  obtain ⟨c, k, i, f, a, cell, h1, h2, h3, h4, h5, h6, h7, h8, h9, h10⟩ := h
  exact ⟨c, k, i, f, a, cell, h1, h2, h3, h4, h5, h6, h7, h8, h9, fun z => h10 (hAB _ z)⟩
theorem vx_L.word {C n d : String} {A : Nat → Prop} {s : State} {args : Array Value} (h : vx_L C n d A s s.heap) : (Cond.laysStatic C n d).before args s = true := by
  obtain ⟨c, k, i, f, a, cell, h1, h2, h3, h4, h5, h6, h7, h8, h9, -⟩ := h
  show (Cond.laysStatic C n d).holds args s none s [] = true
  exact Cond.laysStatic_of h1 h2 h3 h4 h5 h6 h7 h8 h9
/-- .. and what it holds: null or some reference -/
def vx_Zq (C n d : String) (A : Nat → Prop) (U : State) (H : Heap) : Prop := va_Zq C n d A U H ∧ vx_L C n d A U H
theorem vx_Zq.moved {C n d : String} {A : Nat → Prop} {u U : State} {H : Heap} (hvm : u.vm.Alike U.vm) (h : vx_Zq C n d A u H) : vx_Zq C n d A U H := ⟨va_Zq.moved hvm h.1, vx_L.moved hvm h.2⟩
theorem vx_Zq.kept {C n d : String} {A : Nat → Prop} {U : State} {H H1 : Heap} (h : vx_Zq C n d A U H) (hq : ∀ a : Nat, a < H.size → ¬ A a → H1[a]? = H[a]?) : vx_Zq C n d A U H1 := ⟨va_Zq.kept h.1 hq, vx_L.kept h.2 hq⟩
theorem vx_Zq.narrow {C n d : String} {A B : Nat → Prop} {U : State} {H : Heap} (h : vx_Zq C n d A U H) (hAB : ∀ q, B q → A q) : vx_Zq C n d B U H := ⟨va_Zq.narrow h.1 hAB, vx_L.narrow h.2 hAB⟩
theorem vx_Zqof {args : Array Value} {s : State} {C n d : String} {A : Nat → Prop} (hl : (Cond.laysStatic C n d).before args s = true) (hini : (Cond.initialized C).before args s = true) (h : (Cond.isRef (.static C n d)).before args s = true) (hA : ∀ a : Nat, a < s.heap.size → ¬ A a) : vx_Zq C n d A s s.heap := by
  refine ⟨va_Zqof hl hini h hA, ?_⟩
  obtain ⟨c, k, i, f, a, cell, h1, h2, h3, h4, h5, h6, h7, h8, h9⟩ := Cond.laysStatic_spec hl
  exact ⟨c, k, i, f, a, cell, h1, h2, h3, h4, h5, h6, h7, h8, h9, hA a (Array.getElem?_eq_some_iff.mp h5).1⟩
theorem vx_isRef {C n d : String} {v : Value} {A : Nat → Prop} {s : State} {args : Array Value} (h : va_Z C n d v A s s.heap) (hv : v.isRef = true) : (Cond.isRef (.static C n d)).before args s = true := by
  obtain ⟨cf, kf, fi, f, a, cell, h1, h2, h3, h4, h5, h6, h7, -⟩ := h
  have he : (Term.static C n d).eval args s none [] s = some v := by
    simp [Term.eval, State.fieldNamed?, h1, h2, h4, h5, h6, h7]
  simp only [Cond.before, Cond.holds, Cond.value, he]
  cases v <;> simp_all [Value.isRef]
theorem vx_isRefq {C n d : String} {A : Nat → Prop} {s : State} {args : Array Value} (h : va_Zq C n d A s s.heap) : (Cond.isRef (.static C n d)).before args s = true := by
  rcases h with h | ⟨t, h⟩
  · exact vx_isRef h rfl
  · exact vx_isRef h rfl
/-- the same frame, seen from here: as if the method were called anew in this heap -/
theorem vx_rebase {T : State} (X : Stand p l e R s m args below meth c T locs cells slots) {R' : Room} (hf : R'.frames ≤ R.frames) (hl : R'.locals ≤ R.locals) (hc : cells + R'.cells ≤ R.cells) (hs : slots + R'.slots ≤ R.slots) :
    Stand p l e R' ((T.setVm s.vm).setFrames (.invoking m args :: below)) m args below meth c T [] 0 0 := by
  have htop : (T.setVm s.vm).topJava?.isSome := X.here.top
  have hF : ((T.setVm s.vm).setFrames (.invoking m args :: below)).frames = .invoking m args :: below := State.frames_setFrames _ (State.cur_lt_of_top htop)
  obtain ⟨g₀, hg0⟩ := Option.isSome_iff_exists.mp htop
  obtain ⟨r, hr⟩ := State.topJava?_eq_some.mp hg0
  have hl9 : e.platform.stackLimits (T.setVm s.vm).me = e.platform.stackLimits s.me := X.limits
  have hb9 : (T.setVm s.vm).me.stackBytes = s.me.stackBytes := X.bytes
  refine ⟨X.admits, X.cas, X.clock, hF, ?_, X.hears, X.method, X.code, X.here, X.tail, X.warmed, ?_, ?_, ?_⟩
  · have h := X.room
    have hU : ((T.setVm s.vm).setFrames (.invoking m args :: below)).localsInUse = s.localsInUse := by
      rw [State.localsInUse_invoking hF (meth := meth) (c := c) X.method X.code, State.localsInUse_invoking X.frames X.method X.code]
    simp only [State.hasRoom, Bool.and_eq_true, decide_eq_true_eq] at h ⊢
    obtain ⟨⟨⟨⟨h1, h2, h3, h4, h5, h6⟩, h7⟩, h8⟩, h9⟩ := h
    rw [X.frames, List.length_cons] at h2 h3
    have q1 := X.heapSize
    have q2 := X.used
    simp only [hF, hU, List.length_cons, State.stackLimits_setFrames, State.stackBytes_setFrames, hl9, hb9]
    refine ⟨⟨⟨⟨by omega, by omega, by omega, by omega, by omega, h6⟩, ?_⟩, ?_⟩, X.book⟩
    · show T.heap.size + R'.cells ≤ e.platform.maxCells
      omega
    · show T.slotsUsed + R'.slots ≤ e.platform.maxSlots
      omega
  · rw [State.stackLimits_setFrames]; rfl
  · rw [State.stackBytes_setFrames]; rfl
  · refine ⟨?_, Nat.le_refl _, Nat.le_refl _, ?_, ?_, fun a c9 h9 => ⟨c9, h9, rfl, rfl, fun _ _ => rfl⟩⟩
    · obtain ⟨t, ht, -⟩ := State.frames_cons hr
      show T.setVm s.vm = { ((T.setVm s.vm).setFrames (.invoking m args :: below)).setFrames (T.setVm s.vm).frames with heap := T.heap, slotsUsed := T.slotsUsed }
      rw [State.setFrames_setFrames, State.setFrames_self ht]
      rfl
    · show T.slotsUsed = T.slotsUsed + ((T.heap.toList.drop T.heap.size).map (·.slots.size)).sum
      rw [List.drop_eq_nil_of_le (Nat.le_of_eq Array.length_toList)]
      rfl
    · show ((T.heap.toList.drop T.heap.size).map (·.slots.size)).sum ≤ 0
      rw [List.drop_eq_nil_of_le (Nat.le_of_eq Array.length_toList)]
      exact Nat.le_refl _
/-- 'throw new E()': new; dup; invokespecial; athrow -/
theorem vx_throw0 {cc : ByteArray} {pc : Nat} (hexec : p.tables.exec = Jvm.exec) (hb : c.code = cc) (hl : l.stackTraces = false) {own cls : String} {names : List String} {ik ic mc ms : Nat} {A : Nat → Prop}
    (hown : s.vm.findClass own = some m.cls) (hcls : Bundle.fit cls = true) (hnames : ∀ n ∈ names, Bundle.fit n = true)
    (hk : (Cond.classLink own ik cls).before args s = true) (hini : (Cond.initialized cls).before args s = true) (hat : ∀ w ∈ vx_at0 own ic cls names, w.before args s = true)
    (hgood : ∀ w ∈ Cond.classLink own ik cls :: Cond.initialized cls :: vx_at0 own ic cls names, vx_ot w = true)
    (hU : vx_Zq Bundle.tN "UNASSIGNED_STACK" Bundle.steD A s s.heap) (hN : vx_Zq Bundle.tN "SUPPRESSED_SENTINEL" Bundle.listD A s s.heap) (hS : va_S A s.heap H locs) (hsize : ls.size = c.maxLocals)
    (d0 : decode cc pc = .ok (.new ik, 3)) (d3 : decode cc (pc + 3) = .ok (.dup, 1)) (d4 : decode cc (pc + 4) = .ok (.invokespecial ic, 3)) (d7 : decode cc (pc + 7) = .ok (.athrow, 1))
    (hout : ∀ x ∈ c.exceptionTable.toList, covers x (pc + 7) = false)
    (hRframes : names.length + 3 < R.frames) (hRlocals : (rest.map fun v => v.category).sum + (13 * (names.length + 1) + 42) ≤ R.locals) (hRcells : cells + 1 ≤ R.cells) (hRslots : slots + 6 ≤ R.slots) (hlocks : meth.locks = false)
    (hx : ∀ t : State, s.vm.Alike t.vm → H.size ≤ t.heap.size → (∀ q : Nat, q < H.size → t.heap[q]? = H[q]?) → XC cls s t)
    (hf : ∀ z ∈ locs, free z.base) (hc : cells + 1 ≤ mc) (hs : slots + 6 ≤ ms) :
    W p l e R s m args below meth c H locs cells slots (vx_MQ below Qc XC args s mc ms free) (F0 m pc ls rest) := by
  intro T hT X
  have htr : e.platform.stackTraces = false := (show e.platform.stackTraces = l.stackTraces by rw [X.admits.platform]).trans hl
  have Y := vx_rebase X (R' := { frames := R.frames, locals := R.locals, cells := 1, slots := 6 }) (Nat.le_refl _) (Nat.le_refl _) hRcells hRslots
  obtain ⟨s', hA⟩ : ∃ z, z = (T.setVm s.vm).setFrames (.invoking m args :: below) := ⟨_, rfl⟩
  rw [← hA] at Y
  have hvm : s'.vm = s.vm := by rw [hA]; rfl
  have hhp : s'.heap = H := by rw [hA]; exact hT
  have hW0 : s.WarmedH s'.vm := by rw [hvm]; exact State.WarmedH.refl s
  have hat' : ∀ w ∈ vx_at0 own ic cls names, w.before args s' = true := fun w hw => vx_ot_at hW0 hvm.symm (hgood w (List.mem_cons_of_mem _ (List.mem_cons_of_mem _ hw))) (hat w hw)
  have hk' : (Cond.classLink own ik cls).before args s' = true := vx_ot_at hW0 hvm.symm (hgood _ List.mem_cons_self) hk
  have hini' : (Cond.initialized cls).before args s' = true := vx_ot_at hW0 hvm.symm (hgood _ (List.mem_cons_of_mem _ List.mem_cons_self)) hini
  have hU' : vx_Zq Bundle.tN "UNASSIGNED_STACK" Bundle.steD A s' s'.heap := by rw [hhp]; exact vx_Zq.moved hW0.alike (hU.kept hS.2.1)
  have hN' : vx_Zq Bundle.tN "SUPPRESSED_SENTINEL" Bundle.listD A s' s'.heap := by rw [hhp]; exact vx_Zq.moved hW0.alike (hN.kept hS.2.1)
  have h : ∀ w ∈ Bundle.ownAtoms0 own ic cls names, w.before args s' = true := vx_own hat' (vx_isRefq hU'.1) (vx_isRefq hN'.1) hU'.2.word hN'.2.word
  have hown' : s'.vm.findClass own = some m.cls := by rw [hvm]; exact hown
  have hins : (Cond.instantiable cls 6).before args s' = true := h _ (by simp [Bundle.ownAtoms0])
  obtain ⟨vm₁, cX, kX, hfX, hkX, -, -, X₁, st1⟩ := Y.newCold hexec (own := own) (C := cls) (index := ik) (n := 6) hown' hk' hins hini'
    (g := F0 m pc ls rest) rfl (by rw [hb]; exact d0) (Nat.le_refl _) (Nat.le_refl _)
  generalize hT1 : (T.setVm vm₁).pushCell { cls := cX, slots := kX.instanceTypes.map defaultValue, vm := .none } = T1 at X₁ st1
  have hcat : (Value.ref T.heap.size).category = 1 := rfl
  have hcellA : T1.heap[T.heap.size]? = some (freshCell cX kX) := by rw [← hT1]; exact State.heap_pushCell_size _ _
  have d3' : decode c.code (pc + 3) = .ok (.dup, 1) := by rw [hb]; exact d3
  obtain ⟨U, hsteps, hrun, hend, hW, hsame, ce, hce, hO⟩ := X₁.ctorThrow0 hexec htr (own := own) (cls := cls) (names := names) (ic := ic) hown' hcls hnames h (fun x hx => nomatch hx) hfX hkX hcellA (by rw [hhp, hT]; exact Nat.le_refl _)
    (g := { method := m, pc := pc + 4, locals := ls, stack := .ref T.heap.size :: .ref T.heap.size :: rest, locked := none }) rfl hsize rfl rfl (rest := rest) rfl
    (by rw [hb]; exact d4) (by rw [hb]; exact d7) hout hRframes (by simp only [List.map_cons, List.sum_cons, hcat]; omega) hlocks
  obtain ⟨f1, f2⟩ := vx_frame hsame
  rw [hhp] at f1 f2
  have hWs : s.WarmedH U.vm := State.WarmedH.trans hW0 hW
  have hcl : s.vm.findClass cls = some ce.cls := by
    have h9 := hO.cls
    rw [hvm] at h9
    exact h9
  have hall : s.sameButNew ({ U with vm := s.vm } : State) locs mc ms := by
    subst hA
    obtain ⟨e1, e2⟩ := hsame
    rw [State.setFrames_setFrames] at e1
    have h2 : (T.setVm s.vm).sameButNew ({ U with vm := s.vm } : State) [] (0 + 1) (0 + 6) := ⟨e1, e2⟩
    have h3 := X.same.trans h2
    rw [List.append_nil] at h3
    exact h3.mono hc hs
  refine ⟨U, ?_, .threw T.heap.size, hrun, hend, Or.inr ⟨T.heap.size, rfl, cls, ce, locs, hx U hWs.alike f1 (fun q hq => f2 q hq (fun z hz => nomatch hz)), hce, hO.vm, hcl, hWs, hall, hf⟩⟩
  refine st1 _ ?_
  show Steps p.tables e below (T1.setTop { method := m, pc := pc + 3, locals := ls, stack := .ref T.heap.size :: rest, locked := none }) _
  jvm_step X₁.here [X₁.here.top, hexec, d3', Value.category]
  exact hsteps
/-- 'throw new E("text")': new; dup; ldc; invokespecial; athrow -/
theorem vx_throwS {cc : ByteArray} {pc : Nat} (hexec : p.tables.exec = Jvm.exec) (hb : c.code = cc) (hl : l.stackTraces = false) {own cls text : String} {names : List String} {ik is ic mc ms sa : Nat} {A : Nat → Prop}
    (hown : s.vm.findClass own = some m.cls) (hcls : Bundle.fit cls = true) (hnames : ∀ n ∈ names, Bundle.fit n = true)
    (hk : (Cond.classLink own ik cls).before args s = true) (hini : (Cond.initialized cls).before args s = true) (hstr : vk_R own is text sa s) (hat : ∀ w ∈ vx_atS own ic cls names, w.before args s = true)
    (hgood : ∀ w ∈ Cond.classLink own ik cls :: Cond.initialized cls :: vx_atS own ic cls names, vx_ot w = true)
    (hU : vx_Zq Bundle.tN "UNASSIGNED_STACK" Bundle.steD A s s.heap) (hN : vx_Zq Bundle.tN "SUPPRESSED_SENTINEL" Bundle.listD A s s.heap) (hS : va_S A s.heap H locs) (hsize : ls.size = c.maxLocals)
    (d0 : decode cc pc = .ok (.new ik, 3)) (d3 : decode cc (pc + 3) = .ok (.dup, 1)) (d4 : decode cc (pc + 4) = .ok (.ldc is, 2)) (d6 : decode cc (pc + 6) = .ok (.invokespecial ic, 3)) (d9 : decode cc (pc + 9) = .ok (.athrow, 1))
    (hout : ∀ x ∈ c.exceptionTable.toList, covers x (pc + 9) = false)
    (hRframes : names.length + 3 < R.frames) (hRlocals : (rest.map fun v => v.category).sum + (13 * (names.length + 1) + 43) ≤ R.locals) (hRcells : cells + 1 ≤ R.cells) (hRslots : slots + 6 ≤ R.slots) (hlocks : meth.locks = false)
    (hx : ∀ t : State, s.vm.Alike t.vm → H.size ≤ t.heap.size → (∀ q : Nat, q < H.size → t.heap[q]? = H[q]?) → XC cls s t)
    (hf : ∀ z ∈ locs, free z.base) (hc : cells + 1 ≤ mc) (hs : slots + 6 ≤ ms) :
    W p l e R s m args below meth c H locs cells slots (vx_MQ below Qc XC args s mc ms free) (F0 m pc ls rest) := by
  intro T hT X
  have htr : e.platform.stackTraces = false := (show e.platform.stackTraces = l.stackTraces by rw [X.admits.platform]).trans hl
  have Y := vx_rebase X (R' := { frames := R.frames, locals := R.locals, cells := 1, slots := 6 }) (Nat.le_refl _) (Nat.le_refl _) hRcells hRslots
  obtain ⟨s', hA⟩ : ∃ z, z = (T.setVm s.vm).setFrames (.invoking m args :: below) := ⟨_, rfl⟩
  rw [← hA] at Y
  have hvm : s'.vm = s.vm := by rw [hA]; rfl
  have hhp : s'.heap = H := by rw [hA]; exact hT
  have hW0 : s.WarmedH s'.vm := by rw [hvm]; exact State.WarmedH.refl s
  have hat' : ∀ w ∈ vx_atS own ic cls names, w.before args s' = true := fun w hw => vx_ot_at hW0 hvm.symm (hgood w (List.mem_cons_of_mem _ (List.mem_cons_of_mem _ hw))) (hat w hw)
  have hk' : (Cond.classLink own ik cls).before args s' = true := vx_ot_at hW0 hvm.symm (hgood _ List.mem_cons_self) hk
  have hini' : (Cond.initialized cls).before args s' = true := vx_ot_at hW0 hvm.symm (hgood _ (List.mem_cons_of_mem _ List.mem_cons_self)) hini
  have hU' : vx_Zq Bundle.tN "UNASSIGNED_STACK" Bundle.steD A s' s'.heap := by rw [hhp]; exact vx_Zq.moved hW0.alike (hU.kept hS.2.1)
  have hN' : vx_Zq Bundle.tN "SUPPRESSED_SENTINEL" Bundle.listD A s' s'.heap := by rw [hhp]; exact vx_Zq.moved hW0.alike (hN.kept hS.2.1)
  have h : ∀ w ∈ Bundle.ownAtoms own ic cls names, w.before args s' = true := vx_own hat' (vx_isRefq hU'.1) (vx_isRefq hN'.1) hU'.2.word hN'.2.word
  have hown' : s'.vm.findClass own = some m.cls := by rw [hvm]; exact hown
  have hins : (Cond.instantiable cls 6).before args s' = true := h _ (by simp [Bundle.ownAtoms])
  obtain ⟨vm₁, cX, kX, hfX, hkX, -, -, X₁, st1⟩ := Y.newCold hexec (own := own) (C := cls) (index := ik) (n := 6) hown' hk' hins hini'
    (g := F0 m pc ls rest) rfl (by rw [hb]; exact d0) (Nat.le_refl _) (Nat.le_refl _)
  generalize hT1 : (T.setVm vm₁).pushCell { cls := cX, slots := kX.instanceTypes.map defaultValue, vm := .none } = T1 at X₁ st1
  have hcat : (Value.ref T.heap.size).category = 1 := rfl
  have hcellA : T1.heap[T.heap.size]? = some (freshCell cX kX) := by rw [← hT1]; exact State.heap_pushCell_size _ _
  have d3' : decode c.code (pc + 3) = .ok (.dup, 1) := by rw [hb]; exact d3
  have d4' : decode c.code (pc + 4) = .ok (.ldc is, 2) := by rw [hb]; exact d4
  have hstr' : vk_R own is text sa s' := vk_R.warm hW0 hstr
  obtain ⟨U, hsteps, hrun, hend, hW, hsame, ce, hce, hO⟩ := X₁.ctorThrowS hexec htr (own := own) (cls := cls) (names := names) (ic := ic) hown' hcls hnames h (fun x hx => nomatch hx) hfX hkX hcellA (by rw [hhp, hT]; exact Nat.le_refl _) (msg := .ref sa) rfl
    (g := { method := m, pc := pc + 6, locals := ls, stack := .ref sa :: .ref T.heap.size :: .ref T.heap.size :: rest, locked := none }) rfl hsize rfl rfl (rest := rest) rfl
    (by rw [hb]; exact d6) (by rw [hb]; exact d9) hout hRframes (by simp only [List.map_cons, List.sum_cons, hcat]; omega) hlocks
  obtain ⟨f1, f2⟩ := vx_frame hsame
  rw [hhp] at f1 f2
  have hWs : s.WarmedH U.vm := State.WarmedH.trans hW0 hW
  have hcl : s.vm.findClass cls = some ce.cls := by
    have h9 := hO.cls
    rw [hvm] at h9
    exact h9
  have hall : s.sameButNew ({ U with vm := s.vm } : State) locs mc ms := by
    subst hA
    obtain ⟨e1, e2⟩ := hsame
    rw [State.setFrames_setFrames] at e1
    have h2 : (T.setVm s.vm).sameButNew ({ U with vm := s.vm } : State) [] (0 + 1) (0 + 6) := ⟨e1, e2⟩
    have h3 := X.same.trans h2
    rw [List.append_nil] at h3
    exact h3.mono hc hs
  refine ⟨U, ?_, .threw T.heap.size, hrun, hend, Or.inr ⟨T.heap.size, rfl, cls, ce, locs, hx U hWs.alike f1 (fun q hq => f2 q hq (fun z hz => nomatch hz)), hce, hO.vm, hcl, hWs, hall, hf⟩⟩
  refine st1 _ ?_
  show Steps p.tables e below (T1.setTop { method := m, pc := pc + 3, locals := ls, stack := .ref T.heap.size :: rest, locked := none }) _
  jvm_step X₁.here [X₁.here.top, hexec, d3', Value.category]
  exact X₁.ldcString hexec (own := own) (text := text) (index := is) (a := sa) hown' hstr'.1 hstr'.2
    (g := { method := m, pc := pc + 4, locals := ls, stack := .ref T.heap.size :: .ref T.heap.size :: rest, locked := none }) rfl d4' _ hsteps
/-- 'throw new E("text")', the text by a wide index -/
theorem vx_throwSW {cc : ByteArray} {pc : Nat} (hexec : p.tables.exec = Jvm.exec) (hb : c.code = cc) (hl : l.stackTraces = false) {own cls text : String} {names : List String} {ik is ic mc ms sa : Nat} {A : Nat → Prop}
    (hown : s.vm.findClass own = some m.cls) (hcls : Bundle.fit cls = true) (hnames : ∀ n ∈ names, Bundle.fit n = true)
    (hk : (Cond.classLink own ik cls).before args s = true) (hini : (Cond.initialized cls).before args s = true) (hstr : vk_R own is text sa s) (hat : ∀ w ∈ vx_atS own ic cls names, w.before args s = true)
    (hgood : ∀ w ∈ Cond.classLink own ik cls :: Cond.initialized cls :: vx_atS own ic cls names, vx_ot w = true)
    (hU : vx_Zq Bundle.tN "UNASSIGNED_STACK" Bundle.steD A s s.heap) (hN : vx_Zq Bundle.tN "SUPPRESSED_SENTINEL" Bundle.listD A s s.heap) (hS : va_S A s.heap H locs) (hsize : ls.size = c.maxLocals)
    (d0 : decode cc pc = .ok (.new ik, 3)) (d3 : decode cc (pc + 3) = .ok (.dup, 1)) (d4 : decode cc (pc + 4) = .ok (.ldc_w is, 3)) (d7 : decode cc (pc + 7) = .ok (.invokespecial ic, 3)) (d10 : decode cc (pc + 10) = .ok (.athrow, 1))
    (hout : ∀ x ∈ c.exceptionTable.toList, covers x (pc + 10) = false)
    (hRframes : names.length + 3 < R.frames) (hRlocals : (rest.map fun v => v.category).sum + (13 * (names.length + 1) + 43) ≤ R.locals) (hRcells : cells + 1 ≤ R.cells) (hRslots : slots + 6 ≤ R.slots) (hlocks : meth.locks = false)
    (hx : ∀ t : State, s.vm.Alike t.vm → H.size ≤ t.heap.size → (∀ q : Nat, q < H.size → t.heap[q]? = H[q]?) → XC cls s t)
    (hf : ∀ z ∈ locs, free z.base) (hc : cells + 1 ≤ mc) (hs : slots + 6 ≤ ms) :
    W p l e R s m args below meth c H locs cells slots (vx_MQ below Qc XC args s mc ms free) (F0 m pc ls rest) := by
  intro T hT X
  have htr : e.platform.stackTraces = false := (show e.platform.stackTraces = l.stackTraces by rw [X.admits.platform]).trans hl
  have Y := vx_rebase X (R' := { frames := R.frames, locals := R.locals, cells := 1, slots := 6 }) (Nat.le_refl _) (Nat.le_refl _) hRcells hRslots
  obtain ⟨s', hA⟩ : ∃ z, z = (T.setVm s.vm).setFrames (.invoking m args :: below) := ⟨_, rfl⟩
  rw [← hA] at Y
  have hvm : s'.vm = s.vm := by rw [hA]; rfl
  have hhp : s'.heap = H := by rw [hA]; exact hT
  have hW0 : s.WarmedH s'.vm := by rw [hvm]; exact State.WarmedH.refl s
  have hat' : ∀ w ∈ vx_atS own ic cls names, w.before args s' = true := fun w hw => vx_ot_at hW0 hvm.symm (hgood w (List.mem_cons_of_mem _ (List.mem_cons_of_mem _ hw))) (hat w hw)
  have hk' : (Cond.classLink own ik cls).before args s' = true := vx_ot_at hW0 hvm.symm (hgood _ List.mem_cons_self) hk
  have hini' : (Cond.initialized cls).before args s' = true := vx_ot_at hW0 hvm.symm (hgood _ (List.mem_cons_of_mem _ List.mem_cons_self)) hini
  have hU' : vx_Zq Bundle.tN "UNASSIGNED_STACK" Bundle.steD A s' s'.heap := by rw [hhp]; exact vx_Zq.moved hW0.alike (hU.kept hS.2.1)
  have hN' : vx_Zq Bundle.tN "SUPPRESSED_SENTINEL" Bundle.listD A s' s'.heap := by rw [hhp]; exact vx_Zq.moved hW0.alike (hN.kept hS.2.1)
  have h : ∀ w ∈ Bundle.ownAtoms own ic cls names, w.before args s' = true := vx_own hat' (vx_isRefq hU'.1) (vx_isRefq hN'.1) hU'.2.word hN'.2.word
  have hown' : s'.vm.findClass own = some m.cls := by rw [hvm]; exact hown
  have hins : (Cond.instantiable cls 6).before args s' = true := h _ (by simp [Bundle.ownAtoms])
  obtain ⟨vm₁, cX, kX, hfX, hkX, -, -, X₁, st1⟩ := Y.newCold hexec (own := own) (C := cls) (index := ik) (n := 6) hown' hk' hins hini'
    (g := F0 m pc ls rest) rfl (by rw [hb]; exact d0) (Nat.le_refl _) (Nat.le_refl _)
  generalize hT1 : (T.setVm vm₁).pushCell { cls := cX, slots := kX.instanceTypes.map defaultValue, vm := .none } = T1 at X₁ st1
  have hcat : (Value.ref T.heap.size).category = 1 := rfl
  have hcellA : T1.heap[T.heap.size]? = some (freshCell cX kX) := by rw [← hT1]; exact State.heap_pushCell_size _ _
  have d3' : decode c.code (pc + 3) = .ok (.dup, 1) := by rw [hb]; exact d3
  have d4' : decode c.code (pc + 4) = .ok (.ldc_w is, 3) := by rw [hb]; exact d4
  have hstr' : vk_R own is text sa s' := vk_R.warm hW0 hstr
  obtain ⟨U, hsteps, hrun, hend, hW, hsame, ce, hce, hO⟩ := X₁.ctorThrowS hexec htr (own := own) (cls := cls) (names := names) (ic := ic) hown' hcls hnames h (fun x hx => nomatch hx) hfX hkX hcellA (by rw [hhp, hT]; exact Nat.le_refl _) (msg := .ref sa) rfl
    (g := { method := m, pc := pc + 7, locals := ls, stack := .ref sa :: .ref T.heap.size :: .ref T.heap.size :: rest, locked := none }) rfl hsize rfl rfl (rest := rest) rfl
    (by rw [hb]; exact d7) (by rw [hb]; exact d10) hout hRframes (by simp only [List.map_cons, List.sum_cons, hcat]; omega) hlocks
  obtain ⟨f1, f2⟩ := vx_frame hsame
  rw [hhp] at f1 f2
  have hWs : s.WarmedH U.vm := State.WarmedH.trans hW0 hW
  have hcl : s.vm.findClass cls = some ce.cls := by
    have h9 := hO.cls
    rw [hvm] at h9
    exact h9
  have hall : s.sameButNew ({ U with vm := s.vm } : State) locs mc ms := by
    subst hA
    obtain ⟨e1, e2⟩ := hsame
    rw [State.setFrames_setFrames] at e1
    have h2 : (T.setVm s.vm).sameButNew ({ U with vm := s.vm } : State) [] (0 + 1) (0 + 6) := ⟨e1, e2⟩
    have h3 := X.same.trans h2
    rw [List.append_nil] at h3
    exact h3.mono hc hs
  refine ⟨U, ?_, .threw T.heap.size, hrun, hend, Or.inr ⟨T.heap.size, rfl, cls, ce, locs, hx U hWs.alike f1 (fun q hq => f2 q hq (fun z hz => nomatch hz)), hce, hO.vm, hcl, hWs, hall, hf⟩⟩
  refine st1 _ ?_
  show Steps p.tables e below (T1.setTop { method := m, pc := pc + 3, locals := ls, stack := .ref T.heap.size :: rest, locked := none }) _
  jvm_step X₁.here [X₁.here.top, hexec, d3', Value.category]
  exact X₁.ldcStringW hexec (own := own) (text := text) (index := is) (a := sa) hown' hstr'.1 hstr'.2
    (g := { method := m, pc := pc + 4, locals := ls, stack := .ref T.heap.size :: .ref T.heap.size :: rest, locked := none }) rfl d4' _ hsteps
end Ends
section Bodies
variable {l : Launch}
theorem vx_ofW {y : MethodName} {ws ws' : List Cond} {rm : Room} {Pc : Array Value → State → Prop} {Qc : Array Value → State → Outcome → State → Prop} {XC : String → State → State → Prop} {mc ms : Nat} {free : Addr → Prop} {cc : ByteArray} {maxL : Nat} {ret : Option FieldType}
    (hy : plainName y.cls = true) (hw : ws = Cond.code y cc maxL ret :: ws')
    (body : ∀ p e s m args below meth c s₁, BodyLoose p l y (headSpec ws rm) cc maxL ret e s m args below meth c s₁ → c.maxLocals = maxL → (∀ x ∈ c.exceptionTable.toList, False) → Pc args s →
      W p l e (headSpec ws rm).room s m args below meth c s.heap [] 0 0 (vx_MQ below Qc XC args s mc ms free) (entryFrame m args maxL)) : vx_Met l y ws rm Pc Qc XC mc ms free := by
  refine MetFree.of_bodyS (code := cc) (maxLocals := maxL) (ret := ret) hy ?_ ?_
  · intro args s m h hn
    obtain ⟨meth, c, h1, h2, h3, h4, h5, h6, -, -⟩ := Cond.code_spec hn (atoms_spec (ws := ws) h _ (by rw [hw]; exact List.mem_cons_self))
    exact ⟨meth, c, h1, h2, h3, h4, h5, h6⟩
  · intro p e s m args below meth c s₁ B hml hP _
    have hh0 : s₁.heap = s.heap := by rw [B.state]; rfl
    have ht : ∀ x ∈ c.exceptionTable.toList, False := by
      obtain ⟨meth9, c9, h1, h2, -, -, -, -, h7, -⟩ := Cond.code_spec B.named (atoms_spec (ws := ws) B.pre _ (by rw [hw]; exact List.mem_cons_self))
      cases Option.some.inj (h1.symm.trans B.method)
      cases Option.some.inj (h2.symm.trans (Stand.of_body B).code)
      intro x hx
      rw [Array.isEmpty_iff.mp h7] at hx
      cases hx
    obtain ⟨t, a1, o, b1, b2, b3⟩ := body p e s m args below meth c s₁ B hml ht hP s₁ hh0 (Stand.of_body B)
    exact ⟨t, o, a1, b1, b2, b3⟩
/-- the table of a body with handlers -/
theorem vx_table {p : Program} {x y : MethodName} {S : Spec} {cc bytes : ByteArray} {maxL maxL' : Nat} {ret ret' : Option FieldType} {e : Env} {s s₁ : State} {m : MethodId} {args : Array Value} {below : List Frame} {meth : Method} {c : Code} {hh : List (Nat × Nat × Nat × Nat)}
    (B : BodyLoose p l y S cc maxL ret e s m args below meth c s₁) (h : (Cond.codeWith y bytes maxL' ret' hh).before args s = true) : c.exceptionTable.toList = tableOf hh := by
  obtain ⟨m9, meth9, c9, hn9, h1, h2, -, -, h6, -⟩ := Cond.codeWith_spec h
  cases Option.some.inj (hn9.symm.trans B.named)
  cases Option.some.inj (h1.symm.trans B.method)
  cases Option.some.inj (h2.symm.trans (Stand.of_body B).code)
  rw [← h6, table_eq]
end Bodies
end VXA
/-! ===== END ===== -/
/-! ===== BEGIN a static call of a method with an exception table ===== -/
section VXS
variable {p : Program} {l : Launch} {e : Env} {R : Room} {s : State} {m : MethodId} {args : Array Value} {below : List Frame} {meth : Method} {c : Code} {T : State} {H : Heap} {locs : List Loc} {cells slots : Nat}
abbrev vx_CSW (R : Room) (s : State) (args : Array Value) (own : String) (index : Nat) (y : MethodName) (bytes : ByteArray) (maxL : Nat) (ret : Option FieldType) (hh : List (Nat × Nat × Nat × Nat)) (ws : List Cond) (rm : Room) (mc ms n : Nat) : Prop :=
  (rm.cells = mc ∧ rm.slots = ms ∧ rm.frames + 1 ≤ R.frames ∧ 8 + (maxL + 11) + rm.locals ≤ R.locals ∧ (∀ w ∈ ws, ∀ (a' : Array Value) (U : State), s.WarmedH U.vm → w.before a' U = true) ∧ Cond.codeWith y bytes maxL ret hh ∈ ws) ∧
  (Cond.codeWith y bytes maxL ret hh).before args s = true ∧ (Cond.initialized y.cls).before args s = true ∧ (y.cls ≠ "java/lang/invoke/MethodHandle" ∧ y.cls ≠ "java/lang/invoke/VarHandle") ∧
  (∀ sig, parseMethodDescriptor y.desc = some sig → n = sig.parameters.length) ∧ (Cond.methodLink own index y).before args s = true ∧ (Cond.static y).before args s = true
theorem vx_cwSW {own : String} {index maxL mc ms : Nat} {y : MethodName} {bytes : ByteArray} {ret : Option FieldType} {hh : List (Nat × Nat × Nat × Nat)} {Ts ws ws' : List Cond} {rm : Room} (n : Nat) (ht : ∀ w ∈ Ts, w.before args s = true) (hT : GoodIn Ts (va_wsS own index y ws)) (hw : ws = Cond.codeWith y bytes maxL ret hh :: ws') (hrc : rm.cells = mc) (hrs : rm.slots = ms)
    (hd : y.cls ≠ "java/lang/invoke/MethodHandle" ∧ y.cls ≠ "java/lang/invoke/VarHandle" ∧ (parseMethodDescriptor y.desc).map (fun d => d.parameters.length) = some n) (hR : rm.frames + 1 ≤ R.frames ∧ 8 + (maxL + 11) + rm.locals ≤ R.locals) :
    vx_CSW R s args own index y bytes maxL ret hh ws rm mc ms n := by
  have ok : ∀ w ∈ va_wsS own index y ws, w.before args s = true := fun w h => ht w (hT w h).1
  have hG : GoodIn Ts ws := fun w h => hT w (by unfold va_wsS; exact List.mem_append_right _ h)
  have hc : Cond.codeWith y bytes maxL ret hh ∈ ws := by rw [hw]; exact List.mem_cons_self
  refine ⟨⟨hrc, hrs, hR.1, hR.2, pay_in ht hG, hc⟩, ht _ (hG _ hc).1, ok _ (by simp [va_wsS]), ⟨hd.1, hd.2.1⟩, fun sig h => ?_, ok _ (by simp [va_wsS]), ok _ (by simp [va_wsS])⟩
  have h2 := hd.2.2
  rw [h] at h2
  exact (Option.some.inj h2).symm
theorem vx_callSW (X : Stand p l e R s m args below meth c T locs cells slots) (hexec : p.tables.exec = Jvm.exec) {own : String} {index : Nat} {y : MethodName} {bytes : ByteArray} {maxL : Nat} {ret : Option FieldType} {hh : List (Nat × Nat × Nat × Nat)}
    (hown : s.vm.findClass own = some m.cls) (hlink : (Cond.methodLink own index y).before args s = true) (hstat : (Cond.static y).before args s = true) (hinit : (Cond.initialized y.cls).before args s = true)
    (hcode : (Cond.codeWith y bytes maxL ret hh).before args s = true) (hy : y.cls ≠ "java/lang/invoke/MethodHandle" ∧ y.cls ≠ "java/lang/invoke/VarHandle")
    {W9 : Nat} {Pre : Pt → Array Value → Prop} {Post : Pt → Array Value → Option Value → Pt → Prop} (hK : Back l R p e below s args y 3 W9 Pre Post)
    {g : JFrame} (hg : g.method = m) (hsize : g.locals.size = c.maxLocals) {argsL rest : List Value} (hlen : ∀ sig, parseMethodDescriptor y.desc = some sig → argsL.length = sig.parameters.length)
    (hstack : g.stack = argsL.reverse ++ rest) (hW : 2 * g.monitorRoom + (rest.map fun v => v.category).sum ≤ W9) (hdg : decode c.code g.pc = .ok (.invokestatic index, 3))
    (hpre : ∀ vm₁, s.WarmedH vm₁ → Pre ⟨T.setVm vm₁, locs, cells, slots⟩ argsL.toArray) :
    ∃ (v : Option Value) (vm₁ : Vm) (B : Pt), s.WarmedH vm₁ ∧ Stand p l e R s m args below meth c B.U B.locs B.cells B.slots ∧ Post ⟨T.setVm vm₁, locs, cells, slots⟩ argsL.toArray v B ∧
      ∀ target, Steps p.tables e below (B.U.setTop { g with pc := g.pc + 3, stack := v.toList ++ rest }) target → Steps p.tables e below (T.setTop g) target := by
  obtain ⟨mk, methM, cM, hnamed, hmethM, -, -, -, -, -, -, hsigM⟩ := Cond.codeWith_spec hcode
  have hstatic : methM.isStatic = true := Cond.static_spec hnamed hmethM hstat
  obtain ⟨kP, hkP, -⟩ := className_of_methodNamed hnamed
  have hinitP : kP.init = .initialized := Cond.initialized_spec (findClass_of_methodNamed hnamed) hkP hinit
  obtain ⟨vm₁, X₁, hstep₁⟩ := X.invokestatic hexec hown hlink hnamed hmethM hstatic hkP hinitP hy (g := g) hg (argsL := argsL) (rest := rest) (hlen _ hsigM) hstack hdg
  obtain ⟨v, B, X', hpost, hsteps⟩ := hK m meth c ⟨T.setVm vm₁, locs, cells, slots⟩ { g with stack := rest } (.invokestatic index) mk argsL.toArray X₁ hg hsize hdg hW (X₁.named hnamed) (hpre vm₁ X₁.warmed)
  exact ⟨v, vm₁, B, X₁.warmed, X', hpost, fun target h => hstep₁ _ fun acts => by rw [doInvoke_state]; exact hsteps.trans h⟩
theorem vx_runSW {y : MethodName} {bytes cc : ByteArray} {maxL nL mc ms n index : Nat} {ret : Option FieldType} {hh : List (Nat × Nat × Nat × Nat)} {ws : List Cond} {rm : Room} {Pc : Array Value → State → Prop} {Qc : Array Value → State → Outcome → State → Prop} {free : Addr → Prop} {Ts : List Cond} {own : String} {As rest : List Value} {g : JFrame}
    (S : CallFix p m c cc nL s args Ts own) (hM : Met l y ws rm Pc Qc mc ms free) (cw : vx_CSW R s args own index y bytes maxL ret hh ws rm mc ms n) (hp : PreS s H Pc As)
    (hg : g.method = m) (hn : As.length = n) (hsize : g.locals.size = nL) (hstack : g.stack = As.reverse ++ rest) (hW : 2 * g.monitorRoom + (rest.map fun v => v.category).sum ≤ 8) (hdg : decode cc g.pc = .ok (.invokestatic index, 3)) (hf : cells + mc ≤ R.cells ∧ slots + ms ≤ R.slots) :
    va_Run p l e R s m args below meth c H locs cells slots mc ms g rest (Qc As.toArray) (free) := by
  obtain ⟨⟨hrc, hrs, hfr, hlo, hws, hcw⟩, hcode, hini, hy, hlen, hl, hstt⟩ := cw
  have hK : Back l R p e below s args y 3 8 (PreOf R mc ms Pc) (PostOf Qc mc ms free) := va_backW (hh := hh) (bytes := bytes) (maxL := maxL) (ret := ret) hM hp.1 hrc hrs hfr hlo hws hcw (fun a' U hW => word_at hW (Or.inl (by first | rfl | simp [Cond.onTables, Cond.keeps, Cond.steady])) hini)
  obtain ⟨hx, hb, hml, ho, -⟩ := S
  intro T hT X
  obtain ⟨v, vm₁, ⟨U', l2, c2, s2⟩, hW₁, X', ⟨g', mk, t, L, e1, e2, hq, h1, hL, h2, h3⟩, st⟩ := vx_callSW X hx (hh := hh) (bytes := bytes) (maxL := maxL) (ret := ret) ho hl hstt hini hcode hy hK hg (hsize.trans hml.symm) (argsL := As) (rest := rest) (fun sig h => hn.trans (hlen sig h)) hstack hW (by rw [hb]; exact hdg)
    (fun vm₁ hW₁ => ⟨hf.1, hf.2, hp.2 (T.setVm vm₁) hT hW₁⟩)
  dsimp only [Pt.U, Pt.locs, Pt.cells, Pt.slots] at X' e1 e2 h1 h2 h3 st
  subst h1; subst h2; subst h3
  exact ⟨v, (T.setVm vm₁).calling g' mk As.toArray, t, U', L, hT, X', hL, e1, e2, hq, st⟩
/-- a thing of a world lies in the heap -/
theorem vx_lt {D : va_G} {cl : List vw_C} {ws : va_W} {H1 : Heap} (h : va_P D cl ws H1) {k : Nat} {q : Nat × va_E} (hk : ws[k]? = some q) : q.1 < H1.size := (h k q hk).lt
end VXS
/-! ===== END ===== -/
/-! ===== BEGIN methods with a table of their own: called by a name, returning or throwing ===== -/
section VXH
/-! vx_backW, vx_callVX, vx_callSX, vx_callVW, vx_runVW, vx_runVX, vx_runSX, vx_ofWH follow the same proofs as their sisters above (Free/Laws.lean, Shelf42/LK1.lean); vx_outP calls Shelf42/NT130.lean (outThrough). -/
section
variable {l : Launch} {R : Room} {p : Program} {e : Env} {below : List Frame} {s : State} {sargs : Array Value} {y : MethodName} {len W9 : Nat}
theorem vx_backW {ws : List Cond} {rm : Room} {Pc : Array Value → State → Prop} {Qc : Array Value → State → Outcome → State → Prop} {XC : String → State → State → Prop} {mc ms : Nat} {free : Addr → Prop} {bytes : ByteArray} {maxL : Nat} {ret : Option FieldType} {hh : List (Nat × Nat × Nat × Nat)}
    (hM : vx_Met l y ws rm Pc Qc XC mc ms free) (hblind : FrameBlind Pc) (hrc : rm.cells = mc) (hrs : rm.slots = ms)
    (hframes : rm.frames + 1 ≤ R.frames) (hlocals : W9 + (maxL + 11) + rm.locals ≤ R.locals)
    (hws : ∀ w ∈ ws, ∀ a' U, s.WarmedH U.vm → w.before a' U = true) (hcode : Cond.codeWith y bytes maxL ret hh ∈ ws) (hinit : ∀ a' U, s.WarmedH U.vm → (Cond.initialized y.cls).before a' U = true) :
    vx_Back l R p e below s sargs y len W9 (PreOf R mc ms Pc) (PostOf Qc mc ms free) (vx_Post XC mc ms free) := by
  intro m meth c A g ig mk a X hg hsize hdg hW hn hp
  have h1 : (headSpec ws rm).pre.before a A.U = true := atoms_intro fun w hw => hws w hw _ _ X.warmed
  have h2 : (Cond.codeWith y bytes maxL ret hh).before a A.U = true := hws _ hcode _ _ X.warmed
  have h3 : (Cond.initialized y.cls).before a A.U = true := hinit _ _ X.warmed
  have h4 : A.cells + (headSpec ws rm).room.cells ≤ R.cells := by rw [show (headSpec ws rm).room.cells = mc from hrc]; exact hp.1
  have h5 : A.slots + (headSpec ws rm).room.slots ≤ R.slots := by rw [show (headSpec ws rm).room.slots = ms from hrs]; exact hp.2.1
  have hPc : Pc a (A.U.calling g mk a) := hblind _ _ _ _ hp.2.2
  obtain ⟨U, Ls, c0, s0⟩ := A
  dsimp only [Pt.U, Pt.locs, Pt.cells, Pt.slots] at h1 h2 h3 h4 h5 X hn hPc ⊢
  obtain ⟨m9, methY, cY, hn9, hmY, hcY, -, hlY, -⟩ := Cond.codeWith_spec h2
  cases Option.some.inj (hn9.symm.trans hn)
  obtain ⟨kY, hkY, -⟩ := className_of_methodNamed hn
  have hinitY : kY.init = .initialized := Cond.initialized_spec (findClass_of_methodNamed hn) hkY h3
  have h : At U g.method c below := by rw [hg]; exact X.here
  have hlocals9 : W9 + (maxL + 11) + (headSpec ws rm).room.locals ≤ R.locals := hlocals
  have happ : (headSpec ws rm).appliesLoose y e.platform (U.calling g mk a) = true :=
    Spec.appliesLoose_calling (g := g) h hdg hn hkY hinitY
      (X.room_calling (g := g) (R' := (headSpec ws rm).room) hsize hmY hcY hframes (by rw [hlY]; omega) h4 h5) h1
  obtain ⟨mid, hmid⟩ := h.above
  have hfr : (U.setTop g).frames = (.java g :: mid) ++ below := by rw [State.frames_setTop' g h.top, hmid]; rfl
  obtain ⟨o, s₂, hsteps, -, hend, hq⟩ := Steps.callFree hM p X.admits X.cas X.clock (acts := []) hfr happ hPc trivial
  have hq' : vx_Q Qc XC mc ms free a (U.calling g mk a) o s₂ := hq
  rw [State.frames_setTop' g h.top] at hend
  obtain ⟨g₀, hg0⟩ := Option.isSome_iff_exists.mp h.top
  obtain ⟨r, hr⟩ := State.topJava?_eq_some.mp hg0
  have hr' : (({ U with heap := s₂.heap, slotsUsed := s₂.slotsUsed } : State).setVm s₂.vm).frames = .java g₀ :: r := hr
  rcases hq' with ⟨hqc, L, hfe, hL⟩ | ⟨q, rfl, E, ce, L, hx, hce, hcv, hcl, hW₂, hsm, hL⟩
  · obtain ⟨⟨v, rfl⟩, hW₂, e2, q2, q3, q4, q5, q6⟩ := id hfe
    have e3 : s₂ = ({ (U.calling g mk a).setFrames s₂.frames with heap := s₂.heap, slotsUsed := s₂.slotsUsed } : State).setVm s₂.vm := by
      have : s₂ = ({ s₂ with vm := (U.calling g mk a).vm } : State).setVm s₂.vm := rfl
      rw [e2] at this
      exact this
    obtain ⟨c₂, i₂, len₂, hc₂, hd₂, hf₂⟩ := hend
    have hW' : U.WarmedH s₂.vm := hW₂
    have hcc : c₂ = c := by
      have h1 : s₂.code? g.method = U.code? g.method := by
        rw [State.code?_eq, State.code?_eq, hW'.alike.method?]
      exact Option.some.inj (hc₂.symm.trans (h1.trans h.code))
    subst hcc
    have hlen : len₂ = len := by rw [hdg] at hd₂; cases hd₂; rfl
    subst hlen
    have hs₂ : s₂ = (({ U with heap := s₂.heap, slotsUsed := s₂.slotsUsed } : State).setVm s₂.vm).setTop { g with pc := g.pc + len₂, stack := v.toList ++ g.stack } := by
      refine e3.trans ?_
      rw [hf₂, State.calling_eq h.top, State.setFrames_setFrames, State.setTop_of_frames _ hr', hr]
      rfl
    have hsame : U.sameButNew ({ U with heap := s₂.heap, slotsUsed := s₂.slotsUsed } : State) L mc ms := by
      refine ⟨?_, q2, q3, q4, q5, q6⟩
      obtain ⟨t, ht, -⟩ := State.frames_cons hr
      show ({ U with heap := s₂.heap, slotsUsed := s₂.slotsUsed } : State) = { U.setFrames U.frames with heap := s₂.heap, slotsUsed := s₂.slotsUsed }
      rw [State.setFrames_self ht]
    subst hg
    refine Or.inl ⟨v, ⟨(({ U with heap := s₂.heap, slotsUsed := s₂.slotsUsed } : State).setVm s₂.vm), Ls ++ L, c0 + mc, s0 + ms⟩,
      ⟨X.admits, X.cas, X.clock, X.frames, X.room, X.hears, X.method, X.code, (X.here.setHeapUsed s₂.heap s₂.slotsUsed).setVm hW'.alike, X.tail, State.WarmedH.trans X.warmed hW', X.limits, X.bytes, X.same.trans (hsame.setVm s.vm)⟩,
      ⟨g, mk, s₂, L, rfl, rfl, hqc, rfl, hL, rfl, rfl⟩, ?_⟩
    show Steps p.tables e below _ ((({ U with heap := s₂.heap, slotsUsed := s₂.slotsUsed } : State).setVm s₂.vm).setTop { g with pc := g.pc + len₂, stack := v.toList ++ g.stack })
    rw [← hs₂]
    exact hsteps
  · obtain ⟨e2, q2, q3, q4, q5, q6⟩ := id hsm
    have e3 : s₂ = ({ (U.calling g mk a).setFrames s₂.frames with heap := s₂.heap, slotsUsed := s₂.slotsUsed } : State).setVm s₂.vm := by
      have : s₂ = ({ s₂ with vm := (U.calling g mk a).vm } : State).setVm s₂.vm := rfl
      rw [e2] at this
      exact this
    have hf₂ : s₂.frames = .throwing q :: .java g :: U.frames.tail := hend
    have hW' : U.WarmedH s₂.vm := hW₂
    have hs₂ : s₂ = ((({ U with heap := s₂.heap, slotsUsed := s₂.slotsUsed } : State).setVm s₂.vm).setTop g).pushFrame (.throwing q) := by
      refine e3.trans ?_
      rw [hf₂, State.calling_eq h.top, State.setFrames_setFrames, State.pushFrame, State.frames_setTop _ hr', State.setTop_of_frames _ hr', State.setFrames_setFrames, hr]
      rfl
    have hsame : U.sameButNew ({ U with heap := s₂.heap, slotsUsed := s₂.slotsUsed } : State) L mc ms := by
      refine ⟨?_, q2, q3, q4, q5, q6⟩
      obtain ⟨t, ht, -⟩ := State.frames_cons hr
      show ({ U with heap := s₂.heap, slotsUsed := s₂.slotsUsed } : State) = { U.setFrames U.frames with heap := s₂.heap, slotsUsed := s₂.slotsUsed }
      rw [State.setFrames_self ht]
    subst hg
    refine Or.inr ⟨q, ⟨(({ U with heap := s₂.heap, slotsUsed := s₂.slotsUsed } : State).setVm s₂.vm), Ls ++ L, c0 + mc, s0 + ms⟩,
      ⟨X.admits, X.cas, X.clock, X.frames, X.room, X.hears, X.method, X.code, (X.here.setHeapUsed s₂.heap s₂.slotsUsed).setVm hW'.alike, X.tail, State.WarmedH.trans X.warmed hW', X.limits, X.bytes, X.same.trans (hsame.setVm s.vm)⟩,
      ⟨g, mk, s₂, L, E, ce, rfl, rfl, hx, hce, hcv, hcl, rfl, hL, rfl, rfl⟩, ?_⟩
    show Steps p.tables e below _ (((({ U with heap := s₂.heap, slotsUsed := s₂.slotsUsed } : State).setVm s₂.vm).setTop g).pushFrame (.throwing q))
    rw [← hs₂]
    exact hsteps
end
variable {p : Program} {l : Launch} {e : Env} {R : Room} {s : State} {m : MethodId} {args : Array Value} {below : List Frame} {meth : Method} {c : Code} {T : State} {H : Heap} {locs : List Loc} {cells slots : Nat}
theorem vx_callVX (X : Stand p l e R s m args below meth c T locs cells slots) (hexec : p.tables.exec = Jvm.exec) {own C : String} {index : Nat} {y : MethodName} {bytes : ByteArray} {maxL : Nat} {ret : Option FieldType} {hh : List (Nat × Nat × Nat × Nat)}
    (hown : s.vm.findClass own = some m.cls) (hlink : (Cond.methodLink own index y).before args s = true) (hinst : (Cond.instanceMethod y).before args s = true) (hsel : (Cond.selects C y y).before args s = true)
    (hcode : (Cond.codeWith y bytes maxL ret hh).before args s = true) (hy : y.cls ≠ "java/lang/invoke/MethodHandle" ∧ y.cls ≠ "java/lang/invoke/VarHandle")
    {W9 : Nat} {Pre : Pt → Array Value → Prop} {Post : Pt → Array Value → Option Value → Pt → Prop} {PostX : Pt → Array Value → Addr → Pt → Prop} (hK : vx_Back l R p e below s args y 3 W9 Pre Post PostX)
    {b : Addr} {cellB : Cell} (hcell : T.heap[b]? = some cellB) (hobj : cellB.vm.isStatics = false) (hcls : s.vm.findClass C = some cellB.cls)
    {g : JFrame} (hg : g.method = m) (hsize : g.locals.size = c.maxLocals) {argsL rest : List Value} (hlen : ∀ sig, parseMethodDescriptor y.desc = some sig → argsL.length = sig.parameters.length)
    (hstack : g.stack = argsL.reverse ++ .ref b :: rest) (hW : 2 * g.monitorRoom + (rest.map fun v => v.category).sum ≤ W9) (hdg : decode c.code g.pc = .ok (.invokevirtual index, 3))
    (hpre : ∀ vm₁, s.WarmedH vm₁ → Pre ⟨T.setVm vm₁, locs, cells, slots⟩ (Value.ref b :: argsL).toArray) :
    (∃ (v : Option Value) (vm₁ : Vm) (B : Pt), s.WarmedH vm₁ ∧ Stand p l e R s m args below meth c B.U B.locs B.cells B.slots ∧ Post ⟨T.setVm vm₁, locs, cells, slots⟩ (Value.ref b :: argsL).toArray v B ∧
      ∀ target, Steps p.tables e below (B.U.setTop { g with pc := g.pc + 3, stack := v.toList ++ rest }) target → Steps p.tables e below (T.setTop g) target) ∨
    (∃ (q : Addr) (vm₁ : Vm) (B : Pt), s.WarmedH vm₁ ∧ Stand p l e R s m args below meth c B.U B.locs B.cells B.slots ∧ PostX ⟨T.setVm vm₁, locs, cells, slots⟩ (Value.ref b :: argsL).toArray q B ∧
      Steps p.tables e below (T.setTop g) ((B.U.setTop { g with stack := rest }).pushFrame (.throwing q))) := by
  obtain ⟨mk, methM, hnamed, hmethM, hstM, habM⟩ := Cond.instanceMethod_spec hinst
  obtain ⟨m8, methM', cM, hn8, hmethM', -, -, -, -, -, -, hsigM⟩ := Cond.codeWith_spec hcode
  cases Option.some.inj (hn8.symm.trans hnamed)
  cases hmethM.symm.trans hmethM'
  obtain ⟨c2, r2, m2, q1, q2, q3, q4, kP, hkP, hkPi⟩ := Cond.selects_spec hsel
  cases hcls.symm.trans q1
  cases (State.methodFound?_of_named hnamed hy).symm.trans q2
  cases hnamed.symm.trans q3
  have hselP : selectMethod e.platform s.vm cellB.cls mk = .method mk := by rw [Launch.admits_selectMethod X.admits]; exact q4
  obtain ⟨vm₁, X₁, hstep₁⟩ := X.invokevirtual hexec hown hlink hnamed hmethM hstM hkP hkPi hy (a := b) (cell := cellB) hcell
    (fun z h => by rw [h] at hobj; cases hobj) hselP hmethM habM hkP hkPi (g := g) hg (argsL := argsL) (rest := rest) (hlen _ hsigM) hstack hdg
  rcases hK m meth c ⟨T.setVm vm₁, locs, cells, slots⟩ { g with stack := rest } (.invokevirtual index) mk (Value.ref b :: argsL).toArray X₁ hg hsize hdg hW (X₁.named hnamed) (hpre vm₁ X₁.warmed) with ⟨v, B, X', hpost, hsteps⟩ | ⟨q, B, X', hpost, hsteps⟩
  · exact Or.inl ⟨v, vm₁, B, X₁.warmed, X', hpost, fun target h => hstep₁ _ fun acts => by rw [doInvoke_state]; exact hsteps.trans h⟩
  · exact Or.inr ⟨q, vm₁, B, X₁.warmed, X', hpost, hstep₁ _ fun acts => by rw [doInvoke_state]; exact hsteps⟩
theorem vx_callSX (X : Stand p l e R s m args below meth c T locs cells slots) (hexec : p.tables.exec = Jvm.exec) {own : String} {index : Nat} {y : MethodName} {bytes : ByteArray} {maxL : Nat} {ret : Option FieldType} {hh : List (Nat × Nat × Nat × Nat)}
    (hown : s.vm.findClass own = some m.cls) (hlink : (Cond.methodLink own index y).before args s = true) (hstat : (Cond.static y).before args s = true) (hinit : (Cond.initialized y.cls).before args s = true)
    (hcode : (Cond.codeWith y bytes maxL ret hh).before args s = true) (hy : y.cls ≠ "java/lang/invoke/MethodHandle" ∧ y.cls ≠ "java/lang/invoke/VarHandle")
    {W9 : Nat} {Pre : Pt → Array Value → Prop} {Post : Pt → Array Value → Option Value → Pt → Prop} {PostX : Pt → Array Value → Addr → Pt → Prop} (hK : vx_Back l R p e below s args y 3 W9 Pre Post PostX)
    {g : JFrame} (hg : g.method = m) (hsize : g.locals.size = c.maxLocals) {argsL rest : List Value} (hlen : ∀ sig, parseMethodDescriptor y.desc = some sig → argsL.length = sig.parameters.length)
    (hstack : g.stack = argsL.reverse ++ rest) (hW : 2 * g.monitorRoom + (rest.map fun v => v.category).sum ≤ W9) (hdg : decode c.code g.pc = .ok (.invokestatic index, 3))
    (hpre : ∀ vm₁, s.WarmedH vm₁ → Pre ⟨T.setVm vm₁, locs, cells, slots⟩ argsL.toArray) :
    (∃ (v : Option Value) (vm₁ : Vm) (B : Pt), s.WarmedH vm₁ ∧ Stand p l e R s m args below meth c B.U B.locs B.cells B.slots ∧ Post ⟨T.setVm vm₁, locs, cells, slots⟩ argsL.toArray v B ∧
      ∀ target, Steps p.tables e below (B.U.setTop { g with pc := g.pc + 3, stack := v.toList ++ rest }) target → Steps p.tables e below (T.setTop g) target) ∨
    (∃ (q : Addr) (vm₁ : Vm) (B : Pt), s.WarmedH vm₁ ∧ Stand p l e R s m args below meth c B.U B.locs B.cells B.slots ∧ PostX ⟨T.setVm vm₁, locs, cells, slots⟩ argsL.toArray q B ∧
      Steps p.tables e below (T.setTop g) ((B.U.setTop { g with stack := rest }).pushFrame (.throwing q))) := by
  obtain ⟨mk, methM, cM, hnamed, hmethM, -, -, -, -, -, -, hsigM⟩ := Cond.codeWith_spec hcode
  have hstatic : methM.isStatic = true := Cond.static_spec hnamed hmethM hstat
  obtain ⟨kP, hkP, -⟩ := className_of_methodNamed hnamed
  have hinitP : kP.init = .initialized := Cond.initialized_spec (findClass_of_methodNamed hnamed) hkP hinit
  obtain ⟨vm₁, X₁, hstep₁⟩ := X.invokestatic hexec hown hlink hnamed hmethM hstatic hkP hinitP hy (g := g) hg (argsL := argsL) (rest := rest) (hlen _ hsigM) hstack hdg
  rcases hK m meth c ⟨T.setVm vm₁, locs, cells, slots⟩ { g with stack := rest } (.invokestatic index) mk argsL.toArray X₁ hg hsize hdg hW (X₁.named hnamed) (hpre vm₁ X₁.warmed) with ⟨v, B, X', hpost, hsteps⟩ | ⟨q, B, X', hpost, hsteps⟩
  · exact Or.inl ⟨v, vm₁, B, X₁.warmed, X', hpost, fun target h => hstep₁ _ fun acts => by rw [doInvoke_state]; exact hsteps.trans h⟩
  · exact Or.inr ⟨q, vm₁, B, X₁.warmed, X', hpost, hstep₁ _ fun acts => by rw [doInvoke_state]; exact hsteps⟩
theorem vx_callVW (X : Stand p l e R s m args below meth c T locs cells slots) (hexec : p.tables.exec = Jvm.exec) {own C : String} {index : Nat} {y : MethodName} {bytes : ByteArray} {maxL : Nat} {ret : Option FieldType} {hh : List (Nat × Nat × Nat × Nat)}
    (hown : s.vm.findClass own = some m.cls) (hlink : (Cond.methodLink own index y).before args s = true) (hinst : (Cond.instanceMethod y).before args s = true) (hsel : (Cond.selects C y y).before args s = true)
    (hcode : (Cond.codeWith y bytes maxL ret hh).before args s = true) (hy : y.cls ≠ "java/lang/invoke/MethodHandle" ∧ y.cls ≠ "java/lang/invoke/VarHandle")
    {W9 : Nat} {Pre : Pt → Array Value → Prop} {Post : Pt → Array Value → Option Value → Pt → Prop} (hK : Back l R p e below s args y 3 W9 Pre Post)
    {b : Addr} {cellB : Cell} (hcell : T.heap[b]? = some cellB) (hobj : cellB.vm.isStatics = false) (hcls : s.vm.findClass C = some cellB.cls)
    {g : JFrame} (hg : g.method = m) (hsize : g.locals.size = c.maxLocals) {argsL rest : List Value} (hlen : ∀ sig, parseMethodDescriptor y.desc = some sig → argsL.length = sig.parameters.length)
    (hstack : g.stack = argsL.reverse ++ .ref b :: rest) (hW : 2 * g.monitorRoom + (rest.map fun v => v.category).sum ≤ W9) (hdg : decode c.code g.pc = .ok (.invokevirtual index, 3))
    (hpre : ∀ vm₁, s.WarmedH vm₁ → Pre ⟨T.setVm vm₁, locs, cells, slots⟩ (Value.ref b :: argsL).toArray) :
    ∃ (v : Option Value) (vm₁ : Vm) (B : Pt), s.WarmedH vm₁ ∧ Stand p l e R s m args below meth c B.U B.locs B.cells B.slots ∧ Post ⟨T.setVm vm₁, locs, cells, slots⟩ (Value.ref b :: argsL).toArray v B ∧
      ∀ target, Steps p.tables e below (B.U.setTop { g with pc := g.pc + 3, stack := v.toList ++ rest }) target → Steps p.tables e below (T.setTop g) target := by
  obtain ⟨mk, methM, hnamed, hmethM, hstM, habM⟩ := Cond.instanceMethod_spec hinst
  obtain ⟨m8, methM', cM, hn8, hmethM', -, -, -, -, -, -, hsigM⟩ := Cond.codeWith_spec hcode
  cases Option.some.inj (hn8.symm.trans hnamed)
  cases hmethM.symm.trans hmethM'
  obtain ⟨c2, r2, m2, q1, q2, q3, q4, kP, hkP, hkPi⟩ := Cond.selects_spec hsel
  cases hcls.symm.trans q1
  cases (State.methodFound?_of_named hnamed hy).symm.trans q2
  cases hnamed.symm.trans q3
  have hselP : selectMethod e.platform s.vm cellB.cls mk = .method mk := by rw [Launch.admits_selectMethod X.admits]; exact q4
  obtain ⟨vm₁, X₁, hstep₁⟩ := X.invokevirtual hexec hown hlink hnamed hmethM hstM hkP hkPi hy (a := b) (cell := cellB) hcell
    (fun z h => by rw [h] at hobj; cases hobj) hselP hmethM habM hkP hkPi (g := g) hg (argsL := argsL) (rest := rest) (hlen _ hsigM) hstack hdg
  obtain ⟨v, B, X', hpost, hsteps⟩ := hK m meth c ⟨T.setVm vm₁, locs, cells, slots⟩ { g with stack := rest } (.invokevirtual index) mk (Value.ref b :: argsL).toArray X₁ hg hsize hdg hW (X₁.named hnamed) (hpre vm₁ X₁.warmed)
  exact ⟨v, vm₁, B, X₁.warmed, X', hpost, fun target h => hstep₁ _ fun acts => by rw [doInvoke_state]; exact hsteps.trans h⟩
abbrev vx_CVW (R : Room) (s : State) (args : Array Value) (own C : String) (index : Nat) (y : MethodName) (bytes : ByteArray) (maxL : Nat) (ret : Option FieldType) (hh : List (Nat × Nat × Nat × Nat)) (ws : List Cond) (rm : Room) (mc ms n : Nat) : Prop :=
  (rm.cells = mc ∧ rm.slots = ms ∧ rm.frames + 1 ≤ R.frames ∧ 8 + (maxL + 11) + rm.locals ≤ R.locals ∧ (∀ w ∈ ws, ∀ (a' : Array Value) (U : State), s.WarmedH U.vm → w.before a' U = true) ∧ Cond.codeWith y bytes maxL ret hh ∈ ws) ∧
  (Cond.codeWith y bytes maxL ret hh).before args s = true ∧ (Cond.initialized y.cls).before args s = true ∧ (y.cls ≠ "java/lang/invoke/MethodHandle" ∧ y.cls ≠ "java/lang/invoke/VarHandle") ∧
  (∀ sig, parseMethodDescriptor y.desc = some sig → n = sig.parameters.length) ∧ (Cond.methodLink own index y).before args s = true ∧ (Cond.instanceMethod y).before args s = true ∧ (Cond.selects C y y).before args s = true
theorem vx_cwVW {own C : String} {index maxL mc ms : Nat} {y : MethodName} {bytes : ByteArray} {ret : Option FieldType} {hh : List (Nat × Nat × Nat × Nat)} {Ts ws ws' : List Cond} {rm : Room} (n : Nat) (ht : ∀ w ∈ Ts, w.before args s = true) (hT : GoodIn Ts (wsV own index C y ws)) (hw : ws = Cond.codeWith y bytes maxL ret hh :: ws') (hrc : rm.cells = mc) (hrs : rm.slots = ms)
    (hd : y.cls = C ∧ y.cls ≠ "java/lang/invoke/MethodHandle" ∧ y.cls ≠ "java/lang/invoke/VarHandle" ∧ (parseMethodDescriptor y.desc).map (fun d => d.parameters.length) = some n) (hR : rm.frames + 1 ≤ R.frames ∧ 8 + (maxL + 11) + rm.locals ≤ R.locals) :
    vx_CVW R s args own C index y bytes maxL ret hh ws rm mc ms n := by
  obtain ⟨hC, hd⟩ := hd
  subst hC
  have ok : ∀ w ∈ wsV own index y.cls y ws, w.before args s = true := fun w h => ht w (hT w h).1
  have hG : GoodIn Ts ws := fun w h => hT w (by unfold wsV; exact List.mem_append_right _ h)
  have hc : Cond.codeWith y bytes maxL ret hh ∈ ws := by rw [hw]; exact List.mem_cons_self
  refine ⟨⟨hrc, hrs, hR.1, hR.2, pay_in ht hG, hc⟩, ht _ (hG _ hc).1, ok _ (by simp [wsV]), ⟨hd.1, hd.2.1⟩, fun sig h => ?_, ok _ (by simp [wsV]), ok _ (by simp [wsV]), ok _ (by simp [wsV])⟩
  have h2 := hd.2.2
  rw [h] at h2
  exact (Option.some.inj h2).symm
theorem vx_runVW {y : MethodName} {bytes cc : ByteArray} {maxL nL mc ms n index : Nat} {ret : Option FieldType} {hh : List (Nat × Nat × Nat × Nat)} {ws : List Cond} {rm : Room} {Pc : Array Value → State → Prop} {Qc : Array Value → State → Outcome → State → Prop} {free : Addr → Prop} {Ts : List Cond} {own C : String} {b : Addr} {As rest : List Value} {g : JFrame}
    (S : CallFix p m c cc nL s args Ts own) (hM : Met l y ws rm Pc Qc mc ms free) (cw : vx_CVW R s args own C index y bytes maxL ret hh ws rm mc ms n) (hp : PreV s H C b Pc As)
    (hg : g.method = m) (hn : As.length = n) (hsize : g.locals.size = nL) (hstack : g.stack = As.reverse ++ .ref b :: rest) (hW : 2 * g.monitorRoom + (rest.map fun v => v.category).sum ≤ 8) (hdg : decode cc g.pc = .ok (.invokevirtual index, 3)) (hf : cells + mc ≤ R.cells ∧ slots + ms ≤ R.slots) :
    va_Run p l e R s m args below meth c H locs cells slots mc ms g rest (Qc (Value.ref b :: As).toArray) free := by
  obtain ⟨⟨hrc, hrs, hfr, hlo, hws, hcw⟩, hcode, hini, hy, hlen, hl, hin, hse⟩ := cw
  have hK : Back l R p e below s args y 3 8 (PreOf R mc ms Pc) (PostOf Qc mc ms free) := va_backW (hh := hh) (bytes := bytes) (maxL := maxL) (ret := ret) hM hp.1 hrc hrs hfr hlo hws hcw (fun a' U hW => word_at hW (Or.inl (by first | rfl | simp [Cond.onTables, Cond.keeps, Cond.steady])) hini)
  obtain ⟨hx, hb, hml, ho, -⟩ := S
  obtain ⟨-, ⟨cellB, hcB, hoB, hclB⟩, hPc⟩ := hp
  intro T hT X
  obtain ⟨v, vm₁, ⟨U', l2, c2, s2⟩, hW₁, X', ⟨g', mk, t, L, e1, e2, hq, h1, hL, h2, h3⟩, st⟩ := vx_callVW X hx (C := C) (hh := hh) (bytes := bytes) (maxL := maxL) (ret := ret) ho hl hin hse hcode hy hK (by rw [hT]; exact hcB) hoB hclB hg (hsize.trans hml.symm) (argsL := As) (rest := rest) (fun sig h => hn.trans (hlen sig h)) hstack hW (by rw [hb]; exact hdg)
    (fun vm₁ hW₁ => ⟨hf.1, hf.2, hPc (T.setVm vm₁) hT hW₁⟩)
  dsimp only [Pt.U, Pt.locs, Pt.cells, Pt.slots] at X' e1 e2 h1 h2 h3 st
  subst h1; subst h2; subst h3
  exact ⟨v, (T.setVm vm₁).calling g' mk (Value.ref b :: As).toArray, t, U', L, hT, X', hL, e1, e2, hq, st⟩
section
variable {y : MethodName} {bytes cc : ByteArray} {maxL nL mc ms n index : Nat} {ret : Option FieldType} {ws : List Cond} {rm : Room} {Pc : Array Value → State → Prop} {Qc : Array Value → State → Outcome → State → Prop} {XC : String → State → State → Prop} {free : Addr → Prop} {Ts : List Cond} {own C : String} {b : Addr} {As rest : List Value} {g : JFrame}
theorem vx_runVX {hh : List (Nat × Nat × Nat × Nat)} (S : CallFix p m c cc nL s args Ts own) (hM : vx_Met l y ws rm Pc Qc XC mc ms free) (cw : vx_CVW R s args own C index y bytes maxL ret hh ws rm mc ms n) (hp : PreV s H C b Pc As)
    (hg : g.method = m) (hn : As.length = n) (hsize : g.locals.size = nL) (hstack : g.stack = As.reverse ++ .ref b :: rest) (hW : 2 * g.monitorRoom + (rest.map fun v => v.category).sum ≤ 8) (hdg : decode cc g.pc = .ok (.invokevirtual index, 3)) (hf : cells + mc ≤ R.cells ∧ slots + ms ≤ R.slots) :
    vx_Run p l e R s m args below meth c H locs cells slots mc ms g rest (Qc (Value.ref b :: As).toArray) XC free := by
  obtain ⟨⟨hrc, hrs, hfr, hlo, hws, hcw⟩, hcode, hini, hy, hlen, hl, hin, hse⟩ := cw
  have hK : vx_Back l R p e below s args y 3 8 (PreOf R mc ms Pc) (PostOf Qc mc ms free) (vx_Post XC mc ms free) := vx_backW (hh := hh) (bytes := bytes) (maxL := maxL) (ret := ret) hM hp.1 hrc hrs hfr hlo hws hcw (fun a' U hW => word_at hW (Or.inl (by first | rfl | simp [Cond.onTables, Cond.keeps, Cond.steady])) hini)
  obtain ⟨hx, hb, hml, ho, -⟩ := S
  obtain ⟨-, ⟨cellB, hcB, hoB, hclB⟩, hPc⟩ := hp
  intro T hT X
  rcases vx_callVX X hx (C := C) (hh := hh) (bytes := bytes) (maxL := maxL) (ret := ret) ho hl hin hse hcode hy hK (by rw [hT]; exact hcB) hoB hclB hg (hsize.trans hml.symm) (argsL := As) (rest := rest) (fun sig h => hn.trans (hlen sig h)) hstack hW (by rw [hb]; exact hdg)
    (fun vm₁ hW₁ => ⟨hf.1, hf.2, hPc (T.setVm vm₁) hT hW₁⟩) with ⟨v, vm₁, ⟨U', l2, c2, s2⟩, hW₁, X', ⟨g', mk, t, L, e1, e2, hq, h1, hL, h2, h3⟩, st⟩ | ⟨q, vm₁, ⟨U', l2, c2, s2⟩, hW₁, X', ⟨g', mk, t, L, E, ce, e1, e2, hq, hce, hcv, hcl, h1, hL, h2, h3⟩, st⟩
  · dsimp only [Pt.U, Pt.locs, Pt.cells, Pt.slots] at X' e1 e2 h1 h2 h3 st
    subst h1; subst h2; subst h3
    exact Or.inl ⟨v, (T.setVm vm₁).calling g' mk (Value.ref b :: As).toArray, t, U', L, hT, X', hL, e1, e2, hq, st⟩
  · dsimp only [Pt.U, Pt.locs, Pt.cells, Pt.slots] at X' e1 e2 h1 h2 h3 st hcl
    subst h1; subst h2; subst h3
    exact Or.inr ⟨q, (T.setVm vm₁).calling g' mk (Value.ref b :: As).toArray, t, U', L, E, ce, hT, X', hL, e1, e2, hq, hce, hcv, vx_cls hW₁ hcl, st⟩
theorem vx_runSX {hh : List (Nat × Nat × Nat × Nat)} (S : CallFix p m c cc nL s args Ts own) (hM : vx_Met l y ws rm Pc Qc XC mc ms free) (cw : vx_CSW R s args own index y bytes maxL ret hh ws rm mc ms n) (hp : PreS s H Pc As)
    (hg : g.method = m) (hn : As.length = n) (hsize : g.locals.size = nL) (hstack : g.stack = As.reverse ++ rest) (hW : 2 * g.monitorRoom + (rest.map fun v => v.category).sum ≤ 8) (hdg : decode cc g.pc = .ok (.invokestatic index, 3)) (hf : cells + mc ≤ R.cells ∧ slots + ms ≤ R.slots) :
    vx_Run p l e R s m args below meth c H locs cells slots mc ms g rest (Qc As.toArray) XC free := by
  obtain ⟨⟨hrc, hrs, hfr, hlo, hws, hcw⟩, hcode, hini, hy, hlen, hl, hstt⟩ := cw
  have hK : vx_Back l R p e below s args y 3 8 (PreOf R mc ms Pc) (PostOf Qc mc ms free) (vx_Post XC mc ms free) := vx_backW (hh := hh) (bytes := bytes) (maxL := maxL) (ret := ret) hM hp.1 hrc hrs hfr hlo hws hcw (fun a' U hW => word_at hW (Or.inl (by first | rfl | simp [Cond.onTables, Cond.keeps, Cond.steady])) hini)
  obtain ⟨hx, hb, hml, ho, -⟩ := S
  intro T hT X
  rcases vx_callSX X hx (hh := hh) (bytes := bytes) (maxL := maxL) (ret := ret) ho hl hstt hini hcode hy hK hg (hsize.trans hml.symm) (argsL := As) (rest := rest) (fun sig h => hn.trans (hlen sig h)) hstack hW (by rw [hb]; exact hdg)
    (fun vm₁ hW₁ => ⟨hf.1, hf.2, hp.2 (T.setVm vm₁) hT hW₁⟩) with ⟨v, vm₁, ⟨U', l2, c2, s2⟩, hW₁, X', ⟨g', mk, t, L, e1, e2, hq, h1, hL, h2, h3⟩, st⟩ | ⟨q, vm₁, ⟨U', l2, c2, s2⟩, hW₁, X', ⟨g', mk, t, L, E, ce, e1, e2, hq, hce, hcv, hcl, h1, hL, h2, h3⟩, st⟩
  · dsimp only [Pt.U, Pt.locs, Pt.cells, Pt.slots] at X' e1 e2 h1 h2 h3 st
    subst h1; subst h2; subst h3
    exact Or.inl ⟨v, (T.setVm vm₁).calling g' mk As.toArray, t, U', L, hT, X', hL, e1, e2, hq, st⟩
  · dsimp only [Pt.U, Pt.locs, Pt.cells, Pt.slots] at X' e1 e2 h1 h2 h3 st hcl
    subst h1; subst h2; subst h3
    exact Or.inr ⟨q, (T.setVm vm₁).calling g' mk As.toArray, t, U', L, E, ce, hT, X', hL, e1, e2, hq, hce, hcv, vx_cls hW₁ hcl, st⟩
end
end VXH
theorem vx_ofWH {l : Launch} {y : MethodName} {ws ws' : List Cond} {rm : Room} {Pc : Array Value → State → Prop} {Qc : Array Value → State → Outcome → State → Prop} {XC : String → State → State → Prop} {mc ms : Nat} {free : Addr → Prop} {cc : ByteArray} {maxL : Nat} {ret : Option FieldType} {hh : List (Nat × Nat × Nat × Nat)}
    (hy : plainName y.cls = true) (hw : ws = Cond.codeWith y cc maxL ret hh :: ws')
    (body : ∀ p e s m args below meth c s₁, BodyLoose p l y (headSpec ws rm) cc maxL ret e s m args below meth c s₁ → c.maxLocals = maxL → Pc args s →
      W p l e (headSpec ws rm).room s m args below meth c s.heap [] 0 0 (vx_MQ below Qc XC args s mc ms free) (entryFrame m args maxL)) : vx_Met l y ws rm Pc Qc XC mc ms free := by
  refine MetFree.of_bodyS (code := cc) (maxLocals := maxL) (ret := ret) hy ?_ ?_
  · intro args s m h hn
    obtain ⟨m9, meth, c, hn9, h1, h2, h3, h4, -, h5, h6, -⟩ := Cond.codeWith_spec (atoms_spec (ws := ws) h _ (by rw [hw]; exact List.mem_cons_self))
    cases hn.symm.trans hn9
    exact ⟨meth, c, h1, h2, h3, h4, h5, h6⟩
  · intro p e s m args below meth c s₁ B hml hP _
    have hh0 : s₁.heap = s.heap := by rw [B.state]; rfl
    obtain ⟨t, a1, o, b1, b2, b3⟩ := body p e s m args below meth c s₁ B hml hP s₁ hh0 (Stand.of_body B)
    exact ⟨t, o, a1, b1, b2, b3⟩
/-! ===== END ===== -/
end
section
def RX0 : String := "ShapeJudge$Box"
def TX0 : u_T := fun k => match k with
  | 0 => ("ShapeJudge$Box", "lowX", "I", false)
  | 1 => ("ShapeJudge$Box", "lowY", "I", false)
  | 2 => ("ShapeJudge$Box", "highX", "I", false)
  | _ => ("ShapeJudge$Box", "highY", "I", false)
def tyX0 : Nat → FieldType := fun k => match k with
  | 0 => .int
  | 1 => .int
  | 2 => .int
  | _ => .int
abbrev wsX00 : List Cond := u_ws RX0 TX0 4
theorem nmX0 : ∀ a, a < 4 → ∀ b, b < 4 → a ≠ b → (TX0 a).2.1 ≠ (TX0 b).2.1 := by decide +kernel
theorem tyX0_ok : ∀ k, k < 4 → parseFieldDescriptor (TX0 k).2.2.1 = some (tyX0 k) := by decide +kernel
abbrev cX0_init : ByteArray := prog_2_method_1_code
def yX0_init : MethodName := ⟨RX0, "<init>", "()V"⟩
abbrev cX0_take : ByteArray := prog_2_method_2_code
def yX0_take : MethodName := ⟨RX0, "take", "(II)V"⟩
abbrev cX0_has : ByteArray := prog_2_method_3_code
def yX0_has : MethodName := ⟨RX0, "has", "(II)Z"⟩
abbrev cX0_isApartFrom : ByteArray := prog_2_method_4_code
def yX0_isApartFrom : MethodName := ⟨RX0, "isApartFrom", "(LShapeJudge$Box;)Z"⟩
def RX1 : String := "ShapeJudge$Finding"
def TX1 : u_T := fun k => match k with
  | 0 => ("ShapeJudge$Finding", "what", "I", false)
  | _ => ("ShapeJudge$Finding", "places", "[I", true)
def tyX1 : Nat → FieldType := fun k => match k with
  | 0 => .int
  | _ => .array .int
abbrev wsX10 : List Cond := u_ws RX1 TX1 2
theorem nmX1 : ∀ a, a < 2 → ∀ b, b < 2 → a ≠ b → (TX1 a).2.1 ≠ (TX1 b).2.1 := by decide +kernel
theorem tyX1_ok : ∀ k, k < 2 → parseFieldDescriptor (TX1 k).2.2.1 = some (tyX1 k) := by decide +kernel
abbrev cX1_init : ByteArray := prog_3_method_1_code
def yX1_init : MethodName := ⟨RX1, "<init>", "()V"⟩
abbrev cX1_what : ByteArray := prog_3_method_2_code
def yX1_what : MethodName := ⟨RX1, "what", "()I"⟩
abbrev cX1_isMade : ByteArray := prog_3_method_3_code
def yX1_isMade : MethodName := ⟨RX1, "isMade", "()Z"⟩
abbrev cX1_where : ByteArray := prog_3_method_4_code
def yX1_where : MethodName := ⟨RX1, "where", "(I)I"⟩
abbrev cX1_forget : ByteArray := prog_3_method_5_code
def yX1_forget : MethodName := ⟨RX1, "forget", "()V"⟩
abbrev cX1_tell : ByteArray := prog_3_method_6_code
def yX1_tell : MethodName := ⟨RX1, "tell", "(II)V"⟩
abbrev cX1_tellOne : ByteArray := prog_3_method_7_code
def yX1_tellOne : MethodName := ⟨RX1, "tellOne", "(III)V"⟩
abbrev cX1_tellOther : ByteArray := prog_3_method_8_code
def yX1_tellOther : MethodName := ⟨RX1, "tellOther", "(III)V"⟩
abbrev cX1_tellAt : ByteArray := prog_3_method_9_code
def yX1_tellAt : MethodName := ⟨RX1, "tellAt", "(IIII)V"⟩
def RX2 : String := "ShapeJudge$Inspector"
def TX2 : u_T := fun k => match k with
  | 0 => ("ShapeJudge$Inspector", "shapes", "LShapeJudge$Shapes;", true)
  | 1 => ("ShapeJudge$Inspector", "finding", "LShapeJudge$Finding;", true)
  | 2 => ("ShapeJudge$Inspector", "meeting", "LShapeJudge$Meeting;", true)
  | _ => ("ShapeJudge$Inspector", "shape", "I", false)
def tyX2 : Nat → FieldType := fun k => match k with
  | 0 => .object "ShapeJudge$Shapes"
  | 1 => .object "ShapeJudge$Finding"
  | 2 => .object "ShapeJudge$Meeting"
  | _ => .int
abbrev wsX20 : List Cond := u_ws RX2 TX2 4
theorem nmX2 : ∀ a, a < 4 → ∀ b, b < 4 → a ≠ b → (TX2 a).2.1 ≠ (TX2 b).2.1 := by decide +kernel
theorem tyX2_ok : ∀ k, k < 4 → parseFieldDescriptor (TX2 k).2.2.1 = some (tyX2 k) := by decide +kernel
abbrev cX2_init : ByteArray := prog_4_method_1_code
def yX2_init : MethodName := ⟨RX2, "<init>", "(LShapeJudge$Shapes;LShapeJudge$Finding;)V"⟩
abbrev cX2_inspect : ByteArray := prog_4_method_2_code
def yX2_inspect : MethodName := ⟨RX2, "inspect", "(I)V"⟩
abbrev cX2_inspectLine : ByteArray := prog_4_method_3_code
def yX2_inspectLine : MethodName := ⟨RX2, "inspectLine", "()V"⟩
abbrev cX2_allRings : ByteArray := prog_4_method_4_code
def yX2_allRings : MethodName := ⟨RX2, "allRings", "([LShapeJudge$Polygon;)[LShapeJudge$Ring;"⟩
abbrev cX2_inspectRings : ByteArray := prog_4_method_5_code
def yX2_inspectRings : MethodName := ⟨RX2, "inspectRings", "(LShapeJudge$Polygon;)Z"⟩
abbrev cX2_inspectSegments : ByteArray := prog_4_method_6_code
def yX2_inspectSegments : MethodName := ⟨RX2, "inspectSegments", "([LShapeJudge$Ring;Z)Z"⟩
abbrev cX2_inspectSegment : ByteArray := prog_4_method_7_code
def yX2_inspectSegment : MethodName := ⟨RX2, "inspectSegment", "(LShapeJudge$Segment;LShapeJudge$Ring;I)Z"⟩
abbrev cX2_tellSegments : ByteArray := prog_4_method_8_code
def yX2_tellSegments : MethodName := ⟨RX2, "tellSegments", "(ILShapeJudge$Segment;LShapeJudge$Segment;)V"⟩
abbrev cX2_inspectHoles : ByteArray := prog_4_method_9_code
def yX2_inspectHoles : MethodName := ⟨RX2, "inspectHoles", "(LShapeJudge$Polygon;)Z"⟩
abbrev cX2_inspectPairsOfHoles : ByteArray := prog_4_method_10_code
def yX2_inspectPairsOfHoles : MethodName := ⟨RX2, "inspectPairsOfHoles", "(LShapeJudge$Polygon;)Z"⟩
abbrev cX2_inspectWholeness : ByteArray := prog_4_method_11_code
def yX2_inspectWholeness : MethodName := ⟨RX2, "inspectWholeness", "(LShapeJudge$Polygon;)Z"⟩
abbrev cX2_inspectPairsOfParts : ByteArray := prog_4_method_12_code
def yX2_inspectPairsOfParts : MethodName := ⟨RX2, "inspectPairsOfParts", "([LShapeJudge$Polygon;)V"⟩
def RX3 : String := "ShapeJudge$Meeting"
def TX3 : u_T := fun k => match k with
  | 0 => ("ShapeJudge$Meeting", "x", "I", false)
  | _ => ("ShapeJudge$Meeting", "y", "I", false)
def tyX3 : Nat → FieldType := fun k => match k with
  | 0 => .int
  | _ => .int
abbrev wsX30 : List Cond := u_ws RX3 TX3 2
theorem nmX3 : ∀ a, a < 2 → ∀ b, b < 2 → a ≠ b → (TX3 a).2.1 ≠ (TX3 b).2.1 := by decide +kernel
theorem tyX3_ok : ∀ k, k < 2 → parseFieldDescriptor (TX3 k).2.2.1 = some (tyX3 k) := by decide +kernel
abbrev cX3_init : ByteArray := prog_5_method_1_code
def yX3_init : MethodName := ⟨RX3, "<init>", "()V"⟩
abbrev cX3_fault : ByteArray := prog_5_method_2_code
def yX3_fault : MethodName := ⟨RX3, "fault", "(LShapeJudge$Segment;LShapeJudge$Segment;)I"⟩
abbrev cX3_meet : ByteArray := prog_5_method_3_code
def yX3_meet : MethodName := ⟨RX3, "meet", "(LShapeJudge$Segment;LShapeJudge$Segment;)I"⟩
abbrev cX3_isOneSide : ByteArray := prog_5_method_4_code
def yX3_isOneSide : MethodName := ⟨RX3, "isOneSide", "(JJ)Z"⟩
abbrev cX3_meetOnOneLine : ByteArray := prog_5_method_5_code
def yX3_meetOnOneLine : MethodName := ⟨RX3, "meetOnOneLine", "(LShapeJudge$Box;LShapeJudge$Box;)I"⟩
abbrev cX3_meetAt : ByteArray := prog_5_method_6_code
def yX3_meetAt : MethodName := ⟨RX3, "meetAt", "(II)I"⟩
abbrev cX3_ringsCross : ByteArray := prog_5_method_7_code
def yX3_ringsCross : MethodName := ⟨RX3, "ringsCross", "(LShapeJudge$Segment;LShapeJudge$Segment;)Z"⟩
def RX4 : String := "ShapeJudge$Polygon"
def TX4 : u_T := fun k => match k with
  | 0 => ("ShapeJudge$Polygon", "part", "I", true)
  | _ => ("ShapeJudge$Polygon", "rings", "[LShapeJudge$Ring;", true)
def tyX4 : Nat → FieldType := fun k => match k with
  | 0 => .int
  | _ => .array (.object "ShapeJudge$Ring")
abbrev wsX40 : List Cond := u_ws RX4 TX4 2
theorem nmX4 : ∀ a, a < 2 → ∀ b, b < 2 → a ≠ b → (TX4 a).2.1 ≠ (TX4 b).2.1 := by decide +kernel
theorem tyX4_ok : ∀ k, k < 2 → parseFieldDescriptor (TX4 k).2.2.1 = some (tyX4 k) := by decide +kernel
abbrev cX4_init : ByteArray := prog_6_method_1_code
def yX4_init : MethodName := ⟨RX4, "<init>", "(I[LShapeJudge$Ring;)V"⟩
abbrev cX4_isInside : ByteArray := prog_6_method_2_code
def yX4_isInside : MethodName := ⟨RX4, "isInside", "(LShapeJudge$Polygon;)Z"⟩
abbrev cX4_isSplit : ByteArray := prog_6_method_3_code
def yX4_isSplit : MethodName := ⟨RX4, "isSplit", "()Z"⟩
abbrev cX4_isNewCorner : ByteArray := prog_6_method_4_code
def yX4_isNewCorner : MethodName := ⟨RX4, "isNewCorner", "(ILShapeJudge$Segment;)Z"⟩
abbrev cX4_joinsInRound : ByteArray := prog_6_method_5_code
def yX4_joinsInRound : MethodName := ⟨RX4, "joinsInRound", "(LShapeJudge$Segment;[I)Z"⟩
abbrev cX4_renameGroup : ByteArray := prog_6_method_6_code
def yX4_renameGroup : MethodName := ⟨RX4, "renameGroup", "([III)V"⟩
def RX5 : String := "ShapeJudge$Ring"
def TX5 : u_T := fun k => match k with
  | 0 => ("ShapeJudge$Ring", "part", "I", true)
  | 1 => ("ShapeJudge$Ring", "number", "I", true)
  | 2 => ("ShapeJudge$Ring", "box", "LShapeJudge$Box;", true)
  | 3 => ("ShapeJudge$Ring", "segments", "[LShapeJudge$Segment;", true)
  | 4 => ("ShapeJudge$Ring", "count", "I", false)
  | 5 => ("ShapeJudge$Ring", "closed", "Z", false)
  | _ => ("ShapeJudge$Ring", "differentPoints", "I", false)
def tyX5 : Nat → FieldType := fun k => match k with
  | 0 => .int
  | 1 => .int
  | 2 => .object "ShapeJudge$Box"
  | 3 => .array (.object "ShapeJudge$Segment")
  | 4 => .int
  | 5 => .boolean
  | _ => .int
abbrev wsX50 : List Cond := u_ws RX5 TX5 7
theorem nmX5 : ∀ a, a < 7 → ∀ b, b < 7 → a ≠ b → (TX5 a).2.1 ≠ (TX5 b).2.1 := by decide +kernel
theorem tyX5_ok : ∀ k, k < 7 → parseFieldDescriptor (TX5 k).2.2.1 = some (tyX5 k) := by decide +kernel
abbrev cX5_init : ByteArray := prog_7_method_1_code
def yX5_init : MethodName := ⟨RX5, "<init>", "(III)V"⟩
abbrev cX5_add : ByteArray := prog_7_method_2_code
def yX5_add : MethodName := ⟨RX5, "add", "(LShapeJudge$Segment;)V"⟩
abbrev cX5_passes : ByteArray := prog_7_method_3_code
def yX5_passes : MethodName := ⟨RX5, "passes", "(II)Z"⟩
abbrev cX5_hasCorner : ByteArray := prog_7_method_4_code
def yX5_hasCorner : MethodName := ⟨RX5, "hasCorner", "(II)Z"⟩
abbrev cX5_holds : ByteArray := prog_7_method_5_code
def yX5_holds : MethodName := ⟨RX5, "holds", "(IIJJ)Z"⟩
abbrev cX5_liesIn : ByteArray := prog_7_method_6_code
def yX5_liesIn : MethodName := ⟨RX5, "liesIn", "(LShapeJudge$Ring;)Z"⟩
def RX6 : String := "ShapeJudge$Row"
def TX6 : u_T := fun k => match k with
  | 0 => ("ShapeJudge$Row", "items", "[I", false)
  | _ => ("ShapeJudge$Row", "size", "I", false)
def tyX6 : Nat → FieldType := fun k => match k with
  | 0 => .array .int
  | _ => .int
abbrev wsX60 : List Cond := u_ws RX6 TX6 2
theorem nmX6 : ∀ a, a < 2 → ∀ b, b < 2 → a ≠ b → (TX6 a).2.1 ≠ (TX6 b).2.1 := by decide +kernel
theorem tyX6_ok : ∀ k, k < 2 → parseFieldDescriptor (TX6 k).2.2.1 = some (tyX6 k) := by decide +kernel
abbrev cX6_init : ByteArray := prog_8_method_1_code
def yX6_init : MethodName := ⟨RX6, "<init>", "()V"⟩
abbrev cX6_size : ByteArray := prog_8_method_2_code
def yX6_size : MethodName := ⟨RX6, "size", "()I"⟩
abbrev cX6_get : ByteArray := prog_8_method_3_code
def yX6_get : MethodName := ⟨RX6, "get", "(I)I"⟩
abbrev cX6_last : ByteArray := prog_8_method_4_code
def yX6_last : MethodName := ⟨RX6, "last", "()I"⟩
abbrev cX6_add : ByteArray := prog_8_method_5_code
def yX6_add : MethodName := ⟨RX6, "add", "(I)V"⟩
abbrev cX6_dropLast : ByteArray := prog_8_method_6_code
def yX6_dropLast : MethodName := ⟨RX6, "dropLast", "()V"⟩
abbrev cX6_empty : ByteArray := prog_8_method_7_code
def yX6_empty : MethodName := ⟨RX6, "empty", "()V"⟩
def RX7 : String := "ShapeJudge$Segment"
def TX7 : u_T := fun k => match k with
  | 0 => ("ShapeJudge$Segment", "ring", "LShapeJudge$Ring;", true)
  | 1 => ("ShapeJudge$Segment", "number", "I", true)
  | 2 => ("ShapeJudge$Segment", "fromX", "I", true)
  | 3 => ("ShapeJudge$Segment", "fromY", "I", true)
  | 4 => ("ShapeJudge$Segment", "toX", "I", true)
  | 5 => ("ShapeJudge$Segment", "toY", "I", true)
  | 6 => ("ShapeJudge$Segment", "box", "LShapeJudge$Box;", true)
  | _ => ("ShapeJudge$Segment", "next", "LShapeJudge$Segment;", false)
def tyX7 : Nat → FieldType := fun k => match k with
  | 0 => .object "ShapeJudge$Ring"
  | 1 => .int
  | 2 => .int
  | 3 => .int
  | 4 => .int
  | 5 => .int
  | 6 => .object "ShapeJudge$Box"
  | _ => .object "ShapeJudge$Segment"
abbrev wsX70 : List Cond := u_ws RX7 TX7 8
theorem nmX7 : ∀ a, a < 8 → ∀ b, b < 8 → a ≠ b → (TX7 a).2.1 ≠ (TX7 b).2.1 := by decide +kernel
theorem tyX7_ok : ∀ k, k < 8 → parseFieldDescriptor (TX7 k).2.2.1 = some (tyX7 k) := by decide +kernel
abbrev cX7_init : ByteArray := prog_9_method_1_code
def yX7_init : MethodName := ⟨RX7, "<init>", "(LShapeJudge$Ring;IIIII)V"⟩
abbrev cX7_beginsAt : ByteArray := prog_9_method_2_code
def yX7_beginsAt : MethodName := ⟨RX7, "beginsAt", "(II)Z"⟩
abbrev cX7_isNeighbourOf : ByteArray := prog_9_method_3_code
def yX7_isNeighbourOf : MethodName := ⟨RX7, "isNeighbourOf", "(LShapeJudge$Segment;)Z"⟩
abbrev cX7_side : ByteArray := prog_9_method_4_code
def yX7_side : MethodName := ⟨RX7, "side", "(II)J"⟩
abbrev cX7_passes : ByteArray := prog_9_method_5_code
def yX7_passes : MethodName := ⟨RX7, "passes", "(II)Z"⟩
abbrev cX7_isHitFrom : ByteArray := prog_9_method_6_code
def yX7_isHitFrom : MethodName := ⟨RX7, "isHitFrom", "(IIJJ)Z"⟩
abbrev cX7_hasOnLeft : ByteArray := prog_9_method_7_code
def yX7_hasOnLeft : MethodName := ⟨RX7, "hasOnLeft", "(IIII)Z"⟩
def RX8 : String := "ShapeJudge$Shapes"
def TX8 : u_T := fun k => match k with
  | 0 => ("ShapeJudge$Shapes", "kinds", "LShapeJudge$Row;", true)
  | 1 => ("ShapeJudge$Shapes", "outers", "LShapeJudge$Row;", true)
  | 2 => ("ShapeJudge$Shapes", "firstChains", "LShapeJudge$Row;", true)
  | 3 => ("ShapeJudge$Shapes", "firstPoints", "LShapeJudge$Row;", true)
  | 4 => ("ShapeJudge$Shapes", "xs", "LShapeJudge$Row;", true)
  | 5 => ("ShapeJudge$Shapes", "ys", "LShapeJudge$Row;", true)
  | 6 => ("ShapeJudge$Shapes", "openShapes", "LShapeJudge$Row;", true)
  | _ => ("ShapeJudge$Shapes", "ringCount", "I", false)
def tyX8 : Nat → FieldType := fun k => match k with
  | 0 => .object "ShapeJudge$Row"
  | 1 => .object "ShapeJudge$Row"
  | 2 => .object "ShapeJudge$Row"
  | 3 => .object "ShapeJudge$Row"
  | 4 => .object "ShapeJudge$Row"
  | 5 => .object "ShapeJudge$Row"
  | 6 => .object "ShapeJudge$Row"
  | _ => .int
abbrev wsX80 : List Cond := u_ws RX8 TX8 8
theorem nmX8 : ∀ a, a < 8 → ∀ b, b < 8 → a ≠ b → (TX8 a).2.1 ≠ (TX8 b).2.1 := by decide +kernel
theorem tyX8_ok : ∀ k, k < 8 → parseFieldDescriptor (TX8 k).2.2.1 = some (tyX8 k) := by decide +kernel
abbrev cX8_init : ByteArray := prog_10_method_1_code
def yX8_init : MethodName := ⟨RX8, "<init>", "()V"⟩
abbrev cX8_forget : ByteArray := prog_10_method_2_code
def yX8_forget : MethodName := ⟨RX8, "forget", "()V"⟩
abbrev cX8_numbers : ByteArray := prog_10_method_3_code
def yX8_numbers : MethodName := ⟨RX8, "numbers", "()I"⟩
abbrev cX8_count : ByteArray := prog_10_method_4_code
def yX8_count : MethodName := ⟨RX8, "count", "()I"⟩
abbrev cX8_kind : ByteArray := prog_10_method_5_code
def yX8_kind : MethodName := ⟨RX8, "kind", "(I)I"⟩
abbrev cX8_pointCount : ByteArray := prog_10_method_6_code
def yX8_pointCount : MethodName := ⟨RX8, "pointCount", "()I"⟩
abbrev cX8_openCount : ByteArray := prog_10_method_7_code
def yX8_openCount : MethodName := ⟨RX8, "openCount", "()I"⟩
abbrev cX8_openKind : ByteArray := prog_10_method_8_code
def yX8_openKind : MethodName := ⟨RX8, "openKind", "()I"⟩
abbrev cX8_isWhole : ByteArray := prog_10_method_9_code
def yX8_isWhole : MethodName := ⟨RX8, "isWhole", "()Z"⟩
abbrev cX8_canTake : ByteArray := prog_10_method_10_code
def yX8_canTake : MethodName := ⟨RX8, "canTake", "(I)Z"⟩
abbrev cX8_canTakePoint : ByteArray := prog_10_method_11_code
def yX8_canTakePoint : MethodName := ⟨RX8, "canTakePoint", "()Z"⟩
abbrev cX8_begin : ByteArray := prog_10_method_12_code
def yX8_begin : MethodName := ⟨RX8, "begin", "(I)I"⟩
abbrev cX8_beginRing : ByteArray := prog_10_method_13_code
def yX8_beginRing : MethodName := ⟨RX8, "beginRing", "()V"⟩
abbrev cX8_addPoint : ByteArray := prog_10_method_14_code
def yX8_addPoint : MethodName := ⟨RX8, "addPoint", "(II)I"⟩
abbrev cX8_finish : ByteArray := prog_10_method_15_code
def yX8_finish : MethodName := ⟨RX8, "finish", "()I"⟩
abbrev cX8_differentInLine : ByteArray := prog_10_method_16_code
def yX8_differentInLine : MethodName := ⟨RX8, "differentInLine", "(I)I"⟩
abbrev cX8_polygonsOf : ByteArray := prog_10_method_17_code
def yX8_polygonsOf : MethodName := ⟨RX8, "polygonsOf", "(I)[LShapeJudge$Polygon;"⟩
abbrev cX8_countPolygons : ByteArray := prog_10_method_18_code
def yX8_countPolygons : MethodName := ⟨RX8, "countPolygons", "(I)I"⟩
abbrev cX8_toPolygon : ByteArray := prog_10_method_19_code
def yX8_toPolygon : MethodName := ⟨RX8, "toPolygon", "(II)LShapeJudge$Polygon;"⟩
abbrev cX8_toRing : ByteArray := prog_10_method_20_code
def yX8_toRing : MethodName := ⟨RX8, "toRing", "(III)LShapeJudge$Ring;"⟩
abbrev cX8_behindChain : ByteArray := prog_10_method_21_code
def yX8_behindChain : MethodName := ⟨RX8, "behindChain", "(I)I"⟩
abbrev cX8_differentPoints : ByteArray := prog_10_method_22_code
def yX8_differentPoints : MethodName := ⟨RX8, "differentPoints", "(I)I"⟩
abbrev cX8_isSame : ByteArray := prog_10_method_23_code
def yX8_isSame : MethodName := ⟨RX8, "isSame", "(II)Z"⟩
def RX9 : String := "ShapeJudge"
def TX9 : u_T := fun k => match k with
  | 0 => ("ShapeJudge", "shapes", "LShapeJudge$Shapes;", true)
  | 1 => ("ShapeJudge", "finding", "LShapeJudge$Finding;", true)
  | 2 => ("ShapeJudge", "inspector", "LShapeJudge$Inspector;", true)
  | _ => ("ShapeJudge", "judged", "Z", false)
def tyX9 : Nat → FieldType := fun k => match k with
  | 0 => .object "ShapeJudge$Shapes"
  | 1 => .object "ShapeJudge$Finding"
  | 2 => .object "ShapeJudge$Inspector"
  | _ => .boolean
abbrev wsX90 : List Cond := u_ws RX9 TX9 4
theorem nmX9 : ∀ a, a < 4 → ∀ b, b < 4 → a ≠ b → (TX9 a).2.1 ≠ (TX9 b).2.1 := by decide +kernel
theorem tyX9_ok : ∀ k, k < 4 → parseFieldDescriptor (TX9 k).2.2.1 = some (tyX9 k) := by decide +kernel
abbrev cX9_init : ByteArray := prog_1_method_1_code
def yX9_init : MethodName := ⟨RX9, "<init>", "()V"⟩
abbrev cX9_clear : ByteArray := prog_1_method_2_code
def yX9_clear : MethodName := ⟨RX9, "clear", "()I"⟩
abbrev cX9_open : ByteArray := prog_1_method_3_code
def yX9_open : MethodName := ⟨RX9, "open", "(I)I"⟩
abbrev cX9_ring : ByteArray := prog_1_method_4_code
def yX9_ring : MethodName := ⟨RX9, "ring", "()V"⟩
abbrev cX9_point : ByteArray := prog_1_method_5_code
def yX9_point : MethodName := ⟨RX9, "point", "(II)I"⟩
abbrev cX9_close : ByteArray := prog_1_method_6_code
def yX9_close : MethodName := ⟨RX9, "close", "()I"⟩
abbrev cX9_judge : ByteArray := prog_1_method_7_code
def yX9_judge : MethodName := ⟨RX9, "judge", "()I"⟩
abbrev cX9_place : ByteArray := prog_1_method_8_code
def yX9_place : MethodName := ⟨RX9, "place", "(I)I"⟩
abbrev cX9_isCoordinate : ByteArray := prog_1_method_9_code
def yX9_isCoordinate : MethodName := ⟨RX9, "isCoordinate", "(I)Z"⟩
def RX10 : String := "ShapeJudgeModel"
def TX10 : u_T := fun k => match k with
  | 0 => ("ShapeJudgeModel", "thrown", "I", false)
  | 1 => ("ShapeJudgeModel", "shapes", "I", false)
  | 2 => ("ShapeJudgeModel", "numbers", "I", false)
  | 3 => ("ShapeJudgeModel", "points", "I", false)
  | 4 => ("ShapeJudgeModel", "rings", "I", false)
  | 5 => ("ShapeJudgeModel", "kinds", "[I", true)
  | 6 => ("ShapeJudgeModel", "wholes", "[I", true)
  | 7 => ("ShapeJudgeModel", "parts", "[I", true)
  | 8 => ("ShapeJudgeModel", "firstPoint", "[I", true)
  | 9 => ("ShapeJudgeModel", "pointCount", "[I", true)
  | 10 => ("ShapeJudgeModel", "firstRing", "[I", true)
  | 11 => ("ShapeJudgeModel", "ringCount", "[I", true)
  | 12 => ("ShapeJudgeModel", "ringPoint", "[I", true)
  | 13 => ("ShapeJudgeModel", "ringPoints", "[I", true)
  | 14 => ("ShapeJudgeModel", "xs", "[I", true)
  | 15 => ("ShapeJudgeModel", "ys", "[I", true)
  | 16 => ("ShapeJudgeModel", "opened", "I", false)
  | 17 => ("ShapeJudgeModel", "open", "[I", true)
  | 18 => ("ShapeJudgeModel", "place", "[I", true)
  | 19 => ("ShapeJudgeModel", "meetX", "I", false)
  | 20 => ("ShapeJudgeModel", "meetY", "I", false)
  | 21 => ("ShapeJudgeModel", "group", "[I", true)
  | 22 => ("ShapeJudgeModel", "backX", "I", false)
  | 23 => ("ShapeJudgeModel", "backY", "I", false)
  | 24 => ("ShapeJudgeModel", "onX", "I", false)
  | _ => ("ShapeJudgeModel", "onY", "I", false)
def tyX10 : Nat → FieldType := fun k => match k with
  | 0 => .int
  | 1 => .int
  | 2 => .int
  | 3 => .int
  | 4 => .int
  | 5 => .array .int
  | 6 => .array .int
  | 7 => .array .int
  | 8 => .array .int
  | 9 => .array .int
  | 10 => .array .int
  | 11 => .array .int
  | 12 => .array .int
  | 13 => .array .int
  | 14 => .array .int
  | 15 => .array .int
  | 16 => .int
  | 17 => .array .int
  | 18 => .array .int
  | 19 => .int
  | 20 => .int
  | 21 => .array .int
  | 22 => .int
  | 23 => .int
  | 24 => .int
  | _ => .int
abbrev wsX100 : List Cond := u_ws RX10 TX10 26
theorem nmX10 : ∀ a, a < 26 → ∀ b, b < 26 → a ≠ b → (TX10 a).2.1 ≠ (TX10 b).2.1 := by decide +kernel
theorem tyX10_ok : ∀ k, k < 26 → parseFieldDescriptor (TX10 k).2.2.1 = some (tyX10 k) := by decide +kernel
abbrev cX10_init : ByteArray := prog_12_method_1_code
def yX10_init : MethodName := ⟨RX10, "<init>", "()V"⟩
abbrev cX10_thrown : ByteArray := prog_12_method_2_code
def yX10_thrown : MethodName := ⟨RX10, "thrown", "()I"⟩
abbrev cX10_fail : ByteArray := prog_12_method_3_code
def yX10_fail : MethodName := ⟨RX10, "fail", "(I)I"⟩
abbrev cX10_within : ByteArray := prog_12_method_4_code
def yX10_within : MethodName := ⟨RX10, "within", "(III)Z"⟩
abbrev cX10_noPlace : ByteArray := prog_12_method_5_code
def yX10_noPlace : MethodName := ⟨RX10, "noPlace", "()V"⟩
abbrev cX10_clear : ByteArray := prog_12_method_6_code
def yX10_clear : MethodName := ⟨RX10, "clear", "()I"⟩
abbrev cX10_top : ByteArray := prog_12_method_7_code
def yX10_top : MethodName := ⟨RX10, "top", "()I"⟩
abbrev cX10_takes : ByteArray := prog_12_method_8_code
def yX10_takes : MethodName := ⟨RX10, "takes", "(I)Z"⟩
abbrev cX10_open : ByteArray := prog_12_method_9_code
def yX10_open : MethodName := ⟨RX10, "open", "(I)I"⟩
abbrev cX10_ring : ByteArray := prog_12_method_10_code
def yX10_ring : MethodName := ⟨RX10, "ring", "()V"⟩
abbrev cX10_point : ByteArray := prog_12_method_11_code
def yX10_point : MethodName := ⟨RX10, "point", "(II)I"⟩
abbrev cX10_close : ByteArray := prog_12_method_12_code
def yX10_close : MethodName := ⟨RX10, "close", "()I"⟩
abbrev cX10_place : ByteArray := prog_12_method_13_code
def yX10_place : MethodName := ⟨RX10, "place", "(I)I"⟩
abbrev cX10_sign : ByteArray := prog_12_method_14_code
def yX10_sign : MethodName := ⟨RX10, "sign", "(J)I"⟩
abbrev cX10_cross : ByteArray := prog_12_method_15_code
def yX10_cross : MethodName := ⟨RX10, "cross", "(IIII)I"⟩
abbrev cX10_side : ByteArray := prog_12_method_16_code
def yX10_side : MethodName := ⟨RX10, "side", "(IIII)I"⟩
abbrev cX10_between : ByteArray := prog_12_method_17_code
def yX10_between : MethodName := ⟨RX10, "between", "(III)Z"⟩
abbrev cX10_isOn : ByteArray := prog_12_method_18_code
def yX10_isOn : MethodName := ⟨RX10, "isOn", "(III)Z"⟩
abbrev cX10_same : ByteArray := prog_12_method_19_code
def yX10_same : MethodName := ⟨RX10, "same", "(II)Z"⟩
abbrev cX10_isSegment : ByteArray := prog_12_method_20_code
def yX10_isSegment : MethodName := ⟨RX10, "isSegment", "(I)Z"⟩
abbrev cX10_more : ByteArray := prog_12_method_21_code
def yX10_more : MethodName := ⟨RX10, "more", "(II)I"⟩
abbrev cX10_less : ByteArray := prog_12_method_22_code
def yX10_less : MethodName := ⟨RX10, "less", "(II)I"⟩
abbrev cX10_along : ByteArray := prog_12_method_23_code
def yX10_along : MethodName := ⟨RX10, "along", "(II)I"⟩
abbrev cX10_meets : ByteArray := prog_12_method_24_code
def yX10_meets : MethodName := ⟨RX10, "meets", "(II)Z"⟩
abbrev cX10_meet : ByteArray := prog_12_method_25_code
def yX10_meet : MethodName := ⟨RX10, "meet", "(II)I"⟩
abbrev cX10_end : ByteArray := prog_12_method_26_code
def yX10_end : MethodName := ⟨RX10, "end", "(I)I"⟩
abbrev cX10_next : ByteArray := prog_12_method_27_code
def yX10_next : MethodName := ⟨RX10, "next", "(II)I"⟩
abbrev cX10_isOnRing : ByteArray := prog_12_method_28_code
def yX10_isOnRing : MethodName := ⟨RX10, "isOnRing", "(III)Z"⟩
abbrev cX10_odd : ByteArray := prog_12_method_29_code
def yX10_odd : MethodName := ⟨RX10, "odd", "(IIIII)Z"⟩
abbrev cX10_liesIn : ByteArray := prog_12_method_30_code
def yX10_liesIn : MethodName := ⟨RX10, "liesIn", "(II)Z"⟩
abbrev cX10_isLeft : ByteArray := prog_12_method_31_code
def yX10_isLeft : MethodName := ⟨RX10, "isLeft", "(IIIIII)Z"⟩
abbrev cX10_ways : ByteArray := prog_12_method_32_code
def yX10_ways : MethodName := ⟨RX10, "ways", "(II)V"⟩
abbrev cX10_crosses : ByteArray := prog_12_method_33_code
def yX10_crosses : MethodName := ⟨RX10, "crosses", "(IIII)Z"⟩
abbrev cX10_begins : ByteArray := prog_12_method_34_code
def yX10_begins : MethodName := ⟨RX10, "begins", "(I)Z"⟩
abbrev cX10_told : ByteArray := prog_12_method_35_code
def yX10_told : MethodName := ⟨RX10, "told", "(IIIII)I"⟩
abbrev cX10_other : ByteArray := prog_12_method_36_code
def yX10_other : MethodName := ⟨RX10, "other", "(III)V"⟩
abbrev cX10_pair : ByteArray := prog_12_method_37_code
def yX10_pair : MethodName := ⟨RX10, "pair", "(IIII)I"⟩
abbrev cX10_isFew : ByteArray := prog_12_method_38_code
def yX10_isFew : MethodName := ⟨RX10, "isFew", "(III)Z"⟩
abbrev cX10_ringsOf : ByteArray := prog_12_method_39_code
def yX10_ringsOf : MethodName := ⟨RX10, "ringsOf", "(III)I"⟩
abbrev cX10_pairsOf : ByteArray := prog_12_method_40_code
def yX10_pairsOf : MethodName := ⟨RX10, "pairsOf", "(III)I"⟩
abbrev cX10_holesOf : ByteArray := prog_12_method_41_code
def yX10_holesOf : MethodName := ⟨RX10, "holesOf", "(III)I"⟩
abbrev cX10_isFirst : ByteArray := prog_12_method_42_code
def yX10_isFirst : MethodName := ⟨RX10, "isFirst", "(II)Z"⟩
abbrev cX10_joins : ByteArray := prog_12_method_43_code
def yX10_joins : MethodName := ⟨RX10, "joins", "(II)Z"⟩
abbrev cX10_splitOf : ByteArray := prog_12_method_44_code
def yX10_splitOf : MethodName := ⟨RX10, "splitOf", "(III)I"⟩
abbrev cX10_polygon : ByteArray := prog_12_method_45_code
def yX10_polygon : MethodName := ⟨RX10, "polygon", "(III)I"⟩
abbrev cX10_isPart : ByteArray := prog_12_method_46_code
def yX10_isPart : MethodName := ⟨RX10, "isPart", "(II)Z"⟩
abbrev cX10_against : ByteArray := prog_12_method_47_code
def yX10_against : MethodName := ⟨RX10, "against", "(IIII)I"⟩
abbrev cX10_apart : ByteArray := prog_12_method_48_code
def yX10_apart : MethodName := ⟨RX10, "apart", "(I)I"⟩
abbrev cX10_isInside : ByteArray := prog_12_method_49_code
def yX10_isInside : MethodName := ⟨RX10, "isInside", "(II)Z"⟩
abbrev cX10_polygons : ByteArray := prog_12_method_50_code
def yX10_polygons : MethodName := ⟨RX10, "polygons", "(I)I"⟩
abbrev cX10_judge : ByteArray := prog_12_method_51_code
def yX10_judge : MethodName := ⟨RX10, "judge", "()I"⟩
def RJx8e188 : String := "java/lang/Cloneable"
def TJx8e188 : u_T := fun k => match k with
  | _ => ("", "", "", false)
def tyJx8e188 : Nat → FieldType := fun k => match k with
  | _ => .int
abbrev wsJx8e1880 : List Cond := u_ws RJx8e188 TJx8e188 0
theorem nmJx8e188 : ∀ a, a < 0 → ∀ b, b < 0 → a ≠ b → (TJx8e188 a).2.1 ≠ (TJx8e188 b).2.1 := by decide +kernel
theorem tyJx8e188_ok : ∀ k, k < 0 → parseFieldDescriptor (TJx8e188 k).2.2.1 = some (tyJx8e188 k) := by decide +kernel
def RJ9 : String := "java/lang/Math"
def TJ9 : u_T := fun k => match k with
  | _ => ("", "", "", false)
def tyJ9 : Nat → FieldType := fun k => match k with
  | _ => .int
abbrev wsJ90 : List Cond := u_ws RJ9 TJ9 0
theorem nmJ9 : ∀ a, a < 0 → ∀ b, b < 0 → a ≠ b → (TJ9 a).2.1 ≠ (TJ9 b).2.1 := by decide +kernel
theorem tyJ9_ok : ∀ k, k < 0 → parseFieldDescriptor (TJ9 k).2.2.1 = some (tyJ9 k) := by decide +kernel
abbrev cJ9_max_7cf53 : ByteArray := prog_18_method_65_code
def yJ9_max_7cf53 : MethodName := ⟨RJ9, "max", "(II)I"⟩
abbrev cJ9_min_7cf53 : ByteArray := prog_18_method_69_code
def yJ9_min_7cf53 : MethodName := ⟨RJ9, "min", "(II)I"⟩
def RJ0 : String := "java/lang/String"
def TJ0 : u_T := fun k => match k with
  | _ => ("", "", "", false)
def tyJ0 : Nat → FieldType := fun k => match k with
  | _ => .int
abbrev wsJ00 : List Cond := u_ws RJ0 TJ0 0
theorem nmJ0 : ∀ a, a < 0 → ∀ b, b < 0 → a ≠ b → (TJ0 a).2.1 ≠ (TJ0 b).2.1 := by decide +kernel
theorem tyJ0_ok : ∀ k, k < 0 → parseFieldDescriptor (TJ0 k).2.2.1 = some (tyJ0 k) := by decide +kernel
def RJ10 : String := "java/lang/System"
def TJ10 : u_T := fun k => match k with
  | _ => ("", "", "", false)
def tyJ10 : Nat → FieldType := fun k => match k with
  | _ => .int
abbrev wsJ100 : List Cond := u_ws RJ10 TJ10 0
theorem nmJ10 : ∀ a, a < 0 → ∀ b, b < 0 → a ≠ b → (TJ10 a).2.1 ≠ (TJ10 b).2.1 := by decide +kernel
theorem tyJ10_ok : ∀ k, k < 0 → parseFieldDescriptor (TJ10 k).2.2.1 = some (tyJ10 k) := by decide +kernel
def RJ7 : String := "java/util/Arrays"
def TJ7 : u_T := fun k => match k with
  | _ => ("", "", "", false)
def tyJ7 : Nat → FieldType := fun k => match k with
  | _ => .int
abbrev wsJ70 : List Cond := u_ws RJ7 TJ7 0
theorem nmJ7 : ∀ a, a < 0 → ∀ b, b < 0 → a ≠ b → (TJ7 a).2.1 ≠ (TJ7 b).2.1 := by decide +kernel
theorem tyJ7_ok : ∀ k, k < 0 → parseFieldDescriptor (TJ7 k).2.2.1 = some (tyJ7 k) := by decide +kernel
abbrev cJ7_fill_53178 : ByteArray := prog_24_method_103_code
def yJ7_fill_53178 : MethodName := ⟨RJ7, "fill", "([II)V"⟩
abbrev cJ7_copyOf_59c91 : ByteArray := prog_24_method_123_code
def yJ7_copyOf_59c91 : MethodName := ⟨RJ7, "copyOf", "([II)[I"⟩
def RL : String := "ShapeJudgeLaw"
abbrev cL_open : ByteArray := method_3_code
def yL_open : MethodName := ⟨RL, "open", "(LShapeJudge;I[J)I"⟩
abbrev cL_ring : ByteArray := method_4_code
def yL_ring : MethodName := ⟨RL, "ring", "(LShapeJudge;)I"⟩
abbrev cL_point : ByteArray := method_5_code
def yL_point : MethodName := ⟨RL, "point", "(LShapeJudge;II[J)I"⟩
abbrev cL_close : ByteArray := method_6_code
def yL_close : MethodName := ⟨RL, "close", "(LShapeJudge;[J)I"⟩
abbrev cL_judge : ByteArray := method_7_code
def yL_judge : MethodName := ⟨RL, "judge", "(LShapeJudge;[J)I"⟩
abbrev cL_place : ByteArray := method_8_code
def yL_place : MethodName := ⟨RL, "place", "(LShapeJudge;I[J)I"⟩
abbrev cL_law : ByteArray := code
def yL_law : MethodName := ⟨RL, "law", "([I)Z"⟩
abbrev vwCl : List vw_C := [(RX0, TX0, 4), (RX1, TX1, 2), (RX2, TX2, 4), (RX3, TX3, 2), (RX4, TX4, 2), (RX5, TX5, 7), (RX6, TX6, 2), (RX7, TX7, 8), (RX8, TX8, 8), (RX9, TX9, 4), (RX10, TX10, 26)]
end
section
theorem dX0_init_0 : decode cX0_init 0 = .ok (.aload_n 0, 1) := by decide +kernel
theorem dX0_init_1 : decode cX0_init 1 = .ok (.invokespecial 1, 3) := by decide +kernel
theorem dX0_init_4 : decode cX0_init 4 = .ok (.aload_n 0, 1) := by decide +kernel
theorem dX0_init_5 : decode cX0_init 5 = .ok (.ldc 9, 2) := by decide +kernel
theorem dX0_init_7 : decode cX0_init 7 = .ok (.putfield 10, 3) := by decide +kernel
theorem dX0_init_10 : decode cX0_init 10 = .ok (.aload_n 0, 1) := by decide +kernel
theorem dX0_init_11 : decode cX0_init 11 = .ok (.ldc 9, 2) := by decide +kernel
theorem dX0_init_13 : decode cX0_init 13 = .ok (.putfield 16, 3) := by decide +kernel
theorem dX0_init_16 : decode cX0_init 16 = .ok (.aload_n 0, 1) := by decide +kernel
theorem dX0_init_17 : decode cX0_init 17 = .ok (.ldc 19, 2) := by decide +kernel
theorem dX0_init_19 : decode cX0_init 19 = .ok (.putfield 20, 3) := by decide +kernel
theorem dX0_init_22 : decode cX0_init 22 = .ok (.aload_n 0, 1) := by decide +kernel
theorem dX0_init_23 : decode cX0_init 23 = .ok (.ldc 19, 2) := by decide +kernel
theorem dX0_init_25 : decode cX0_init 25 = .ok (.putfield 23, 3) := by decide +kernel
theorem dX0_init_28 : decode cX0_init 28 = .ok (.return_, 1) := by decide +kernel
theorem dX0_take_0 : decode cX0_take 0 = .ok (.aload_n 0, 1) := by decide +kernel
theorem dX0_take_1 : decode cX0_take 1 = .ok (.aload_n 0, 1) := by decide +kernel
theorem dX0_take_2 : decode cX0_take 2 = .ok (.getfield 10, 3) := by decide +kernel
theorem dX0_take_5 : decode cX0_take 5 = .ok (.iload_n 1, 1) := by decide +kernel
theorem dX0_take_6 : decode cX0_take 6 = .ok (.invokestatic 26, 3) := by decide +kernel
theorem dX0_take_9 : decode cX0_take 9 = .ok (.putfield 10, 3) := by decide +kernel
theorem dX0_take_12 : decode cX0_take 12 = .ok (.aload_n 0, 1) := by decide +kernel
theorem dX0_take_13 : decode cX0_take 13 = .ok (.aload_n 0, 1) := by decide +kernel
theorem dX0_take_14 : decode cX0_take 14 = .ok (.getfield 16, 3) := by decide +kernel
theorem dX0_take_17 : decode cX0_take 17 = .ok (.iload_n 2, 1) := by decide +kernel
theorem dX0_take_18 : decode cX0_take 18 = .ok (.invokestatic 26, 3) := by decide +kernel
theorem dX0_take_21 : decode cX0_take 21 = .ok (.putfield 16, 3) := by decide +kernel
theorem dX0_take_24 : decode cX0_take 24 = .ok (.aload_n 0, 1) := by decide +kernel
theorem dX0_take_25 : decode cX0_take 25 = .ok (.aload_n 0, 1) := by decide +kernel
theorem dX0_take_26 : decode cX0_take 26 = .ok (.getfield 20, 3) := by decide +kernel
theorem dX0_take_29 : decode cX0_take 29 = .ok (.iload_n 1, 1) := by decide +kernel
theorem dX0_take_30 : decode cX0_take 30 = .ok (.invokestatic 32, 3) := by decide +kernel
theorem dX0_take_33 : decode cX0_take 33 = .ok (.putfield 20, 3) := by decide +kernel
theorem dX0_take_36 : decode cX0_take 36 = .ok (.aload_n 0, 1) := by decide +kernel
theorem dX0_take_37 : decode cX0_take 37 = .ok (.aload_n 0, 1) := by decide +kernel
theorem dX0_take_38 : decode cX0_take 38 = .ok (.getfield 23, 3) := by decide +kernel
theorem dX0_take_41 : decode cX0_take 41 = .ok (.iload_n 2, 1) := by decide +kernel
theorem dX0_take_42 : decode cX0_take 42 = .ok (.invokestatic 32, 3) := by decide +kernel
theorem dX0_take_45 : decode cX0_take 45 = .ok (.putfield 23, 3) := by decide +kernel
theorem dX0_take_48 : decode cX0_take 48 = .ok (.return_, 1) := by decide +kernel
theorem dX0_has_0 : decode cX0_has 0 = .ok (.iload_n 1, 1) := by decide +kernel
theorem dX0_has_1 : decode cX0_has 1 = .ok (.aload_n 0, 1) := by decide +kernel
theorem dX0_has_2 : decode cX0_has 2 = .ok (.getfield 10, 3) := by decide +kernel
theorem dX0_has_5 : decode cX0_has 5 = .ok (.if_icmp .lt 31, 3) := by decide +kernel
theorem dX0_has_8 : decode cX0_has 8 = .ok (.iload_n 1, 1) := by decide +kernel
theorem dX0_has_9 : decode cX0_has 9 = .ok (.aload_n 0, 1) := by decide +kernel
theorem dX0_has_10 : decode cX0_has 10 = .ok (.getfield 20, 3) := by decide +kernel
theorem dX0_has_13 : decode cX0_has 13 = .ok (.if_icmp .gt 23, 3) := by decide +kernel
theorem dX0_has_16 : decode cX0_has 16 = .ok (.iload_n 2, 1) := by decide +kernel
theorem dX0_has_17 : decode cX0_has 17 = .ok (.aload_n 0, 1) := by decide +kernel
theorem dX0_has_18 : decode cX0_has 18 = .ok (.getfield 16, 3) := by decide +kernel
theorem dX0_has_21 : decode cX0_has 21 = .ok (.if_icmp .lt 15, 3) := by decide +kernel
theorem dX0_has_24 : decode cX0_has 24 = .ok (.iload_n 2, 1) := by decide +kernel
theorem dX0_has_25 : decode cX0_has 25 = .ok (.aload_n 0, 1) := by decide +kernel
theorem dX0_has_26 : decode cX0_has 26 = .ok (.getfield 23, 3) := by decide +kernel
theorem dX0_has_29 : decode cX0_has 29 = .ok (.if_icmp .gt 7, 3) := by decide +kernel
theorem dX0_has_32 : decode cX0_has 32 = .ok (.iconst 1, 1) := by decide +kernel
theorem dX0_has_33 : decode cX0_has 33 = .ok (.goto 4, 3) := by decide +kernel
theorem dX0_has_36 : decode cX0_has 36 = .ok (.iconst 0, 1) := by decide +kernel
theorem dX0_has_37 : decode cX0_has 37 = .ok (.ireturn, 1) := by decide +kernel
theorem dX0_isApartFrom_0 : decode cX0_isApartFrom 0 = .ok (.aload_n 0, 1) := by decide +kernel
theorem dX0_isApartFrom_1 : decode cX0_isApartFrom 1 = .ok (.getfield 10, 3) := by decide +kernel
theorem dX0_isApartFrom_4 : decode cX0_isApartFrom 4 = .ok (.aload_n 1, 1) := by decide +kernel
theorem dX0_isApartFrom_5 : decode cX0_isApartFrom 5 = .ok (.getfield 20, 3) := by decide +kernel
theorem dX0_isApartFrom_8 : decode cX0_isApartFrom 8 = .ok (.if_icmp .gt 36, 3) := by decide +kernel
theorem dX0_isApartFrom_11 : decode cX0_isApartFrom 11 = .ok (.aload_n 0, 1) := by decide +kernel
theorem dX0_isApartFrom_12 : decode cX0_isApartFrom 12 = .ok (.getfield 20, 3) := by decide +kernel
theorem dX0_isApartFrom_15 : decode cX0_isApartFrom 15 = .ok (.aload_n 1, 1) := by decide +kernel
theorem dX0_isApartFrom_16 : decode cX0_isApartFrom 16 = .ok (.getfield 10, 3) := by decide +kernel
theorem dX0_isApartFrom_19 : decode cX0_isApartFrom 19 = .ok (.if_icmp .lt 25, 3) := by decide +kernel
theorem dX0_isApartFrom_22 : decode cX0_isApartFrom 22 = .ok (.aload_n 0, 1) := by decide +kernel
theorem dX0_isApartFrom_23 : decode cX0_isApartFrom 23 = .ok (.getfield 16, 3) := by decide +kernel
theorem dX0_isApartFrom_26 : decode cX0_isApartFrom 26 = .ok (.aload_n 1, 1) := by decide +kernel
theorem dX0_isApartFrom_27 : decode cX0_isApartFrom 27 = .ok (.getfield 23, 3) := by decide +kernel
theorem dX0_isApartFrom_30 : decode cX0_isApartFrom 30 = .ok (.if_icmp .gt 14, 3) := by decide +kernel
theorem dX0_isApartFrom_33 : decode cX0_isApartFrom 33 = .ok (.aload_n 0, 1) := by decide +kernel
theorem dX0_isApartFrom_34 : decode cX0_isApartFrom 34 = .ok (.getfield 23, 3) := by decide +kernel
theorem dX0_isApartFrom_37 : decode cX0_isApartFrom 37 = .ok (.aload_n 1, 1) := by decide +kernel
theorem dX0_isApartFrom_38 : decode cX0_isApartFrom 38 = .ok (.getfield 16, 3) := by decide +kernel
theorem dX0_isApartFrom_41 : decode cX0_isApartFrom 41 = .ok (.if_icmp .ge 7, 3) := by decide +kernel
theorem dX0_isApartFrom_44 : decode cX0_isApartFrom 44 = .ok (.iconst 1, 1) := by decide +kernel
theorem dX0_isApartFrom_45 : decode cX0_isApartFrom 45 = .ok (.goto 4, 3) := by decide +kernel
theorem dX0_isApartFrom_48 : decode cX0_isApartFrom 48 = .ok (.iconst 0, 1) := by decide +kernel
theorem dX0_isApartFrom_49 : decode cX0_isApartFrom 49 = .ok (.ireturn, 1) := by decide +kernel
theorem dX1_init_0 : decode cX1_init 0 = .ok (.aload_n 0, 1) := by decide +kernel
theorem dX1_init_1 : decode cX1_init 1 = .ok (.invokespecial 3, 3) := by decide +kernel
theorem dX1_init_4 : decode cX1_init 4 = .ok (.aload_n 0, 1) := by decide +kernel
theorem dX1_init_5 : decode cX1_init 5 = .ok (.bipush 7, 2) := by decide +kernel
theorem dX1_init_7 : decode cX1_init 7 = .ok (.newarray .int, 2) := by decide +kernel
theorem dX1_init_9 : decode cX1_init 9 = .ok (.putfield 9, 3) := by decide +kernel
theorem dX1_init_12 : decode cX1_init 12 = .ok (.aload_n 0, 1) := by decide +kernel
theorem dX1_init_13 : decode cX1_init 13 = .ok (.getfield 9, 3) := by decide +kernel
theorem dX1_init_16 : decode cX1_init 16 = .ok (.iconst (-1), 1) := by decide +kernel
theorem dX1_init_17 : decode cX1_init 17 = .ok (.invokestatic 15, 3) := by decide +kernel
theorem dX1_init_20 : decode cX1_init 20 = .ok (.return_, 1) := by decide +kernel
theorem dX1_what_0 : decode cX1_what 0 = .ok (.aload_n 0, 1) := by decide +kernel
theorem dX1_what_1 : decode cX1_what 1 = .ok (.getfield 21, 3) := by decide +kernel
theorem dX1_what_4 : decode cX1_what 4 = .ok (.ireturn, 1) := by decide +kernel
theorem dX1_isMade_0 : decode cX1_isMade 0 = .ok (.aload_n 0, 1) := by decide +kernel
theorem dX1_isMade_1 : decode cX1_isMade 1 = .ok (.getfield 21, 3) := by decide +kernel
theorem dX1_isMade_4 : decode cX1_isMade 4 = .ok (.ifCond .eq 7, 3) := by decide +kernel
theorem dX1_isMade_7 : decode cX1_isMade 7 = .ok (.iconst 1, 1) := by decide +kernel
theorem dX1_isMade_8 : decode cX1_isMade 8 = .ok (.goto 4, 3) := by decide +kernel
theorem dX1_isMade_11 : decode cX1_isMade 11 = .ok (.iconst 0, 1) := by decide +kernel
theorem dX1_isMade_12 : decode cX1_isMade 12 = .ok (.ireturn, 1) := by decide +kernel
theorem dX1_where_0 : decode cX1_where 0 = .ok (.iload_n 1, 1) := by decide +kernel
theorem dX1_where_1 : decode cX1_where 1 = .ok (.ifCond .lt 21, 3) := by decide +kernel
theorem dX1_where_4 : decode cX1_where 4 = .ok (.iload_n 1, 1) := by decide +kernel
theorem dX1_where_5 : decode cX1_where 5 = .ok (.aload_n 0, 1) := by decide +kernel
theorem dX1_where_6 : decode cX1_where 6 = .ok (.getfield 9, 3) := by decide +kernel
theorem dX1_where_9 : decode cX1_where 9 = .ok (.arraylength, 1) := by decide +kernel
theorem dX1_where_10 : decode cX1_where 10 = .ok (.if_icmp .ge 12, 3) := by decide +kernel
theorem dX1_where_13 : decode cX1_where 13 = .ok (.aload_n 0, 1) := by decide +kernel
theorem dX1_where_14 : decode cX1_where 14 = .ok (.getfield 9, 3) := by decide +kernel
theorem dX1_where_17 : decode cX1_where 17 = .ok (.iload_n 1, 1) := by decide +kernel
theorem dX1_where_18 : decode cX1_where 18 = .ok (.iaload, 1) := by decide +kernel
theorem dX1_where_19 : decode cX1_where 19 = .ok (.goto 4, 3) := by decide +kernel
theorem dX1_where_22 : decode cX1_where 22 = .ok (.iconst (-1), 1) := by decide +kernel
theorem dX1_where_23 : decode cX1_where 23 = .ok (.ireturn, 1) := by decide +kernel
theorem dX1_forget_0 : decode cX1_forget 0 = .ok (.aload_n 0, 1) := by decide +kernel
theorem dX1_forget_1 : decode cX1_forget 1 = .ok (.iconst 0, 1) := by decide +kernel
theorem dX1_forget_2 : decode cX1_forget 2 = .ok (.putfield 21, 3) := by decide +kernel
theorem dX1_forget_5 : decode cX1_forget 5 = .ok (.aload_n 0, 1) := by decide +kernel
theorem dX1_forget_6 : decode cX1_forget 6 = .ok (.getfield 9, 3) := by decide +kernel
theorem dX1_forget_9 : decode cX1_forget 9 = .ok (.iconst (-1), 1) := by decide +kernel
theorem dX1_forget_10 : decode cX1_forget 10 = .ok (.invokestatic 15, 3) := by decide +kernel
theorem dX1_forget_13 : decode cX1_forget 13 = .ok (.return_, 1) := by decide +kernel
theorem dX1_tell_0 : decode cX1_tell 0 = .ok (.aload_n 0, 1) := by decide +kernel
theorem dX1_tell_1 : decode cX1_tell 1 = .ok (.iload_n 1, 1) := by decide +kernel
theorem dX1_tell_2 : decode cX1_tell 2 = .ok (.putfield 21, 3) := by decide +kernel
theorem dX1_tell_5 : decode cX1_tell 5 = .ok (.aload_n 0, 1) := by decide +kernel
theorem dX1_tell_6 : decode cX1_tell 6 = .ok (.getfield 9, 3) := by decide +kernel
theorem dX1_tell_9 : decode cX1_tell 9 = .ok (.iconst 0, 1) := by decide +kernel
theorem dX1_tell_10 : decode cX1_tell 10 = .ok (.iload_n 2, 1) := by decide +kernel
theorem dX1_tell_11 : decode cX1_tell 11 = .ok (.iastore, 1) := by decide +kernel
theorem dX1_tell_12 : decode cX1_tell 12 = .ok (.return_, 1) := by decide +kernel
theorem dX1_tellOne_0 : decode cX1_tellOne 0 = .ok (.aload_n 0, 1) := by decide +kernel
theorem dX1_tellOne_1 : decode cX1_tellOne 1 = .ok (.iconst 1, 1) := by decide +kernel
theorem dX1_tellOne_2 : decode cX1_tellOne 2 = .ok (.iload_n 1, 1) := by decide +kernel
theorem dX1_tellOne_3 : decode cX1_tellOne 3 = .ok (.iload_n 2, 1) := by decide +kernel
theorem dX1_tellOne_4 : decode cX1_tellOne 4 = .ok (.iload_n 3, 1) := by decide +kernel
theorem dX1_tellOne_5 : decode cX1_tellOne 5 = .ok (.invokevirtual 25, 3) := by decide +kernel
theorem dX1_tellOne_8 : decode cX1_tellOne 8 = .ok (.return_, 1) := by decide +kernel
theorem dX1_tellOther_0 : decode cX1_tellOther 0 = .ok (.aload_n 0, 1) := by decide +kernel
theorem dX1_tellOther_1 : decode cX1_tellOther 1 = .ok (.iconst 4, 1) := by decide +kernel
theorem dX1_tellOther_2 : decode cX1_tellOther 2 = .ok (.iload_n 1, 1) := by decide +kernel
theorem dX1_tellOther_3 : decode cX1_tellOther 3 = .ok (.iload_n 2, 1) := by decide +kernel
theorem dX1_tellOther_4 : decode cX1_tellOther 4 = .ok (.iload_n 3, 1) := by decide +kernel
theorem dX1_tellOther_5 : decode cX1_tellOther 5 = .ok (.invokevirtual 25, 3) := by decide +kernel
theorem dX1_tellOther_8 : decode cX1_tellOther 8 = .ok (.return_, 1) := by decide +kernel
theorem dX1_tellAt_0 : decode cX1_tellAt 0 = .ok (.iload_n 1, 1) := by decide +kernel
theorem dX1_tellAt_1 : decode cX1_tellAt 1 = .ok (.ifCond .lt 40, 3) := by decide +kernel
theorem dX1_tellAt_4 : decode cX1_tellAt 4 = .ok (.iload_n 1, 1) := by decide +kernel
theorem dX1_tellAt_5 : decode cX1_tellAt 5 = .ok (.iconst 2, 1) := by decide +kernel
theorem dX1_tellAt_6 : decode cX1_tellAt 6 = .ok (.iadd, 1) := by decide +kernel
theorem dX1_tellAt_7 : decode cX1_tellAt 7 = .ok (.aload_n 0, 1) := by decide +kernel
theorem dX1_tellAt_8 : decode cX1_tellAt 8 = .ok (.getfield 9, 3) := by decide +kernel
theorem dX1_tellAt_11 : decode cX1_tellAt 11 = .ok (.arraylength, 1) := by decide +kernel
theorem dX1_tellAt_12 : decode cX1_tellAt 12 = .ok (.if_icmp .ge 29, 3) := by decide +kernel
theorem dX1_tellAt_15 : decode cX1_tellAt 15 = .ok (.aload_n 0, 1) := by decide +kernel
theorem dX1_tellAt_16 : decode cX1_tellAt 16 = .ok (.getfield 9, 3) := by decide +kernel
theorem dX1_tellAt_19 : decode cX1_tellAt 19 = .ok (.iload_n 1, 1) := by decide +kernel
theorem dX1_tellAt_20 : decode cX1_tellAt 20 = .ok (.iload_n 2, 1) := by decide +kernel
theorem dX1_tellAt_21 : decode cX1_tellAt 21 = .ok (.iastore, 1) := by decide +kernel
theorem dX1_tellAt_22 : decode cX1_tellAt 22 = .ok (.aload_n 0, 1) := by decide +kernel
theorem dX1_tellAt_23 : decode cX1_tellAt 23 = .ok (.getfield 9, 3) := by decide +kernel
theorem dX1_tellAt_26 : decode cX1_tellAt 26 = .ok (.iload_n 1, 1) := by decide +kernel
theorem dX1_tellAt_27 : decode cX1_tellAt 27 = .ok (.iconst 1, 1) := by decide +kernel
theorem dX1_tellAt_28 : decode cX1_tellAt 28 = .ok (.iadd, 1) := by decide +kernel
theorem dX1_tellAt_29 : decode cX1_tellAt 29 = .ok (.iload_n 3, 1) := by decide +kernel
theorem dX1_tellAt_30 : decode cX1_tellAt 30 = .ok (.iastore, 1) := by decide +kernel
theorem dX1_tellAt_31 : decode cX1_tellAt 31 = .ok (.aload_n 0, 1) := by decide +kernel
theorem dX1_tellAt_32 : decode cX1_tellAt 32 = .ok (.getfield 9, 3) := by decide +kernel
theorem dX1_tellAt_35 : decode cX1_tellAt 35 = .ok (.iload_n 1, 1) := by decide +kernel
theorem dX1_tellAt_36 : decode cX1_tellAt 36 = .ok (.iconst 2, 1) := by decide +kernel
theorem dX1_tellAt_37 : decode cX1_tellAt 37 = .ok (.iadd, 1) := by decide +kernel
theorem dX1_tellAt_38 : decode cX1_tellAt 38 = .ok (.iload 4, 2) := by decide +kernel
theorem dX1_tellAt_40 : decode cX1_tellAt 40 = .ok (.iastore, 1) := by decide +kernel
theorem dX1_tellAt_41 : decode cX1_tellAt 41 = .ok (.return_, 1) := by decide +kernel
theorem dX2_init_0 : decode cX2_init 0 = .ok (.aload_n 0, 1) := by decide +kernel
theorem dX2_init_1 : decode cX2_init 1 = .ok (.invokespecial 3, 3) := by decide +kernel
theorem dX2_init_4 : decode cX2_init 4 = .ok (.aload_n 0, 1) := by decide +kernel
theorem dX2_init_5 : decode cX2_init 5 = .ok (.aload_n 1, 1) := by decide +kernel
theorem dX2_init_6 : decode cX2_init 6 = .ok (.putfield 9, 3) := by decide +kernel
theorem dX2_init_9 : decode cX2_init 9 = .ok (.aload_n 0, 1) := by decide +kernel
theorem dX2_init_10 : decode cX2_init 10 = .ok (.aload_n 2, 1) := by decide +kernel
theorem dX2_init_11 : decode cX2_init 11 = .ok (.putfield 15, 3) := by decide +kernel
theorem dX2_init_14 : decode cX2_init 14 = .ok (.aload_n 0, 1) := by decide +kernel
theorem dX2_init_15 : decode cX2_init 15 = .ok (.new 19, 3) := by decide +kernel
theorem dX2_init_18 : decode cX2_init 18 = .ok (.dup, 1) := by decide +kernel
theorem dX2_init_19 : decode cX2_init 19 = .ok (.invokespecial 21, 3) := by decide +kernel
theorem dX2_init_22 : decode cX2_init 22 = .ok (.putfield 22, 3) := by decide +kernel
theorem dX2_init_25 : decode cX2_init 25 = .ok (.return_, 1) := by decide +kernel
theorem dX2_inspect_0 : decode cX2_inspect 0 = .ok (.aload_n 0, 1) := by decide +kernel
theorem dX2_inspect_1 : decode cX2_inspect 1 = .ok (.iload_n 1, 1) := by decide +kernel
theorem dX2_inspect_2 : decode cX2_inspect 2 = .ok (.putfield 26, 3) := by decide +kernel
theorem dX2_inspect_5 : decode cX2_inspect 5 = .ok (.aload_n 0, 1) := by decide +kernel
theorem dX2_inspect_6 : decode cX2_inspect 6 = .ok (.getfield 9, 3) := by decide +kernel
theorem dX2_inspect_9 : decode cX2_inspect 9 = .ok (.aload_n 0, 1) := by decide +kernel
theorem dX2_inspect_10 : decode cX2_inspect 10 = .ok (.getfield 26, 3) := by decide +kernel
theorem dX2_inspect_13 : decode cX2_inspect 13 = .ok (.invokevirtual 30, 3) := by decide +kernel
theorem dX2_inspect_16 : decode cX2_inspect 16 = .ok (.iconst 2, 1) := by decide +kernel
theorem dX2_inspect_17 : decode cX2_inspect 17 = .ok (.if_icmp .ne 8, 3) := by decide +kernel
theorem dX2_inspect_20 : decode cX2_inspect 20 = .ok (.aload_n 0, 1) := by decide +kernel
theorem dX2_inspect_21 : decode cX2_inspect 21 = .ok (.invokevirtual 36, 3) := by decide +kernel
theorem dX2_inspect_24 : decode cX2_inspect 24 = .ok (.return_, 1) := by decide +kernel
theorem dX2_inspect_25 : decode cX2_inspect 25 = .ok (.aload_n 0, 1) := by decide +kernel
theorem dX2_inspect_26 : decode cX2_inspect 26 = .ok (.getfield 9, 3) := by decide +kernel
theorem dX2_inspect_29 : decode cX2_inspect 29 = .ok (.aload_n 0, 1) := by decide +kernel
theorem dX2_inspect_30 : decode cX2_inspect 30 = .ok (.getfield 26, 3) := by decide +kernel
theorem dX2_inspect_33 : decode cX2_inspect 33 = .ok (.invokevirtual 39, 3) := by decide +kernel
theorem dX2_inspect_36 : decode cX2_inspect 36 = .ok (.astore_n 2, 1) := by decide +kernel
theorem dX2_inspect_37 : decode cX2_inspect 37 = .ok (.iconst 0, 1) := by decide +kernel
theorem dX2_inspect_38 : decode cX2_inspect 38 = .ok (.istore_n 3, 1) := by decide +kernel
theorem dX2_inspect_39 : decode cX2_inspect 39 = .ok (.iconst 0, 1) := by decide +kernel
theorem dX2_inspect_40 : decode cX2_inspect 40 = .ok (.istore 4, 2) := by decide +kernel
theorem dX2_inspect_42 : decode cX2_inspect 42 = .ok (.iload 4, 2) := by decide +kernel
theorem dX2_inspect_44 : decode cX2_inspect 44 = .ok (.aload_n 2, 1) := by decide +kernel
theorem dX2_inspect_45 : decode cX2_inspect 45 = .ok (.arraylength, 1) := by decide +kernel
theorem dX2_inspect_46 : decode cX2_inspect 46 = .ok (.if_icmp .ge 74, 3) := by decide +kernel
theorem dX2_inspect_49 : decode cX2_inspect 49 = .ok (.iload_n 3, 1) := by decide +kernel
theorem dX2_inspect_50 : decode cX2_inspect 50 = .ok (.ifCond .ne 70, 3) := by decide +kernel
theorem dX2_inspect_53 : decode cX2_inspect 53 = .ok (.aload_n 2, 1) := by decide +kernel
theorem dX2_inspect_54 : decode cX2_inspect 54 = .ok (.iload 4, 2) := by decide +kernel
theorem dX2_inspect_56 : decode cX2_inspect 56 = .ok (.aaload, 1) := by decide +kernel
theorem dX2_inspect_57 : decode cX2_inspect 57 = .ok (.astore 5, 2) := by decide +kernel
theorem dX2_inspect_59 : decode cX2_inspect 59 = .ok (.aload_n 0, 1) := by decide +kernel
theorem dX2_inspect_60 : decode cX2_inspect 60 = .ok (.aload 5, 2) := by decide +kernel
theorem dX2_inspect_62 : decode cX2_inspect 62 = .ok (.invokevirtual 43, 3) := by decide +kernel
theorem dX2_inspect_65 : decode cX2_inspect 65 = .ok (.ifCond .ne 43, 3) := by decide +kernel
theorem dX2_inspect_68 : decode cX2_inspect 68 = .ok (.aload_n 0, 1) := by decide +kernel
theorem dX2_inspect_69 : decode cX2_inspect 69 = .ok (.aload 5, 2) := by decide +kernel
theorem dX2_inspect_71 : decode cX2_inspect 71 = .ok (.getfield 47, 3) := by decide +kernel
theorem dX2_inspect_74 : decode cX2_inspect 74 = .ok (.iconst 0, 1) := by decide +kernel
theorem dX2_inspect_75 : decode cX2_inspect 75 = .ok (.invokevirtual 53, 3) := by decide +kernel
theorem dX2_inspect_78 : decode cX2_inspect 78 = .ok (.ifCond .ne 30, 3) := by decide +kernel
theorem dX2_inspect_81 : decode cX2_inspect 81 = .ok (.aload_n 0, 1) := by decide +kernel
theorem dX2_inspect_82 : decode cX2_inspect 82 = .ok (.aload 5, 2) := by decide +kernel
theorem dX2_inspect_84 : decode cX2_inspect 84 = .ok (.invokevirtual 57, 3) := by decide +kernel
theorem dX2_inspect_87 : decode cX2_inspect 87 = .ok (.ifCond .ne 21, 3) := by decide +kernel
theorem dX2_inspect_90 : decode cX2_inspect 90 = .ok (.aload_n 0, 1) := by decide +kernel
theorem dX2_inspect_91 : decode cX2_inspect 91 = .ok (.aload 5, 2) := by decide +kernel
theorem dX2_inspect_93 : decode cX2_inspect 93 = .ok (.invokevirtual 60, 3) := by decide +kernel
theorem dX2_inspect_96 : decode cX2_inspect 96 = .ok (.ifCond .ne 12, 3) := by decide +kernel
theorem dX2_inspect_99 : decode cX2_inspect 99 = .ok (.aload_n 0, 1) := by decide +kernel
theorem dX2_inspect_100 : decode cX2_inspect 100 = .ok (.aload 5, 2) := by decide +kernel
theorem dX2_inspect_102 : decode cX2_inspect 102 = .ok (.invokevirtual 63, 3) := by decide +kernel
theorem dX2_inspect_105 : decode cX2_inspect 105 = .ok (.ifCond .eq 7, 3) := by decide +kernel
theorem dX2_inspect_108 : decode cX2_inspect 108 = .ok (.iconst 1, 1) := by decide +kernel
theorem dX2_inspect_109 : decode cX2_inspect 109 = .ok (.goto 4, 3) := by decide +kernel
theorem dX2_inspect_112 : decode cX2_inspect 112 = .ok (.iconst 0, 1) := by decide +kernel
theorem dX2_inspect_113 : decode cX2_inspect 113 = .ok (.istore_n 3, 1) := by decide +kernel
theorem dX2_inspect_114 : decode cX2_inspect 114 = .ok (.iinc 4 1, 3) := by decide +kernel
theorem dX2_inspect_117 : decode cX2_inspect 117 = .ok (.goto (-75), 3) := by decide +kernel
theorem dX2_inspect_120 : decode cX2_inspect 120 = .ok (.iload_n 3, 1) := by decide +kernel
theorem dX2_inspect_121 : decode cX2_inspect 121 = .ok (.ifCond .ne 26, 3) := by decide +kernel
theorem dX2_inspect_124 : decode cX2_inspect 124 = .ok (.aload_n 2, 1) := by decide +kernel
theorem dX2_inspect_125 : decode cX2_inspect 125 = .ok (.arraylength, 1) := by decide +kernel
theorem dX2_inspect_126 : decode cX2_inspect 126 = .ok (.iconst 1, 1) := by decide +kernel
theorem dX2_inspect_127 : decode cX2_inspect 127 = .ok (.if_icmp .le 20, 3) := by decide +kernel
theorem dX2_inspect_130 : decode cX2_inspect 130 = .ok (.aload_n 0, 1) := by decide +kernel
theorem dX2_inspect_131 : decode cX2_inspect 131 = .ok (.aload_n 2, 1) := by decide +kernel
theorem dX2_inspect_132 : decode cX2_inspect 132 = .ok (.invokestatic 66, 3) := by decide +kernel
theorem dX2_inspect_135 : decode cX2_inspect 135 = .ok (.iconst 1, 1) := by decide +kernel
theorem dX2_inspect_136 : decode cX2_inspect 136 = .ok (.invokevirtual 53, 3) := by decide +kernel
theorem dX2_inspect_139 : decode cX2_inspect 139 = .ok (.ifCond .ne 8, 3) := by decide +kernel
theorem dX2_inspect_142 : decode cX2_inspect 142 = .ok (.aload_n 0, 1) := by decide +kernel
theorem dX2_inspect_143 : decode cX2_inspect 143 = .ok (.aload_n 2, 1) := by decide +kernel
theorem dX2_inspect_144 : decode cX2_inspect 144 = .ok (.invokevirtual 70, 3) := by decide +kernel
theorem dX2_inspect_147 : decode cX2_inspect 147 = .ok (.return_, 1) := by decide +kernel
theorem dX2_inspectLine_0 : decode cX2_inspectLine 0 = .ok (.aload_n 0, 1) := by decide +kernel
theorem dX2_inspectLine_1 : decode cX2_inspectLine 1 = .ok (.getfield 9, 3) := by decide +kernel
theorem dX2_inspectLine_4 : decode cX2_inspectLine 4 = .ok (.aload_n 0, 1) := by decide +kernel
theorem dX2_inspectLine_5 : decode cX2_inspectLine 5 = .ok (.getfield 26, 3) := by decide +kernel
theorem dX2_inspectLine_8 : decode cX2_inspectLine 8 = .ok (.invokevirtual 74, 3) := by decide +kernel
theorem dX2_inspectLine_11 : decode cX2_inspectLine 11 = .ok (.iconst 1, 1) := by decide +kernel
theorem dX2_inspectLine_12 : decode cX2_inspectLine 12 = .ok (.if_icmp .ne 15, 3) := by decide +kernel
theorem dX2_inspectLine_15 : decode cX2_inspectLine 15 = .ok (.aload_n 0, 1) := by decide +kernel
theorem dX2_inspectLine_16 : decode cX2_inspectLine 16 = .ok (.getfield 15, 3) := by decide +kernel
theorem dX2_inspectLine_19 : decode cX2_inspectLine 19 = .ok (.iconst 2, 1) := by decide +kernel
theorem dX2_inspectLine_20 : decode cX2_inspectLine 20 = .ok (.aload_n 0, 1) := by decide +kernel
theorem dX2_inspectLine_21 : decode cX2_inspectLine 21 = .ok (.getfield 26, 3) := by decide +kernel
theorem dX2_inspectLine_24 : decode cX2_inspectLine 24 = .ok (.invokevirtual 77, 3) := by decide +kernel
theorem dX2_inspectLine_27 : decode cX2_inspectLine 27 = .ok (.return_, 1) := by decide +kernel
theorem dX2_allRings_0 : decode cX2_allRings 0 = .ok (.iconst 0, 1) := by decide +kernel
theorem dX2_allRings_1 : decode cX2_allRings 1 = .ok (.istore_n 1, 1) := by decide +kernel
theorem dX2_allRings_2 : decode cX2_allRings 2 = .ok (.iconst 0, 1) := by decide +kernel
theorem dX2_allRings_3 : decode cX2_allRings 3 = .ok (.istore_n 2, 1) := by decide +kernel
theorem dX2_allRings_4 : decode cX2_allRings 4 = .ok (.iload_n 2, 1) := by decide +kernel
theorem dX2_allRings_5 : decode cX2_allRings 5 = .ok (.aload_n 0, 1) := by decide +kernel
theorem dX2_allRings_6 : decode cX2_allRings 6 = .ok (.arraylength, 1) := by decide +kernel
theorem dX2_allRings_7 : decode cX2_allRings 7 = .ok (.if_icmp .ge 19, 3) := by decide +kernel
theorem dX2_allRings_10 : decode cX2_allRings 10 = .ok (.iload_n 1, 1) := by decide +kernel
theorem dX2_allRings_11 : decode cX2_allRings 11 = .ok (.aload_n 0, 1) := by decide +kernel
theorem dX2_allRings_12 : decode cX2_allRings 12 = .ok (.iload_n 2, 1) := by decide +kernel
theorem dX2_allRings_13 : decode cX2_allRings 13 = .ok (.aaload, 1) := by decide +kernel
theorem dX2_allRings_14 : decode cX2_allRings 14 = .ok (.getfield 47, 3) := by decide +kernel
theorem dX2_allRings_17 : decode cX2_allRings 17 = .ok (.arraylength, 1) := by decide +kernel
theorem dX2_allRings_18 : decode cX2_allRings 18 = .ok (.iadd, 1) := by decide +kernel
theorem dX2_allRings_19 : decode cX2_allRings 19 = .ok (.istore_n 1, 1) := by decide +kernel
theorem dX2_allRings_20 : decode cX2_allRings 20 = .ok (.iinc 2 1, 3) := by decide +kernel
theorem dX2_allRings_23 : decode cX2_allRings 23 = .ok (.goto (-19), 3) := by decide +kernel
theorem dX2_allRings_26 : decode cX2_allRings 26 = .ok (.iload_n 1, 1) := by decide +kernel
theorem dX2_allRings_27 : decode cX2_allRings 27 = .ok (.anewarray 83, 3) := by decide +kernel
theorem dX2_allRings_30 : decode cX2_allRings 30 = .ok (.astore_n 2, 1) := by decide +kernel
theorem dX2_allRings_31 : decode cX2_allRings 31 = .ok (.iconst 0, 1) := by decide +kernel
theorem dX2_allRings_32 : decode cX2_allRings 32 = .ok (.istore_n 3, 1) := by decide +kernel
theorem dX2_allRings_33 : decode cX2_allRings 33 = .ok (.iconst 0, 1) := by decide +kernel
theorem dX2_allRings_34 : decode cX2_allRings 34 = .ok (.istore 4, 2) := by decide +kernel
theorem dX2_allRings_36 : decode cX2_allRings 36 = .ok (.iload 4, 2) := by decide +kernel
theorem dX2_allRings_38 : decode cX2_allRings 38 = .ok (.aload_n 0, 1) := by decide +kernel
theorem dX2_allRings_39 : decode cX2_allRings 39 = .ok (.arraylength, 1) := by decide +kernel
theorem dX2_allRings_40 : decode cX2_allRings 40 = .ok (.if_icmp .ge 51, 3) := by decide +kernel
theorem dX2_allRings_43 : decode cX2_allRings 43 = .ok (.aload_n 0, 1) := by decide +kernel
theorem dX2_allRings_44 : decode cX2_allRings 44 = .ok (.iload 4, 2) := by decide +kernel
theorem dX2_allRings_46 : decode cX2_allRings 46 = .ok (.aaload, 1) := by decide +kernel
theorem dX2_allRings_47 : decode cX2_allRings 47 = .ok (.getfield 47, 3) := by decide +kernel
theorem dX2_allRings_50 : decode cX2_allRings 50 = .ok (.astore 5, 2) := by decide +kernel
theorem dX2_allRings_52 : decode cX2_allRings 52 = .ok (.iconst 0, 1) := by decide +kernel
theorem dX2_allRings_53 : decode cX2_allRings 53 = .ok (.istore 6, 2) := by decide +kernel
theorem dX2_allRings_55 : decode cX2_allRings 55 = .ok (.iload 6, 2) := by decide +kernel
theorem dX2_allRings_57 : decode cX2_allRings 57 = .ok (.aload 5, 2) := by decide +kernel
theorem dX2_allRings_59 : decode cX2_allRings 59 = .ok (.arraylength, 1) := by decide +kernel
theorem dX2_allRings_60 : decode cX2_allRings 60 = .ok (.if_icmp .ge 25, 3) := by decide +kernel
theorem dX2_allRings_63 : decode cX2_allRings 63 = .ok (.iload_n 3, 1) := by decide +kernel
theorem dX2_allRings_64 : decode cX2_allRings 64 = .ok (.iload_n 1, 1) := by decide +kernel
theorem dX2_allRings_65 : decode cX2_allRings 65 = .ok (.if_icmp .ge 20, 3) := by decide +kernel
theorem dX2_allRings_68 : decode cX2_allRings 68 = .ok (.aload_n 2, 1) := by decide +kernel
theorem dX2_allRings_69 : decode cX2_allRings 69 = .ok (.iload_n 3, 1) := by decide +kernel
theorem dX2_allRings_70 : decode cX2_allRings 70 = .ok (.aload 5, 2) := by decide +kernel
theorem dX2_allRings_72 : decode cX2_allRings 72 = .ok (.iload 6, 2) := by decide +kernel
theorem dX2_allRings_74 : decode cX2_allRings 74 = .ok (.aaload, 1) := by decide +kernel
theorem dX2_allRings_75 : decode cX2_allRings 75 = .ok (.aastore, 1) := by decide +kernel
theorem dX2_allRings_76 : decode cX2_allRings 76 = .ok (.iinc 3 1, 3) := by decide +kernel
theorem dX2_allRings_79 : decode cX2_allRings 79 = .ok (.iinc 6 1, 3) := by decide +kernel
theorem dX2_allRings_82 : decode cX2_allRings 82 = .ok (.goto (-27), 3) := by decide +kernel
theorem dX2_allRings_85 : decode cX2_allRings 85 = .ok (.iinc 4 1, 3) := by decide +kernel
theorem dX2_allRings_88 : decode cX2_allRings 88 = .ok (.goto (-52), 3) := by decide +kernel
theorem dX2_allRings_91 : decode cX2_allRings 91 = .ok (.aload_n 2, 1) := by decide +kernel
theorem dX2_allRings_92 : decode cX2_allRings 92 = .ok (.areturn, 1) := by decide +kernel
theorem dX2_inspectRings_0 : decode cX2_inspectRings 0 = .ok (.iconst 0, 1) := by decide +kernel
theorem dX2_inspectRings_1 : decode cX2_inspectRings 1 = .ok (.istore_n 2, 1) := by decide +kernel
theorem dX2_inspectRings_2 : decode cX2_inspectRings 2 = .ok (.iload_n 2, 1) := by decide +kernel
theorem dX2_inspectRings_3 : decode cX2_inspectRings 3 = .ok (.aload_n 1, 1) := by decide +kernel
theorem dX2_inspectRings_4 : decode cX2_inspectRings 4 = .ok (.getfield 47, 3) := by decide +kernel
theorem dX2_inspectRings_7 : decode cX2_inspectRings 7 = .ok (.arraylength, 1) := by decide +kernel
theorem dX2_inspectRings_8 : decode cX2_inspectRings 8 = .ok (.if_icmp .ge 69, 3) := by decide +kernel
theorem dX2_inspectRings_11 : decode cX2_inspectRings 11 = .ok (.aload_n 1, 1) := by decide +kernel
theorem dX2_inspectRings_12 : decode cX2_inspectRings 12 = .ok (.getfield 47, 3) := by decide +kernel
theorem dX2_inspectRings_15 : decode cX2_inspectRings 15 = .ok (.iload_n 2, 1) := by decide +kernel
theorem dX2_inspectRings_16 : decode cX2_inspectRings 16 = .ok (.aaload, 1) := by decide +kernel
theorem dX2_inspectRings_17 : decode cX2_inspectRings 17 = .ok (.astore_n 3, 1) := by decide +kernel
theorem dX2_inspectRings_18 : decode cX2_inspectRings 18 = .ok (.aload_n 3, 1) := by decide +kernel
theorem dX2_inspectRings_19 : decode cX2_inspectRings 19 = .ok (.getfield 85, 3) := by decide +kernel
theorem dX2_inspectRings_22 : decode cX2_inspectRings 22 = .ok (.ifCond .eq 11, 3) := by decide +kernel
theorem dX2_inspectRings_25 : decode cX2_inspectRings 25 = .ok (.aload_n 3, 1) := by decide +kernel
theorem dX2_inspectRings_26 : decode cX2_inspectRings 26 = .ok (.getfield 89, 3) := by decide +kernel
theorem dX2_inspectRings_29 : decode cX2_inspectRings 29 = .ok (.iconst 3, 1) := by decide +kernel
theorem dX2_inspectRings_30 : decode cX2_inspectRings 30 = .ok (.if_icmp .ge 41, 3) := by decide +kernel
theorem dX2_inspectRings_33 : decode cX2_inspectRings 33 = .ok (.aload_n 0, 1) := by decide +kernel
theorem dX2_inspectRings_34 : decode cX2_inspectRings 34 = .ok (.getfield 15, 3) := by decide +kernel
theorem dX2_inspectRings_37 : decode cX2_inspectRings 37 = .ok (.aload_n 3, 1) := by decide +kernel
theorem dX2_inspectRings_38 : decode cX2_inspectRings 38 = .ok (.getfield 85, 3) := by decide +kernel
theorem dX2_inspectRings_41 : decode cX2_inspectRings 41 = .ok (.ifCond .eq 7, 3) := by decide +kernel
theorem dX2_inspectRings_44 : decode cX2_inspectRings 44 = .ok (.iconst 2, 1) := by decide +kernel
theorem dX2_inspectRings_45 : decode cX2_inspectRings 45 = .ok (.goto 4, 3) := by decide +kernel
theorem dX2_inspectRings_48 : decode cX2_inspectRings 48 = .ok (.iconst 1, 1) := by decide +kernel
theorem dX2_inspectRings_49 : decode cX2_inspectRings 49 = .ok (.aload_n 0, 1) := by decide +kernel
theorem dX2_inspectRings_50 : decode cX2_inspectRings 50 = .ok (.getfield 26, 3) := by decide +kernel
theorem dX2_inspectRings_53 : decode cX2_inspectRings 53 = .ok (.invokevirtual 77, 3) := by decide +kernel
theorem dX2_inspectRings_56 : decode cX2_inspectRings 56 = .ok (.aload_n 0, 1) := by decide +kernel
theorem dX2_inspectRings_57 : decode cX2_inspectRings 57 = .ok (.getfield 15, 3) := by decide +kernel
theorem dX2_inspectRings_60 : decode cX2_inspectRings 60 = .ok (.aload_n 1, 1) := by decide +kernel
theorem dX2_inspectRings_61 : decode cX2_inspectRings 61 = .ok (.getfield 92, 3) := by decide +kernel
theorem dX2_inspectRings_64 : decode cX2_inspectRings 64 = .ok (.iload_n 2, 1) := by decide +kernel
theorem dX2_inspectRings_65 : decode cX2_inspectRings 65 = .ok (.iconst (-1), 1) := by decide +kernel
theorem dX2_inspectRings_66 : decode cX2_inspectRings 66 = .ok (.invokevirtual 95, 3) := by decide +kernel
theorem dX2_inspectRings_69 : decode cX2_inspectRings 69 = .ok (.iconst 1, 1) := by decide +kernel
theorem dX2_inspectRings_70 : decode cX2_inspectRings 70 = .ok (.ireturn, 1) := by decide +kernel
theorem dX2_inspectRings_71 : decode cX2_inspectRings 71 = .ok (.iinc 2 1, 3) := by decide +kernel
theorem dX2_inspectRings_74 : decode cX2_inspectRings 74 = .ok (.goto (-72), 3) := by decide +kernel
theorem dX2_inspectRings_77 : decode cX2_inspectRings 77 = .ok (.iconst 0, 1) := by decide +kernel
theorem dX2_inspectRings_78 : decode cX2_inspectRings 78 = .ok (.ireturn, 1) := by decide +kernel
theorem dX2_inspectSegments_0 : decode cX2_inspectSegments 0 = .ok (.iconst 0, 1) := by decide +kernel
theorem dX2_inspectSegments_1 : decode cX2_inspectSegments 1 = .ok (.istore_n 3, 1) := by decide +kernel
theorem dX2_inspectSegments_2 : decode cX2_inspectSegments 2 = .ok (.iload_n 3, 1) := by decide +kernel
theorem dX2_inspectSegments_3 : decode cX2_inspectSegments 3 = .ok (.aload_n 1, 1) := by decide +kernel
theorem dX2_inspectSegments_4 : decode cX2_inspectSegments 4 = .ok (.arraylength, 1) := by decide +kernel
theorem dX2_inspectSegments_5 : decode cX2_inspectSegments 5 = .ok (.if_icmp .ge 116, 3) := by decide +kernel
theorem dX2_inspectSegments_8 : decode cX2_inspectSegments 8 = .ok (.aload_n 1, 1) := by decide +kernel
theorem dX2_inspectSegments_9 : decode cX2_inspectSegments 9 = .ok (.iload_n 3, 1) := by decide +kernel
theorem dX2_inspectSegments_10 : decode cX2_inspectSegments 10 = .ok (.aaload, 1) := by decide +kernel
theorem dX2_inspectSegments_11 : decode cX2_inspectSegments 11 = .ok (.astore 4, 2) := by decide +kernel
theorem dX2_inspectSegments_13 : decode cX2_inspectSegments 13 = .ok (.iconst 0, 1) := by decide +kernel
theorem dX2_inspectSegments_14 : decode cX2_inspectSegments 14 = .ok (.istore 5, 2) := by decide +kernel
theorem dX2_inspectSegments_16 : decode cX2_inspectSegments 16 = .ok (.iload 5, 2) := by decide +kernel
theorem dX2_inspectSegments_18 : decode cX2_inspectSegments 18 = .ok (.aload 4, 2) := by decide +kernel
theorem dX2_inspectSegments_20 : decode cX2_inspectSegments 20 = .ok (.getfield 99, 3) := by decide +kernel
theorem dX2_inspectSegments_23 : decode cX2_inspectSegments 23 = .ok (.if_icmp .ge 92, 3) := by decide +kernel
theorem dX2_inspectSegments_26 : decode cX2_inspectSegments 26 = .ok (.iload_n 3, 1) := by decide +kernel
theorem dX2_inspectSegments_27 : decode cX2_inspectSegments 27 = .ok (.istore 6, 2) := by decide +kernel
theorem dX2_inspectSegments_29 : decode cX2_inspectSegments 29 = .ok (.iload 6, 2) := by decide +kernel
theorem dX2_inspectSegments_31 : decode cX2_inspectSegments 31 = .ok (.aload_n 1, 1) := by decide +kernel
theorem dX2_inspectSegments_32 : decode cX2_inspectSegments 32 = .ok (.arraylength, 1) := by decide +kernel
theorem dX2_inspectSegments_33 : decode cX2_inspectSegments 33 = .ok (.if_icmp .ge 76, 3) := by decide +kernel
theorem dX2_inspectSegments_36 : decode cX2_inspectSegments 36 = .ok (.aload 4, 2) := by decide +kernel
theorem dX2_inspectSegments_38 : decode cX2_inspectSegments 38 = .ok (.getfield 102, 3) := by decide +kernel
theorem dX2_inspectSegments_41 : decode cX2_inspectSegments 41 = .ok (.aload_n 1, 1) := by decide +kernel
theorem dX2_inspectSegments_42 : decode cX2_inspectSegments 42 = .ok (.iload 6, 2) := by decide +kernel
theorem dX2_inspectSegments_44 : decode cX2_inspectSegments 44 = .ok (.aaload, 1) := by decide +kernel
theorem dX2_inspectSegments_45 : decode cX2_inspectSegments 45 = .ok (.getfield 102, 3) := by decide +kernel
theorem dX2_inspectSegments_48 : decode cX2_inspectSegments 48 = .ok (.if_icmp .eq 7, 3) := by decide +kernel
theorem dX2_inspectSegments_51 : decode cX2_inspectSegments 51 = .ok (.iconst 1, 1) := by decide +kernel
theorem dX2_inspectSegments_52 : decode cX2_inspectSegments 52 = .ok (.goto 4, 3) := by decide +kernel
theorem dX2_inspectSegments_55 : decode cX2_inspectSegments 55 = .ok (.iconst 0, 1) := by decide +kernel
theorem dX2_inspectSegments_56 : decode cX2_inspectSegments 56 = .ok (.istore 7, 2) := by decide +kernel
theorem dX2_inspectSegments_58 : decode cX2_inspectSegments 58 = .ok (.iload_n 3, 1) := by decide +kernel
theorem dX2_inspectSegments_59 : decode cX2_inspectSegments 59 = .ok (.iload 6, 2) := by decide +kernel
theorem dX2_inspectSegments_61 : decode cX2_inspectSegments 61 = .ok (.if_icmp .ne 10, 3) := by decide +kernel
theorem dX2_inspectSegments_64 : decode cX2_inspectSegments 64 = .ok (.iload 5, 2) := by decide +kernel
theorem dX2_inspectSegments_66 : decode cX2_inspectSegments 66 = .ok (.iconst 1, 1) := by decide +kernel
theorem dX2_inspectSegments_67 : decode cX2_inspectSegments 67 = .ok (.iadd, 1) := by decide +kernel
theorem dX2_inspectSegments_68 : decode cX2_inspectSegments 68 = .ok (.goto 4, 3) := by decide +kernel
theorem dX2_inspectSegments_71 : decode cX2_inspectSegments 71 = .ok (.iconst 0, 1) := by decide +kernel
theorem dX2_inspectSegments_72 : decode cX2_inspectSegments 72 = .ok (.istore 8, 2) := by decide +kernel
theorem dX2_inspectSegments_74 : decode cX2_inspectSegments 74 = .ok (.iload 7, 2) := by decide +kernel
theorem dX2_inspectSegments_76 : decode cX2_inspectSegments 76 = .ok (.iload_n 2, 1) := by decide +kernel
theorem dX2_inspectSegments_77 : decode cX2_inspectSegments 77 = .ok (.if_icmp .ne 26, 3) := by decide +kernel
theorem dX2_inspectSegments_80 : decode cX2_inspectSegments 80 = .ok (.aload_n 0, 1) := by decide +kernel
theorem dX2_inspectSegments_81 : decode cX2_inspectSegments 81 = .ok (.aload 4, 2) := by decide +kernel
theorem dX2_inspectSegments_83 : decode cX2_inspectSegments 83 = .ok (.getfield 103, 3) := by decide +kernel
theorem dX2_inspectSegments_86 : decode cX2_inspectSegments 86 = .ok (.iload 5, 2) := by decide +kernel
theorem dX2_inspectSegments_88 : decode cX2_inspectSegments 88 = .ok (.aaload, 1) := by decide +kernel
theorem dX2_inspectSegments_89 : decode cX2_inspectSegments 89 = .ok (.aload_n 1, 1) := by decide +kernel
theorem dX2_inspectSegments_90 : decode cX2_inspectSegments 90 = .ok (.iload 6, 2) := by decide +kernel
theorem dX2_inspectSegments_92 : decode cX2_inspectSegments 92 = .ok (.aaload, 1) := by decide +kernel
theorem dX2_inspectSegments_93 : decode cX2_inspectSegments 93 = .ok (.iload 8, 2) := by decide +kernel
theorem dX2_inspectSegments_95 : decode cX2_inspectSegments 95 = .ok (.invokevirtual 107, 3) := by decide +kernel
theorem dX2_inspectSegments_98 : decode cX2_inspectSegments 98 = .ok (.ifCond .eq 5, 3) := by decide +kernel
theorem dX2_inspectSegments_101 : decode cX2_inspectSegments 101 = .ok (.iconst 1, 1) := by decide +kernel
theorem dX2_inspectSegments_102 : decode cX2_inspectSegments 102 = .ok (.ireturn, 1) := by decide +kernel
theorem dX2_inspectSegments_103 : decode cX2_inspectSegments 103 = .ok (.iinc 6 1, 3) := by decide +kernel
theorem dX2_inspectSegments_106 : decode cX2_inspectSegments 106 = .ok (.goto (-77), 3) := by decide +kernel
theorem dX2_inspectSegments_109 : decode cX2_inspectSegments 109 = .ok (.iinc 5 1, 3) := by decide +kernel
theorem dX2_inspectSegments_112 : decode cX2_inspectSegments 112 = .ok (.goto (-96), 3) := by decide +kernel
theorem dX2_inspectSegments_115 : decode cX2_inspectSegments 115 = .ok (.iinc 3 1, 3) := by decide +kernel
theorem dX2_inspectSegments_118 : decode cX2_inspectSegments 118 = .ok (.goto (-116), 3) := by decide +kernel
theorem dX2_inspectSegments_121 : decode cX2_inspectSegments 121 = .ok (.iconst 0, 1) := by decide +kernel
theorem dX2_inspectSegments_122 : decode cX2_inspectSegments 122 = .ok (.ireturn, 1) := by decide +kernel
theorem dX2_inspectSegment_0 : decode cX2_inspectSegment 0 = .ok (.iload_n 3, 1) := by decide +kernel
theorem dX2_inspectSegment_1 : decode cX2_inspectSegment 1 = .ok (.ifCond .lt 17, 3) := by decide +kernel
theorem dX2_inspectSegment_4 : decode cX2_inspectSegment 4 = .ok (.aload_n 1, 1) := by decide +kernel
theorem dX2_inspectSegment_5 : decode cX2_inspectSegment 5 = .ok (.getfield 111, 3) := by decide +kernel
theorem dX2_inspectSegment_8 : decode cX2_inspectSegment 8 = .ok (.aload_n 2, 1) := by decide +kernel
theorem dX2_inspectSegment_9 : decode cX2_inspectSegment 9 = .ok (.getfield 117, 3) := by decide +kernel
theorem dX2_inspectSegment_12 : decode cX2_inspectSegment 12 = .ok (.invokevirtual 118, 3) := by decide +kernel
theorem dX2_inspectSegment_15 : decode cX2_inspectSegment 15 = .ok (.ifCond .eq 5, 3) := by decide +kernel
theorem dX2_inspectSegment_18 : decode cX2_inspectSegment 18 = .ok (.iconst 0, 1) := by decide +kernel
theorem dX2_inspectSegment_19 : decode cX2_inspectSegment 19 = .ok (.ireturn, 1) := by decide +kernel
theorem dX2_inspectSegment_20 : decode cX2_inspectSegment 20 = .ok (.iload_n 3, 1) := by decide +kernel
theorem dX2_inspectSegment_21 : decode cX2_inspectSegment 21 = .ok (.istore 4, 2) := by decide +kernel
theorem dX2_inspectSegment_23 : decode cX2_inspectSegment 23 = .ok (.iload 4, 2) := by decide +kernel
theorem dX2_inspectSegment_25 : decode cX2_inspectSegment 25 = .ok (.aload_n 2, 1) := by decide +kernel
theorem dX2_inspectSegment_26 : decode cX2_inspectSegment 26 = .ok (.getfield 99, 3) := by decide +kernel
theorem dX2_inspectSegment_29 : decode cX2_inspectSegment 29 = .ok (.if_icmp .ge 46, 3) := by decide +kernel
theorem dX2_inspectSegment_32 : decode cX2_inspectSegment 32 = .ok (.aload_n 2, 1) := by decide +kernel
theorem dX2_inspectSegment_33 : decode cX2_inspectSegment 33 = .ok (.getfield 103, 3) := by decide +kernel
theorem dX2_inspectSegment_36 : decode cX2_inspectSegment 36 = .ok (.iload 4, 2) := by decide +kernel
theorem dX2_inspectSegment_38 : decode cX2_inspectSegment 38 = .ok (.aaload, 1) := by decide +kernel
theorem dX2_inspectSegment_39 : decode cX2_inspectSegment 39 = .ok (.astore 5, 2) := by decide +kernel
theorem dX2_inspectSegment_41 : decode cX2_inspectSegment 41 = .ok (.aload_n 0, 1) := by decide +kernel
theorem dX2_inspectSegment_42 : decode cX2_inspectSegment 42 = .ok (.getfield 22, 3) := by decide +kernel
theorem dX2_inspectSegment_45 : decode cX2_inspectSegment 45 = .ok (.aload_n 1, 1) := by decide +kernel
theorem dX2_inspectSegment_46 : decode cX2_inspectSegment 46 = .ok (.aload 5, 2) := by decide +kernel
theorem dX2_inspectSegment_48 : decode cX2_inspectSegment 48 = .ok (.invokevirtual 124, 3) := by decide +kernel
theorem dX2_inspectSegment_51 : decode cX2_inspectSegment 51 = .ok (.istore 6, 2) := by decide +kernel
theorem dX2_inspectSegment_53 : decode cX2_inspectSegment 53 = .ok (.iload 6, 2) := by decide +kernel
theorem dX2_inspectSegment_55 : decode cX2_inspectSegment 55 = .ok (.ifCond .eq 14, 3) := by decide +kernel
theorem dX2_inspectSegment_58 : decode cX2_inspectSegment 58 = .ok (.aload_n 0, 1) := by decide +kernel
theorem dX2_inspectSegment_59 : decode cX2_inspectSegment 59 = .ok (.iload 6, 2) := by decide +kernel
theorem dX2_inspectSegment_61 : decode cX2_inspectSegment 61 = .ok (.aload_n 1, 1) := by decide +kernel
theorem dX2_inspectSegment_62 : decode cX2_inspectSegment 62 = .ok (.aload 5, 2) := by decide +kernel
theorem dX2_inspectSegment_64 : decode cX2_inspectSegment 64 = .ok (.invokevirtual 128, 3) := by decide +kernel
theorem dX2_inspectSegment_67 : decode cX2_inspectSegment 67 = .ok (.iconst 1, 1) := by decide +kernel
theorem dX2_inspectSegment_68 : decode cX2_inspectSegment 68 = .ok (.ireturn, 1) := by decide +kernel
theorem dX2_inspectSegment_69 : decode cX2_inspectSegment 69 = .ok (.iinc 4 1, 3) := by decide +kernel
theorem dX2_inspectSegment_72 : decode cX2_inspectSegment 72 = .ok (.goto (-49), 3) := by decide +kernel
theorem dX2_inspectSegment_75 : decode cX2_inspectSegment 75 = .ok (.iconst 0, 1) := by decide +kernel
theorem dX2_inspectSegment_76 : decode cX2_inspectSegment 76 = .ok (.ireturn, 1) := by decide +kernel
theorem dX2_tellSegments_0 : decode cX2_tellSegments 0 = .ok (.iload_n 1, 1) := by decide +kernel
theorem dX2_tellSegments_1 : decode cX2_tellSegments 1 = .ok (.istore 4, 2) := by decide +kernel
theorem dX2_tellSegments_3 : decode cX2_tellSegments 3 = .ok (.aload_n 2, 1) := by decide +kernel
theorem dX2_tellSegments_4 : decode cX2_tellSegments 4 = .ok (.getfield 132, 3) := by decide +kernel
theorem dX2_tellSegments_7 : decode cX2_tellSegments 7 = .ok (.getfield 102, 3) := by decide +kernel
theorem dX2_tellSegments_10 : decode cX2_tellSegments 10 = .ok (.aload_n 3, 1) := by decide +kernel
theorem dX2_tellSegments_11 : decode cX2_tellSegments 11 = .ok (.getfield 132, 3) := by decide +kernel
theorem dX2_tellSegments_14 : decode cX2_tellSegments 14 = .ok (.getfield 102, 3) := by decide +kernel
theorem dX2_tellSegments_17 : decode cX2_tellSegments 17 = .ok (.if_icmp .eq 17, 3) := by decide +kernel
theorem dX2_tellSegments_20 : decode cX2_tellSegments 20 = .ok (.iload_n 1, 1) := by decide +kernel
theorem dX2_tellSegments_21 : decode cX2_tellSegments 21 = .ok (.iconst 3, 1) := by decide +kernel
theorem dX2_tellSegments_22 : decode cX2_tellSegments 22 = .ok (.if_icmp .ne 8, 3) := by decide +kernel
theorem dX2_tellSegments_25 : decode cX2_tellSegments 25 = .ok (.bipush 9, 2) := by decide +kernel
theorem dX2_tellSegments_27 : decode cX2_tellSegments 27 = .ok (.goto 5, 3) := by decide +kernel
theorem dX2_tellSegments_30 : decode cX2_tellSegments 30 = .ok (.bipush 10, 2) := by decide +kernel
theorem dX2_tellSegments_32 : decode cX2_tellSegments 32 = .ok (.istore 4, 2) := by decide +kernel
theorem dX2_tellSegments_34 : decode cX2_tellSegments 34 = .ok (.aload_n 0, 1) := by decide +kernel
theorem dX2_tellSegments_35 : decode cX2_tellSegments 35 = .ok (.getfield 15, 3) := by decide +kernel
theorem dX2_tellSegments_38 : decode cX2_tellSegments 38 = .ok (.iload 4, 2) := by decide +kernel
theorem dX2_tellSegments_40 : decode cX2_tellSegments 40 = .ok (.aload_n 0, 1) := by decide +kernel
theorem dX2_tellSegments_41 : decode cX2_tellSegments 41 = .ok (.getfield 26, 3) := by decide +kernel
theorem dX2_tellSegments_44 : decode cX2_tellSegments 44 = .ok (.invokevirtual 77, 3) := by decide +kernel
theorem dX2_tellSegments_47 : decode cX2_tellSegments 47 = .ok (.aload_n 0, 1) := by decide +kernel
theorem dX2_tellSegments_48 : decode cX2_tellSegments 48 = .ok (.getfield 15, 3) := by decide +kernel
theorem dX2_tellSegments_51 : decode cX2_tellSegments 51 = .ok (.aload_n 2, 1) := by decide +kernel
theorem dX2_tellSegments_52 : decode cX2_tellSegments 52 = .ok (.getfield 132, 3) := by decide +kernel
theorem dX2_tellSegments_55 : decode cX2_tellSegments 55 = .ok (.getfield 102, 3) := by decide +kernel
theorem dX2_tellSegments_58 : decode cX2_tellSegments 58 = .ok (.aload_n 2, 1) := by decide +kernel
theorem dX2_tellSegments_59 : decode cX2_tellSegments 59 = .ok (.getfield 132, 3) := by decide +kernel
theorem dX2_tellSegments_62 : decode cX2_tellSegments 62 = .ok (.getfield 136, 3) := by decide +kernel
theorem dX2_tellSegments_65 : decode cX2_tellSegments 65 = .ok (.aload_n 2, 1) := by decide +kernel
theorem dX2_tellSegments_66 : decode cX2_tellSegments 66 = .ok (.getfield 139, 3) := by decide +kernel
theorem dX2_tellSegments_69 : decode cX2_tellSegments 69 = .ok (.invokevirtual 95, 3) := by decide +kernel
theorem dX2_tellSegments_72 : decode cX2_tellSegments 72 = .ok (.aload_n 0, 1) := by decide +kernel
theorem dX2_tellSegments_73 : decode cX2_tellSegments 73 = .ok (.getfield 15, 3) := by decide +kernel
theorem dX2_tellSegments_76 : decode cX2_tellSegments 76 = .ok (.aload_n 3, 1) := by decide +kernel
theorem dX2_tellSegments_77 : decode cX2_tellSegments 77 = .ok (.getfield 132, 3) := by decide +kernel
theorem dX2_tellSegments_80 : decode cX2_tellSegments 80 = .ok (.getfield 102, 3) := by decide +kernel
theorem dX2_tellSegments_83 : decode cX2_tellSegments 83 = .ok (.aload_n 3, 1) := by decide +kernel
theorem dX2_tellSegments_84 : decode cX2_tellSegments 84 = .ok (.getfield 132, 3) := by decide +kernel
theorem dX2_tellSegments_87 : decode cX2_tellSegments 87 = .ok (.getfield 136, 3) := by decide +kernel
theorem dX2_tellSegments_90 : decode cX2_tellSegments 90 = .ok (.aload_n 3, 1) := by decide +kernel
theorem dX2_tellSegments_91 : decode cX2_tellSegments 91 = .ok (.getfield 139, 3) := by decide +kernel
theorem dX2_tellSegments_94 : decode cX2_tellSegments 94 = .ok (.invokevirtual 140, 3) := by decide +kernel
theorem dX2_tellSegments_97 : decode cX2_tellSegments 97 = .ok (.return_, 1) := by decide +kernel
theorem dX2_inspectHoles_0 : decode cX2_inspectHoles 0 = .ok (.aload_n 1, 1) := by decide +kernel
theorem dX2_inspectHoles_1 : decode cX2_inspectHoles 1 = .ok (.getfield 47, 3) := by decide +kernel
theorem dX2_inspectHoles_4 : decode cX2_inspectHoles 4 = .ok (.astore_n 2, 1) := by decide +kernel
theorem dX2_inspectHoles_5 : decode cX2_inspectHoles 5 = .ok (.iconst 1, 1) := by decide +kernel
theorem dX2_inspectHoles_6 : decode cX2_inspectHoles 6 = .ok (.istore_n 3, 1) := by decide +kernel
theorem dX2_inspectHoles_7 : decode cX2_inspectHoles 7 = .ok (.iload_n 3, 1) := by decide +kernel
theorem dX2_inspectHoles_8 : decode cX2_inspectHoles 8 = .ok (.aload_n 2, 1) := by decide +kernel
theorem dX2_inspectHoles_9 : decode cX2_inspectHoles 9 = .ok (.arraylength, 1) := by decide +kernel
theorem dX2_inspectHoles_10 : decode cX2_inspectHoles 10 = .ok (.if_icmp .ge 49, 3) := by decide +kernel
theorem dX2_inspectHoles_13 : decode cX2_inspectHoles 13 = .ok (.aload_n 2, 1) := by decide +kernel
theorem dX2_inspectHoles_14 : decode cX2_inspectHoles 14 = .ok (.iload_n 3, 1) := by decide +kernel
theorem dX2_inspectHoles_15 : decode cX2_inspectHoles 15 = .ok (.aaload, 1) := by decide +kernel
theorem dX2_inspectHoles_16 : decode cX2_inspectHoles 16 = .ok (.aload_n 2, 1) := by decide +kernel
theorem dX2_inspectHoles_17 : decode cX2_inspectHoles 17 = .ok (.iconst 0, 1) := by decide +kernel
theorem dX2_inspectHoles_18 : decode cX2_inspectHoles 18 = .ok (.aaload, 1) := by decide +kernel
theorem dX2_inspectHoles_19 : decode cX2_inspectHoles 19 = .ok (.invokevirtual 143, 3) := by decide +kernel
theorem dX2_inspectHoles_22 : decode cX2_inspectHoles 22 = .ok (.ifCond .ne 31, 3) := by decide +kernel
theorem dX2_inspectHoles_25 : decode cX2_inspectHoles 25 = .ok (.aload_n 0, 1) := by decide +kernel
theorem dX2_inspectHoles_26 : decode cX2_inspectHoles 26 = .ok (.getfield 15, 3) := by decide +kernel
theorem dX2_inspectHoles_29 : decode cX2_inspectHoles 29 = .ok (.bipush 6, 2) := by decide +kernel
theorem dX2_inspectHoles_31 : decode cX2_inspectHoles 31 = .ok (.aload_n 0, 1) := by decide +kernel
theorem dX2_inspectHoles_32 : decode cX2_inspectHoles 32 = .ok (.getfield 26, 3) := by decide +kernel
theorem dX2_inspectHoles_35 : decode cX2_inspectHoles 35 = .ok (.invokevirtual 77, 3) := by decide +kernel
theorem dX2_inspectHoles_38 : decode cX2_inspectHoles 38 = .ok (.aload_n 0, 1) := by decide +kernel
theorem dX2_inspectHoles_39 : decode cX2_inspectHoles 39 = .ok (.getfield 15, 3) := by decide +kernel
theorem dX2_inspectHoles_42 : decode cX2_inspectHoles 42 = .ok (.aload_n 1, 1) := by decide +kernel
theorem dX2_inspectHoles_43 : decode cX2_inspectHoles 43 = .ok (.getfield 92, 3) := by decide +kernel
theorem dX2_inspectHoles_46 : decode cX2_inspectHoles 46 = .ok (.iload_n 3, 1) := by decide +kernel
theorem dX2_inspectHoles_47 : decode cX2_inspectHoles 47 = .ok (.iconst (-1), 1) := by decide +kernel
theorem dX2_inspectHoles_48 : decode cX2_inspectHoles 48 = .ok (.invokevirtual 95, 3) := by decide +kernel
theorem dX2_inspectHoles_51 : decode cX2_inspectHoles 51 = .ok (.iconst 1, 1) := by decide +kernel
theorem dX2_inspectHoles_52 : decode cX2_inspectHoles 52 = .ok (.ireturn, 1) := by decide +kernel
theorem dX2_inspectHoles_53 : decode cX2_inspectHoles 53 = .ok (.iinc 3 1, 3) := by decide +kernel
theorem dX2_inspectHoles_56 : decode cX2_inspectHoles 56 = .ok (.goto (-49), 3) := by decide +kernel
theorem dX2_inspectHoles_59 : decode cX2_inspectHoles 59 = .ok (.iconst 0, 1) := by decide +kernel
theorem dX2_inspectHoles_60 : decode cX2_inspectHoles 60 = .ok (.ireturn, 1) := by decide +kernel
theorem dX2_inspectPairsOfHoles_0 : decode cX2_inspectPairsOfHoles 0 = .ok (.aload_n 1, 1) := by decide +kernel
theorem dX2_inspectPairsOfHoles_1 : decode cX2_inspectPairsOfHoles 1 = .ok (.getfield 47, 3) := by decide +kernel
theorem dX2_inspectPairsOfHoles_4 : decode cX2_inspectPairsOfHoles 4 = .ok (.astore_n 2, 1) := by decide +kernel
theorem dX2_inspectPairsOfHoles_5 : decode cX2_inspectPairsOfHoles 5 = .ok (.iconst 1, 1) := by decide +kernel
theorem dX2_inspectPairsOfHoles_6 : decode cX2_inspectPairsOfHoles 6 = .ok (.istore_n 3, 1) := by decide +kernel
theorem dX2_inspectPairsOfHoles_7 : decode cX2_inspectPairsOfHoles 7 = .ok (.iload_n 3, 1) := by decide +kernel
theorem dX2_inspectPairsOfHoles_8 : decode cX2_inspectPairsOfHoles 8 = .ok (.aload_n 2, 1) := by decide +kernel
theorem dX2_inspectPairsOfHoles_9 : decode cX2_inspectPairsOfHoles 9 = .ok (.arraylength, 1) := by decide +kernel
theorem dX2_inspectPairsOfHoles_10 : decode cX2_inspectPairsOfHoles 10 = .ok (.if_icmp .ge 95, 3) := by decide +kernel
theorem dX2_inspectPairsOfHoles_13 : decode cX2_inspectPairsOfHoles 13 = .ok (.iload_n 3, 1) := by decide +kernel
theorem dX2_inspectPairsOfHoles_14 : decode cX2_inspectPairsOfHoles 14 = .ok (.iconst 1, 1) := by decide +kernel
theorem dX2_inspectPairsOfHoles_15 : decode cX2_inspectPairsOfHoles 15 = .ok (.iadd, 1) := by decide +kernel
theorem dX2_inspectPairsOfHoles_16 : decode cX2_inspectPairsOfHoles 16 = .ok (.istore 4, 2) := by decide +kernel
theorem dX2_inspectPairsOfHoles_18 : decode cX2_inspectPairsOfHoles 18 = .ok (.iload 4, 2) := by decide +kernel
theorem dX2_inspectPairsOfHoles_20 : decode cX2_inspectPairsOfHoles 20 = .ok (.aload_n 2, 1) := by decide +kernel
theorem dX2_inspectPairsOfHoles_21 : decode cX2_inspectPairsOfHoles 21 = .ok (.arraylength, 1) := by decide +kernel
theorem dX2_inspectPairsOfHoles_22 : decode cX2_inspectPairsOfHoles 22 = .ok (.if_icmp .ge 77, 3) := by decide +kernel
theorem dX2_inspectPairsOfHoles_25 : decode cX2_inspectPairsOfHoles 25 = .ok (.aload_n 2, 1) := by decide +kernel
theorem dX2_inspectPairsOfHoles_26 : decode cX2_inspectPairsOfHoles 26 = .ok (.iload_n 3, 1) := by decide +kernel
theorem dX2_inspectPairsOfHoles_27 : decode cX2_inspectPairsOfHoles 27 = .ok (.aaload, 1) := by decide +kernel
theorem dX2_inspectPairsOfHoles_28 : decode cX2_inspectPairsOfHoles 28 = .ok (.aload_n 2, 1) := by decide +kernel
theorem dX2_inspectPairsOfHoles_29 : decode cX2_inspectPairsOfHoles 29 = .ok (.iload 4, 2) := by decide +kernel
theorem dX2_inspectPairsOfHoles_31 : decode cX2_inspectPairsOfHoles 31 = .ok (.aaload, 1) := by decide +kernel
theorem dX2_inspectPairsOfHoles_32 : decode cX2_inspectPairsOfHoles 32 = .ok (.invokevirtual 143, 3) := by decide +kernel
theorem dX2_inspectPairsOfHoles_35 : decode cX2_inspectPairsOfHoles 35 = .ok (.ifCond .ne 16, 3) := by decide +kernel
theorem dX2_inspectPairsOfHoles_38 : decode cX2_inspectPairsOfHoles 38 = .ok (.aload_n 2, 1) := by decide +kernel
theorem dX2_inspectPairsOfHoles_39 : decode cX2_inspectPairsOfHoles 39 = .ok (.iload 4, 2) := by decide +kernel
theorem dX2_inspectPairsOfHoles_41 : decode cX2_inspectPairsOfHoles 41 = .ok (.aaload, 1) := by decide +kernel
theorem dX2_inspectPairsOfHoles_42 : decode cX2_inspectPairsOfHoles 42 = .ok (.aload_n 2, 1) := by decide +kernel
theorem dX2_inspectPairsOfHoles_43 : decode cX2_inspectPairsOfHoles 43 = .ok (.iload_n 3, 1) := by decide +kernel
theorem dX2_inspectPairsOfHoles_44 : decode cX2_inspectPairsOfHoles 44 = .ok (.aaload, 1) := by decide +kernel
theorem dX2_inspectPairsOfHoles_45 : decode cX2_inspectPairsOfHoles 45 = .ok (.invokevirtual 143, 3) := by decide +kernel
theorem dX2_inspectPairsOfHoles_48 : decode cX2_inspectPairsOfHoles 48 = .ok (.ifCond .eq 45, 3) := by decide +kernel
theorem dX2_inspectPairsOfHoles_51 : decode cX2_inspectPairsOfHoles 51 = .ok (.aload_n 0, 1) := by decide +kernel
theorem dX2_inspectPairsOfHoles_52 : decode cX2_inspectPairsOfHoles 52 = .ok (.getfield 15, 3) := by decide +kernel
theorem dX2_inspectPairsOfHoles_55 : decode cX2_inspectPairsOfHoles 55 = .ok (.bipush 7, 2) := by decide +kernel
theorem dX2_inspectPairsOfHoles_57 : decode cX2_inspectPairsOfHoles 57 = .ok (.aload_n 0, 1) := by decide +kernel
theorem dX2_inspectPairsOfHoles_58 : decode cX2_inspectPairsOfHoles 58 = .ok (.getfield 26, 3) := by decide +kernel
theorem dX2_inspectPairsOfHoles_61 : decode cX2_inspectPairsOfHoles 61 = .ok (.invokevirtual 77, 3) := by decide +kernel
theorem dX2_inspectPairsOfHoles_64 : decode cX2_inspectPairsOfHoles 64 = .ok (.aload_n 0, 1) := by decide +kernel
theorem dX2_inspectPairsOfHoles_65 : decode cX2_inspectPairsOfHoles 65 = .ok (.getfield 15, 3) := by decide +kernel
theorem dX2_inspectPairsOfHoles_68 : decode cX2_inspectPairsOfHoles 68 = .ok (.aload_n 1, 1) := by decide +kernel
theorem dX2_inspectPairsOfHoles_69 : decode cX2_inspectPairsOfHoles 69 = .ok (.getfield 92, 3) := by decide +kernel
theorem dX2_inspectPairsOfHoles_72 : decode cX2_inspectPairsOfHoles 72 = .ok (.iload_n 3, 1) := by decide +kernel
theorem dX2_inspectPairsOfHoles_73 : decode cX2_inspectPairsOfHoles 73 = .ok (.iconst (-1), 1) := by decide +kernel
theorem dX2_inspectPairsOfHoles_74 : decode cX2_inspectPairsOfHoles 74 = .ok (.invokevirtual 95, 3) := by decide +kernel
theorem dX2_inspectPairsOfHoles_77 : decode cX2_inspectPairsOfHoles 77 = .ok (.aload_n 0, 1) := by decide +kernel
theorem dX2_inspectPairsOfHoles_78 : decode cX2_inspectPairsOfHoles 78 = .ok (.getfield 15, 3) := by decide +kernel
theorem dX2_inspectPairsOfHoles_81 : decode cX2_inspectPairsOfHoles 81 = .ok (.aload_n 1, 1) := by decide +kernel
theorem dX2_inspectPairsOfHoles_82 : decode cX2_inspectPairsOfHoles 82 = .ok (.getfield 92, 3) := by decide +kernel
theorem dX2_inspectPairsOfHoles_85 : decode cX2_inspectPairsOfHoles 85 = .ok (.iload 4, 2) := by decide +kernel
theorem dX2_inspectPairsOfHoles_87 : decode cX2_inspectPairsOfHoles 87 = .ok (.iconst (-1), 1) := by decide +kernel
theorem dX2_inspectPairsOfHoles_88 : decode cX2_inspectPairsOfHoles 88 = .ok (.invokevirtual 140, 3) := by decide +kernel
theorem dX2_inspectPairsOfHoles_91 : decode cX2_inspectPairsOfHoles 91 = .ok (.iconst 1, 1) := by decide +kernel
theorem dX2_inspectPairsOfHoles_92 : decode cX2_inspectPairsOfHoles 92 = .ok (.ireturn, 1) := by decide +kernel
theorem dX2_inspectPairsOfHoles_93 : decode cX2_inspectPairsOfHoles 93 = .ok (.iinc 4 1, 3) := by decide +kernel
theorem dX2_inspectPairsOfHoles_96 : decode cX2_inspectPairsOfHoles 96 = .ok (.goto (-78), 3) := by decide +kernel
theorem dX2_inspectPairsOfHoles_99 : decode cX2_inspectPairsOfHoles 99 = .ok (.iinc 3 1, 3) := by decide +kernel
theorem dX2_inspectPairsOfHoles_102 : decode cX2_inspectPairsOfHoles 102 = .ok (.goto (-95), 3) := by decide +kernel
theorem dX2_inspectPairsOfHoles_105 : decode cX2_inspectPairsOfHoles 105 = .ok (.iconst 0, 1) := by decide +kernel
theorem dX2_inspectPairsOfHoles_106 : decode cX2_inspectPairsOfHoles 106 = .ok (.ireturn, 1) := by decide +kernel
theorem dX2_inspectWholeness_0 : decode cX2_inspectWholeness 0 = .ok (.aload_n 1, 1) := by decide +kernel
theorem dX2_inspectWholeness_1 : decode cX2_inspectWholeness 1 = .ok (.getfield 47, 3) := by decide +kernel
theorem dX2_inspectWholeness_4 : decode cX2_inspectWholeness 4 = .ok (.arraylength, 1) := by decide +kernel
theorem dX2_inspectWholeness_5 : decode cX2_inspectWholeness 5 = .ok (.iconst 2, 1) := by decide +kernel
theorem dX2_inspectWholeness_6 : decode cX2_inspectWholeness 6 = .ok (.if_icmp .lt 10, 3) := by decide +kernel
theorem dX2_inspectWholeness_9 : decode cX2_inspectWholeness 9 = .ok (.aload_n 1, 1) := by decide +kernel
theorem dX2_inspectWholeness_10 : decode cX2_inspectWholeness 10 = .ok (.invokevirtual 147, 3) := by decide +kernel
theorem dX2_inspectWholeness_13 : decode cX2_inspectWholeness 13 = .ok (.ifCond .ne 5, 3) := by decide +kernel
theorem dX2_inspectWholeness_16 : decode cX2_inspectWholeness 16 = .ok (.iconst 0, 1) := by decide +kernel
theorem dX2_inspectWholeness_17 : decode cX2_inspectWholeness 17 = .ok (.ireturn, 1) := by decide +kernel
theorem dX2_inspectWholeness_18 : decode cX2_inspectWholeness 18 = .ok (.aload_n 0, 1) := by decide +kernel
theorem dX2_inspectWholeness_19 : decode cX2_inspectWholeness 19 = .ok (.getfield 15, 3) := by decide +kernel
theorem dX2_inspectWholeness_22 : decode cX2_inspectWholeness 22 = .ok (.bipush 8, 2) := by decide +kernel
theorem dX2_inspectWholeness_24 : decode cX2_inspectWholeness 24 = .ok (.aload_n 0, 1) := by decide +kernel
theorem dX2_inspectWholeness_25 : decode cX2_inspectWholeness 25 = .ok (.getfield 26, 3) := by decide +kernel
theorem dX2_inspectWholeness_28 : decode cX2_inspectWholeness 28 = .ok (.invokevirtual 77, 3) := by decide +kernel
theorem dX2_inspectWholeness_31 : decode cX2_inspectWholeness 31 = .ok (.aload_n 0, 1) := by decide +kernel
theorem dX2_inspectWholeness_32 : decode cX2_inspectWholeness 32 = .ok (.getfield 15, 3) := by decide +kernel
theorem dX2_inspectWholeness_35 : decode cX2_inspectWholeness 35 = .ok (.aload_n 1, 1) := by decide +kernel
theorem dX2_inspectWholeness_36 : decode cX2_inspectWholeness 36 = .ok (.getfield 92, 3) := by decide +kernel
theorem dX2_inspectWholeness_39 : decode cX2_inspectWholeness 39 = .ok (.iconst (-1), 1) := by decide +kernel
theorem dX2_inspectWholeness_40 : decode cX2_inspectWholeness 40 = .ok (.iconst (-1), 1) := by decide +kernel
theorem dX2_inspectWholeness_41 : decode cX2_inspectWholeness 41 = .ok (.invokevirtual 95, 3) := by decide +kernel
theorem dX2_inspectWholeness_44 : decode cX2_inspectWholeness 44 = .ok (.iconst 1, 1) := by decide +kernel
theorem dX2_inspectWholeness_45 : decode cX2_inspectWholeness 45 = .ok (.ireturn, 1) := by decide +kernel
theorem dX2_inspectPairsOfParts_0 : decode cX2_inspectPairsOfParts 0 = .ok (.iconst 0, 1) := by decide +kernel
theorem dX2_inspectPairsOfParts_1 : decode cX2_inspectPairsOfParts 1 = .ok (.istore_n 2, 1) := by decide +kernel
theorem dX2_inspectPairsOfParts_2 : decode cX2_inspectPairsOfParts 2 = .ok (.iload_n 2, 1) := by decide +kernel
theorem dX2_inspectPairsOfParts_3 : decode cX2_inspectPairsOfParts 3 = .ok (.aload_n 1, 1) := by decide +kernel
theorem dX2_inspectPairsOfParts_4 : decode cX2_inspectPairsOfParts 4 = .ok (.arraylength, 1) := by decide +kernel
theorem dX2_inspectPairsOfParts_5 : decode cX2_inspectPairsOfParts 5 = .ok (.if_icmp .ge 83, 3) := by decide +kernel
theorem dX2_inspectPairsOfParts_8 : decode cX2_inspectPairsOfParts 8 = .ok (.iload_n 2, 1) := by decide +kernel
theorem dX2_inspectPairsOfParts_9 : decode cX2_inspectPairsOfParts 9 = .ok (.iconst 1, 1) := by decide +kernel
theorem dX2_inspectPairsOfParts_10 : decode cX2_inspectPairsOfParts 10 = .ok (.iadd, 1) := by decide +kernel
theorem dX2_inspectPairsOfParts_11 : decode cX2_inspectPairsOfParts 11 = .ok (.istore_n 3, 1) := by decide +kernel
theorem dX2_inspectPairsOfParts_12 : decode cX2_inspectPairsOfParts 12 = .ok (.iload_n 3, 1) := by decide +kernel
theorem dX2_inspectPairsOfParts_13 : decode cX2_inspectPairsOfParts 13 = .ok (.aload_n 1, 1) := by decide +kernel
theorem dX2_inspectPairsOfParts_14 : decode cX2_inspectPairsOfParts 14 = .ok (.arraylength, 1) := by decide +kernel
theorem dX2_inspectPairsOfParts_15 : decode cX2_inspectPairsOfParts 15 = .ok (.if_icmp .ge 67, 3) := by decide +kernel
theorem dX2_inspectPairsOfParts_18 : decode cX2_inspectPairsOfParts 18 = .ok (.aload_n 1, 1) := by decide +kernel
theorem dX2_inspectPairsOfParts_19 : decode cX2_inspectPairsOfParts 19 = .ok (.iload_n 2, 1) := by decide +kernel
theorem dX2_inspectPairsOfParts_20 : decode cX2_inspectPairsOfParts 20 = .ok (.aaload, 1) := by decide +kernel
theorem dX2_inspectPairsOfParts_21 : decode cX2_inspectPairsOfParts 21 = .ok (.aload_n 1, 1) := by decide +kernel
theorem dX2_inspectPairsOfParts_22 : decode cX2_inspectPairsOfParts 22 = .ok (.iload_n 3, 1) := by decide +kernel
theorem dX2_inspectPairsOfParts_23 : decode cX2_inspectPairsOfParts 23 = .ok (.aaload, 1) := by decide +kernel
theorem dX2_inspectPairsOfParts_24 : decode cX2_inspectPairsOfParts 24 = .ok (.invokevirtual 151, 3) := by decide +kernel
theorem dX2_inspectPairsOfParts_27 : decode cX2_inspectPairsOfParts 27 = .ok (.ifCond .ne 15, 3) := by decide +kernel
theorem dX2_inspectPairsOfParts_30 : decode cX2_inspectPairsOfParts 30 = .ok (.aload_n 1, 1) := by decide +kernel
theorem dX2_inspectPairsOfParts_31 : decode cX2_inspectPairsOfParts 31 = .ok (.iload_n 3, 1) := by decide +kernel
theorem dX2_inspectPairsOfParts_32 : decode cX2_inspectPairsOfParts 32 = .ok (.aaload, 1) := by decide +kernel
theorem dX2_inspectPairsOfParts_33 : decode cX2_inspectPairsOfParts 33 = .ok (.aload_n 1, 1) := by decide +kernel
theorem dX2_inspectPairsOfParts_34 : decode cX2_inspectPairsOfParts 34 = .ok (.iload_n 2, 1) := by decide +kernel
theorem dX2_inspectPairsOfParts_35 : decode cX2_inspectPairsOfParts 35 = .ok (.aaload, 1) := by decide +kernel
theorem dX2_inspectPairsOfParts_36 : decode cX2_inspectPairsOfParts 36 = .ok (.invokevirtual 151, 3) := by decide +kernel
theorem dX2_inspectPairsOfParts_39 : decode cX2_inspectPairsOfParts 39 = .ok (.ifCond .eq 37, 3) := by decide +kernel
theorem dX2_inspectPairsOfParts_42 : decode cX2_inspectPairsOfParts 42 = .ok (.aload_n 0, 1) := by decide +kernel
theorem dX2_inspectPairsOfParts_43 : decode cX2_inspectPairsOfParts 43 = .ok (.getfield 15, 3) := by decide +kernel
theorem dX2_inspectPairsOfParts_46 : decode cX2_inspectPairsOfParts 46 = .ok (.bipush 11, 2) := by decide +kernel
theorem dX2_inspectPairsOfParts_48 : decode cX2_inspectPairsOfParts 48 = .ok (.aload_n 0, 1) := by decide +kernel
theorem dX2_inspectPairsOfParts_49 : decode cX2_inspectPairsOfParts 49 = .ok (.getfield 26, 3) := by decide +kernel
theorem dX2_inspectPairsOfParts_52 : decode cX2_inspectPairsOfParts 52 = .ok (.invokevirtual 77, 3) := by decide +kernel
theorem dX2_inspectPairsOfParts_55 : decode cX2_inspectPairsOfParts 55 = .ok (.aload_n 0, 1) := by decide +kernel
theorem dX2_inspectPairsOfParts_56 : decode cX2_inspectPairsOfParts 56 = .ok (.getfield 15, 3) := by decide +kernel
theorem dX2_inspectPairsOfParts_59 : decode cX2_inspectPairsOfParts 59 = .ok (.iload_n 2, 1) := by decide +kernel
theorem dX2_inspectPairsOfParts_60 : decode cX2_inspectPairsOfParts 60 = .ok (.iconst (-1), 1) := by decide +kernel
theorem dX2_inspectPairsOfParts_61 : decode cX2_inspectPairsOfParts 61 = .ok (.iconst (-1), 1) := by decide +kernel
theorem dX2_inspectPairsOfParts_62 : decode cX2_inspectPairsOfParts 62 = .ok (.invokevirtual 95, 3) := by decide +kernel
theorem dX2_inspectPairsOfParts_65 : decode cX2_inspectPairsOfParts 65 = .ok (.aload_n 0, 1) := by decide +kernel
theorem dX2_inspectPairsOfParts_66 : decode cX2_inspectPairsOfParts 66 = .ok (.getfield 15, 3) := by decide +kernel
theorem dX2_inspectPairsOfParts_69 : decode cX2_inspectPairsOfParts 69 = .ok (.iload_n 3, 1) := by decide +kernel
theorem dX2_inspectPairsOfParts_70 : decode cX2_inspectPairsOfParts 70 = .ok (.iconst (-1), 1) := by decide +kernel
theorem dX2_inspectPairsOfParts_71 : decode cX2_inspectPairsOfParts 71 = .ok (.iconst (-1), 1) := by decide +kernel
theorem dX2_inspectPairsOfParts_72 : decode cX2_inspectPairsOfParts 72 = .ok (.invokevirtual 140, 3) := by decide +kernel
theorem dX2_inspectPairsOfParts_75 : decode cX2_inspectPairsOfParts 75 = .ok (.return_, 1) := by decide +kernel
theorem dX2_inspectPairsOfParts_76 : decode cX2_inspectPairsOfParts 76 = .ok (.iinc 3 1, 3) := by decide +kernel
theorem dX2_inspectPairsOfParts_79 : decode cX2_inspectPairsOfParts 79 = .ok (.goto (-67), 3) := by decide +kernel
theorem dX2_inspectPairsOfParts_82 : decode cX2_inspectPairsOfParts 82 = .ok (.iinc 2 1, 3) := by decide +kernel
theorem dX2_inspectPairsOfParts_85 : decode cX2_inspectPairsOfParts 85 = .ok (.goto (-83), 3) := by decide +kernel
theorem dX2_inspectPairsOfParts_88 : decode cX2_inspectPairsOfParts 88 = .ok (.return_, 1) := by decide +kernel
theorem dX3_init_0 : decode cX3_init 0 = .ok (.aload_n 0, 1) := by decide +kernel
theorem dX3_init_1 : decode cX3_init 1 = .ok (.invokespecial 3, 3) := by decide +kernel
theorem dX3_init_4 : decode cX3_init 4 = .ok (.return_, 1) := by decide +kernel
theorem dX3_fault_0 : decode cX3_fault 0 = .ok (.aload_n 0, 1) := by decide +kernel
theorem dX3_fault_1 : decode cX3_fault 1 = .ok (.aload_n 1, 1) := by decide +kernel
theorem dX3_fault_2 : decode cX3_fault 2 = .ok (.aload_n 2, 1) := by decide +kernel
theorem dX3_fault_3 : decode cX3_fault 3 = .ok (.invokevirtual 9, 3) := by decide +kernel
theorem dX3_fault_6 : decode cX3_fault 6 = .ok (.istore_n 3, 1) := by decide +kernel
theorem dX3_fault_7 : decode cX3_fault 7 = .ok (.iload_n 3, 1) := by decide +kernel
theorem dX3_fault_8 : decode cX3_fault 8 = .ok (.ifCond .ne 5, 3) := by decide +kernel
theorem dX3_fault_11 : decode cX3_fault 11 = .ok (.iconst 0, 1) := by decide +kernel
theorem dX3_fault_12 : decode cX3_fault 12 = .ok (.ireturn, 1) := by decide +kernel
theorem dX3_fault_13 : decode cX3_fault 13 = .ok (.iload_n 3, 1) := by decide +kernel
theorem dX3_fault_14 : decode cX3_fault 14 = .ok (.iconst 3, 1) := by decide +kernel
theorem dX3_fault_15 : decode cX3_fault 15 = .ok (.if_icmp .ne 5, 3) := by decide +kernel
theorem dX3_fault_18 : decode cX3_fault 18 = .ok (.iconst 3, 1) := by decide +kernel
theorem dX3_fault_19 : decode cX3_fault 19 = .ok (.ireturn, 1) := by decide +kernel
theorem dX3_fault_20 : decode cX3_fault 20 = .ok (.iload_n 3, 1) := by decide +kernel
theorem dX3_fault_21 : decode cX3_fault 21 = .ok (.iconst 1, 1) := by decide +kernel
theorem dX3_fault_22 : decode cX3_fault 22 = .ok (.if_icmp .ne 5, 3) := by decide +kernel
theorem dX3_fault_25 : decode cX3_fault 25 = .ok (.iconst 4, 1) := by decide +kernel
theorem dX3_fault_26 : decode cX3_fault 26 = .ok (.ireturn, 1) := by decide +kernel
theorem dX3_fault_27 : decode cX3_fault 27 = .ok (.aload_n 1, 1) := by decide +kernel
theorem dX3_fault_28 : decode cX3_fault 28 = .ok (.getfield 15, 3) := by decide +kernel
theorem dX3_fault_31 : decode cX3_fault 31 = .ok (.aload_n 2, 1) := by decide +kernel
theorem dX3_fault_32 : decode cX3_fault 32 = .ok (.getfield 15, 3) := by decide +kernel
theorem dX3_fault_35 : decode cX3_fault 35 = .ok (.if_acmp .ne 17, 3) := by decide +kernel
theorem dX3_fault_38 : decode cX3_fault 38 = .ok (.aload_n 1, 1) := by decide +kernel
theorem dX3_fault_39 : decode cX3_fault 39 = .ok (.aload_n 2, 1) := by decide +kernel
theorem dX3_fault_40 : decode cX3_fault 40 = .ok (.invokevirtual 21, 3) := by decide +kernel
theorem dX3_fault_43 : decode cX3_fault 43 = .ok (.ifCond .eq 7, 3) := by decide +kernel
theorem dX3_fault_46 : decode cX3_fault 46 = .ok (.iconst 0, 1) := by decide +kernel
theorem dX3_fault_47 : decode cX3_fault 47 = .ok (.goto 4, 3) := by decide +kernel
theorem dX3_fault_50 : decode cX3_fault 50 = .ok (.iconst 5, 1) := by decide +kernel
theorem dX3_fault_51 : decode cX3_fault 51 = .ok (.ireturn, 1) := by decide +kernel
theorem dX3_fault_52 : decode cX3_fault 52 = .ok (.aload_n 0, 1) := by decide +kernel
theorem dX3_fault_53 : decode cX3_fault 53 = .ok (.aload_n 1, 1) := by decide +kernel
theorem dX3_fault_54 : decode cX3_fault 54 = .ok (.aload_n 2, 1) := by decide +kernel
theorem dX3_fault_55 : decode cX3_fault 55 = .ok (.invokevirtual 25, 3) := by decide +kernel
theorem dX3_fault_58 : decode cX3_fault 58 = .ok (.ifCond .eq 7, 3) := by decide +kernel
theorem dX3_fault_61 : decode cX3_fault 61 = .ok (.iconst 4, 1) := by decide +kernel
theorem dX3_fault_62 : decode cX3_fault 62 = .ok (.goto 4, 3) := by decide +kernel
theorem dX3_fault_65 : decode cX3_fault 65 = .ok (.iconst 0, 1) := by decide +kernel
theorem dX3_fault_66 : decode cX3_fault 66 = .ok (.ireturn, 1) := by decide +kernel
theorem dX3_meet_0 : decode cX3_meet 0 = .ok (.aload_n 1, 1) := by decide +kernel
theorem dX3_meet_1 : decode cX3_meet 1 = .ok (.getfield 29, 3) := by decide +kernel
theorem dX3_meet_4 : decode cX3_meet 4 = .ok (.aload_n 2, 1) := by decide +kernel
theorem dX3_meet_5 : decode cX3_meet 5 = .ok (.getfield 29, 3) := by decide +kernel
theorem dX3_meet_8 : decode cX3_meet 8 = .ok (.invokevirtual 33, 3) := by decide +kernel
theorem dX3_meet_11 : decode cX3_meet 11 = .ok (.ifCond .eq 5, 3) := by decide +kernel
theorem dX3_meet_14 : decode cX3_meet 14 = .ok (.iconst 0, 1) := by decide +kernel
theorem dX3_meet_15 : decode cX3_meet 15 = .ok (.ireturn, 1) := by decide +kernel
theorem dX3_meet_16 : decode cX3_meet 16 = .ok (.aload_n 1, 1) := by decide +kernel
theorem dX3_meet_17 : decode cX3_meet 17 = .ok (.aload_n 2, 1) := by decide +kernel
theorem dX3_meet_18 : decode cX3_meet 18 = .ok (.getfield 39, 3) := by decide +kernel
theorem dX3_meet_21 : decode cX3_meet 21 = .ok (.aload_n 2, 1) := by decide +kernel
theorem dX3_meet_22 : decode cX3_meet 22 = .ok (.getfield 43, 3) := by decide +kernel
theorem dX3_meet_25 : decode cX3_meet 25 = .ok (.invokevirtual 46, 3) := by decide +kernel
theorem dX3_meet_28 : decode cX3_meet 28 = .ok (.lstore_n 3, 1) := by decide +kernel
theorem dX3_meet_29 : decode cX3_meet 29 = .ok (.aload_n 1, 1) := by decide +kernel
theorem dX3_meet_30 : decode cX3_meet 30 = .ok (.aload_n 2, 1) := by decide +kernel
theorem dX3_meet_31 : decode cX3_meet 31 = .ok (.getfield 50, 3) := by decide +kernel
theorem dX3_meet_34 : decode cX3_meet 34 = .ok (.aload_n 2, 1) := by decide +kernel
theorem dX3_meet_35 : decode cX3_meet 35 = .ok (.getfield 53, 3) := by decide +kernel
theorem dX3_meet_38 : decode cX3_meet 38 = .ok (.invokevirtual 46, 3) := by decide +kernel
theorem dX3_meet_41 : decode cX3_meet 41 = .ok (.lstore 5, 2) := by decide +kernel
theorem dX3_meet_43 : decode cX3_meet 43 = .ok (.lload_n 3, 1) := by decide +kernel
theorem dX3_meet_44 : decode cX3_meet 44 = .ok (.lconst 0, 1) := by decide +kernel
theorem dX3_meet_45 : decode cX3_meet 45 = .ok (.lcmp, 1) := by decide +kernel
theorem dX3_meet_46 : decode cX3_meet 46 = .ok (.ifCond .ne 23, 3) := by decide +kernel
theorem dX3_meet_49 : decode cX3_meet 49 = .ok (.lload 5, 2) := by decide +kernel
theorem dX3_meet_51 : decode cX3_meet 51 = .ok (.lconst 0, 1) := by decide +kernel
theorem dX3_meet_52 : decode cX3_meet 52 = .ok (.lcmp, 1) := by decide +kernel
theorem dX3_meet_53 : decode cX3_meet 53 = .ok (.ifCond .ne 16, 3) := by decide +kernel
theorem dX3_meet_56 : decode cX3_meet 56 = .ok (.aload_n 0, 1) := by decide +kernel
theorem dX3_meet_57 : decode cX3_meet 57 = .ok (.aload_n 1, 1) := by decide +kernel
theorem dX3_meet_58 : decode cX3_meet 58 = .ok (.getfield 29, 3) := by decide +kernel
theorem dX3_meet_61 : decode cX3_meet 61 = .ok (.aload_n 2, 1) := by decide +kernel
theorem dX3_meet_62 : decode cX3_meet 62 = .ok (.getfield 29, 3) := by decide +kernel
theorem dX3_meet_65 : decode cX3_meet 65 = .ok (.invokevirtual 56, 3) := by decide +kernel
theorem dX3_meet_68 : decode cX3_meet 68 = .ok (.ireturn, 1) := by decide +kernel
theorem dX3_meet_69 : decode cX3_meet 69 = .ok (.aload_n 2, 1) := by decide +kernel
theorem dX3_meet_70 : decode cX3_meet 70 = .ok (.aload_n 1, 1) := by decide +kernel
theorem dX3_meet_71 : decode cX3_meet 71 = .ok (.getfield 39, 3) := by decide +kernel
theorem dX3_meet_74 : decode cX3_meet 74 = .ok (.aload_n 1, 1) := by decide +kernel
theorem dX3_meet_75 : decode cX3_meet 75 = .ok (.getfield 43, 3) := by decide +kernel
theorem dX3_meet_78 : decode cX3_meet 78 = .ok (.invokevirtual 46, 3) := by decide +kernel
theorem dX3_meet_81 : decode cX3_meet 81 = .ok (.lstore 7, 2) := by decide +kernel
theorem dX3_meet_83 : decode cX3_meet 83 = .ok (.aload_n 2, 1) := by decide +kernel
theorem dX3_meet_84 : decode cX3_meet 84 = .ok (.aload_n 1, 1) := by decide +kernel
theorem dX3_meet_85 : decode cX3_meet 85 = .ok (.getfield 50, 3) := by decide +kernel
theorem dX3_meet_88 : decode cX3_meet 88 = .ok (.aload_n 1, 1) := by decide +kernel
theorem dX3_meet_89 : decode cX3_meet 89 = .ok (.getfield 53, 3) := by decide +kernel
theorem dX3_meet_92 : decode cX3_meet 92 = .ok (.invokevirtual 46, 3) := by decide +kernel
theorem dX3_meet_95 : decode cX3_meet 95 = .ok (.lstore 9, 2) := by decide +kernel
theorem dX3_meet_97 : decode cX3_meet 97 = .ok (.lload_n 3, 1) := by decide +kernel
theorem dX3_meet_98 : decode cX3_meet 98 = .ok (.lload 5, 2) := by decide +kernel
theorem dX3_meet_100 : decode cX3_meet 100 = .ok (.invokestatic 60, 3) := by decide +kernel
theorem dX3_meet_103 : decode cX3_meet 103 = .ok (.ifCond .ne 13, 3) := by decide +kernel
theorem dX3_meet_106 : decode cX3_meet 106 = .ok (.lload 7, 2) := by decide +kernel
theorem dX3_meet_108 : decode cX3_meet 108 = .ok (.lload 9, 2) := by decide +kernel
theorem dX3_meet_110 : decode cX3_meet 110 = .ok (.invokestatic 60, 3) := by decide +kernel
theorem dX3_meet_113 : decode cX3_meet 113 = .ok (.ifCond .eq 5, 3) := by decide +kernel
theorem dX3_meet_116 : decode cX3_meet 116 = .ok (.iconst 0, 1) := by decide +kernel
theorem dX3_meet_117 : decode cX3_meet 117 = .ok (.ireturn, 1) := by decide +kernel
theorem dX3_meet_118 : decode cX3_meet 118 = .ok (.lload_n 3, 1) := by decide +kernel
theorem dX3_meet_119 : decode cX3_meet 119 = .ok (.lconst 0, 1) := by decide +kernel
theorem dX3_meet_120 : decode cX3_meet 120 = .ok (.lcmp, 1) := by decide +kernel
theorem dX3_meet_121 : decode cX3_meet 121 = .ok (.ifCond .ne 16, 3) := by decide +kernel
theorem dX3_meet_124 : decode cX3_meet 124 = .ok (.aload_n 0, 1) := by decide +kernel
theorem dX3_meet_125 : decode cX3_meet 125 = .ok (.aload_n 2, 1) := by decide +kernel
theorem dX3_meet_126 : decode cX3_meet 126 = .ok (.getfield 39, 3) := by decide +kernel
theorem dX3_meet_129 : decode cX3_meet 129 = .ok (.aload_n 2, 1) := by decide +kernel
theorem dX3_meet_130 : decode cX3_meet 130 = .ok (.getfield 43, 3) := by decide +kernel
theorem dX3_meet_133 : decode cX3_meet 133 = .ok (.invokevirtual 64, 3) := by decide +kernel
theorem dX3_meet_136 : decode cX3_meet 136 = .ok (.ireturn, 1) := by decide +kernel
theorem dX3_meet_137 : decode cX3_meet 137 = .ok (.lload 5, 2) := by decide +kernel
theorem dX3_meet_139 : decode cX3_meet 139 = .ok (.lconst 0, 1) := by decide +kernel
theorem dX3_meet_140 : decode cX3_meet 140 = .ok (.lcmp, 1) := by decide +kernel
theorem dX3_meet_141 : decode cX3_meet 141 = .ok (.ifCond .ne 16, 3) := by decide +kernel
theorem dX3_meet_144 : decode cX3_meet 144 = .ok (.aload_n 0, 1) := by decide +kernel
theorem dX3_meet_145 : decode cX3_meet 145 = .ok (.aload_n 2, 1) := by decide +kernel
theorem dX3_meet_146 : decode cX3_meet 146 = .ok (.getfield 50, 3) := by decide +kernel
theorem dX3_meet_149 : decode cX3_meet 149 = .ok (.aload_n 2, 1) := by decide +kernel
theorem dX3_meet_150 : decode cX3_meet 150 = .ok (.getfield 53, 3) := by decide +kernel
theorem dX3_meet_153 : decode cX3_meet 153 = .ok (.invokevirtual 64, 3) := by decide +kernel
theorem dX3_meet_156 : decode cX3_meet 156 = .ok (.ireturn, 1) := by decide +kernel
theorem dX3_meet_157 : decode cX3_meet 157 = .ok (.lload 7, 2) := by decide +kernel
theorem dX3_meet_159 : decode cX3_meet 159 = .ok (.lconst 0, 1) := by decide +kernel
theorem dX3_meet_160 : decode cX3_meet 160 = .ok (.lcmp, 1) := by decide +kernel
theorem dX3_meet_161 : decode cX3_meet 161 = .ok (.ifCond .ne 16, 3) := by decide +kernel
theorem dX3_meet_164 : decode cX3_meet 164 = .ok (.aload_n 0, 1) := by decide +kernel
theorem dX3_meet_165 : decode cX3_meet 165 = .ok (.aload_n 1, 1) := by decide +kernel
theorem dX3_meet_166 : decode cX3_meet 166 = .ok (.getfield 39, 3) := by decide +kernel
theorem dX3_meet_169 : decode cX3_meet 169 = .ok (.aload_n 1, 1) := by decide +kernel
theorem dX3_meet_170 : decode cX3_meet 170 = .ok (.getfield 43, 3) := by decide +kernel
theorem dX3_meet_173 : decode cX3_meet 173 = .ok (.invokevirtual 64, 3) := by decide +kernel
theorem dX3_meet_176 : decode cX3_meet 176 = .ok (.ireturn, 1) := by decide +kernel
theorem dX3_meet_177 : decode cX3_meet 177 = .ok (.lload 9, 2) := by decide +kernel
theorem dX3_meet_179 : decode cX3_meet 179 = .ok (.lconst 0, 1) := by decide +kernel
theorem dX3_meet_180 : decode cX3_meet 180 = .ok (.lcmp, 1) := by decide +kernel
theorem dX3_meet_181 : decode cX3_meet 181 = .ok (.ifCond .ne 18, 3) := by decide +kernel
theorem dX3_meet_184 : decode cX3_meet 184 = .ok (.aload_n 0, 1) := by decide +kernel
theorem dX3_meet_185 : decode cX3_meet 185 = .ok (.aload_n 1, 1) := by decide +kernel
theorem dX3_meet_186 : decode cX3_meet 186 = .ok (.getfield 50, 3) := by decide +kernel
theorem dX3_meet_189 : decode cX3_meet 189 = .ok (.aload_n 1, 1) := by decide +kernel
theorem dX3_meet_190 : decode cX3_meet 190 = .ok (.getfield 53, 3) := by decide +kernel
theorem dX3_meet_193 : decode cX3_meet 193 = .ok (.invokevirtual 64, 3) := by decide +kernel
theorem dX3_meet_196 : decode cX3_meet 196 = .ok (.goto 4, 3) := by decide +kernel
theorem dX3_meet_199 : decode cX3_meet 199 = .ok (.iconst 1, 1) := by decide +kernel
theorem dX3_meet_200 : decode cX3_meet 200 = .ok (.ireturn, 1) := by decide +kernel
theorem dX3_isOneSide_0 : decode cX3_isOneSide 0 = .ok (.lload_n 0, 1) := by decide +kernel
theorem dX3_isOneSide_1 : decode cX3_isOneSide 1 = .ok (.lconst 0, 1) := by decide +kernel
theorem dX3_isOneSide_2 : decode cX3_isOneSide 2 = .ok (.lcmp, 1) := by decide +kernel
theorem dX3_isOneSide_3 : decode cX3_isOneSide 3 = .ok (.ifCond .le 9, 3) := by decide +kernel
theorem dX3_isOneSide_6 : decode cX3_isOneSide 6 = .ok (.lload_n 2, 1) := by decide +kernel
theorem dX3_isOneSide_7 : decode cX3_isOneSide 7 = .ok (.lconst 0, 1) := by decide +kernel
theorem dX3_isOneSide_8 : decode cX3_isOneSide 8 = .ok (.lcmp, 1) := by decide +kernel
theorem dX3_isOneSide_9 : decode cX3_isOneSide 9 = .ok (.ifCond .gt 15, 3) := by decide +kernel
theorem dX3_isOneSide_12 : decode cX3_isOneSide 12 = .ok (.lload_n 0, 1) := by decide +kernel
theorem dX3_isOneSide_13 : decode cX3_isOneSide 13 = .ok (.lconst 0, 1) := by decide +kernel
theorem dX3_isOneSide_14 : decode cX3_isOneSide 14 = .ok (.lcmp, 1) := by decide +kernel
theorem dX3_isOneSide_15 : decode cX3_isOneSide 15 = .ok (.ifCond .ge 13, 3) := by decide +kernel
theorem dX3_isOneSide_18 : decode cX3_isOneSide 18 = .ok (.lload_n 2, 1) := by decide +kernel
theorem dX3_isOneSide_19 : decode cX3_isOneSide 19 = .ok (.lconst 0, 1) := by decide +kernel
theorem dX3_isOneSide_20 : decode cX3_isOneSide 20 = .ok (.lcmp, 1) := by decide +kernel
theorem dX3_isOneSide_21 : decode cX3_isOneSide 21 = .ok (.ifCond .ge 7, 3) := by decide +kernel
theorem dX3_isOneSide_24 : decode cX3_isOneSide 24 = .ok (.iconst 1, 1) := by decide +kernel
theorem dX3_isOneSide_25 : decode cX3_isOneSide 25 = .ok (.goto 4, 3) := by decide +kernel
theorem dX3_isOneSide_28 : decode cX3_isOneSide 28 = .ok (.iconst 0, 1) := by decide +kernel
theorem dX3_isOneSide_29 : decode cX3_isOneSide 29 = .ok (.ireturn, 1) := by decide +kernel
theorem dX3_meetOnOneLine_0 : decode cX3_meetOnOneLine 0 = .ok (.aload_n 1, 1) := by decide +kernel
theorem dX3_meetOnOneLine_1 : decode cX3_meetOnOneLine 1 = .ok (.getfield 68, 3) := by decide +kernel
theorem dX3_meetOnOneLine_4 : decode cX3_meetOnOneLine 4 = .ok (.aload_n 2, 1) := by decide +kernel
theorem dX3_meetOnOneLine_5 : decode cX3_meetOnOneLine 5 = .ok (.getfield 68, 3) := by decide +kernel
theorem dX3_meetOnOneLine_8 : decode cX3_meetOnOneLine 8 = .ok (.invokestatic 71, 3) := by decide +kernel
theorem dX3_meetOnOneLine_11 : decode cX3_meetOnOneLine 11 = .ok (.istore_n 3, 1) := by decide +kernel
theorem dX3_meetOnOneLine_12 : decode cX3_meetOnOneLine 12 = .ok (.aload_n 1, 1) := by decide +kernel
theorem dX3_meetOnOneLine_13 : decode cX3_meetOnOneLine 13 = .ok (.getfield 76, 3) := by decide +kernel
theorem dX3_meetOnOneLine_16 : decode cX3_meetOnOneLine 16 = .ok (.aload_n 2, 1) := by decide +kernel
theorem dX3_meetOnOneLine_17 : decode cX3_meetOnOneLine 17 = .ok (.getfield 76, 3) := by decide +kernel
theorem dX3_meetOnOneLine_20 : decode cX3_meetOnOneLine 20 = .ok (.invokestatic 71, 3) := by decide +kernel
theorem dX3_meetOnOneLine_23 : decode cX3_meetOnOneLine 23 = .ok (.istore 4, 2) := by decide +kernel
theorem dX3_meetOnOneLine_25 : decode cX3_meetOnOneLine 25 = .ok (.iload_n 3, 1) := by decide +kernel
theorem dX3_meetOnOneLine_26 : decode cX3_meetOnOneLine 26 = .ok (.aload_n 1, 1) := by decide +kernel
theorem dX3_meetOnOneLine_27 : decode cX3_meetOnOneLine 27 = .ok (.getfield 79, 3) := by decide +kernel
theorem dX3_meetOnOneLine_30 : decode cX3_meetOnOneLine 30 = .ok (.aload_n 2, 1) := by decide +kernel
theorem dX3_meetOnOneLine_31 : decode cX3_meetOnOneLine 31 = .ok (.getfield 79, 3) := by decide +kernel
theorem dX3_meetOnOneLine_34 : decode cX3_meetOnOneLine 34 = .ok (.invokestatic 82, 3) := by decide +kernel
theorem dX3_meetOnOneLine_37 : decode cX3_meetOnOneLine 37 = .ok (.if_icmp .ne 23, 3) := by decide +kernel
theorem dX3_meetOnOneLine_40 : decode cX3_meetOnOneLine 40 = .ok (.iload 4, 2) := by decide +kernel
theorem dX3_meetOnOneLine_42 : decode cX3_meetOnOneLine 42 = .ok (.aload_n 1, 1) := by decide +kernel
theorem dX3_meetOnOneLine_43 : decode cX3_meetOnOneLine 43 = .ok (.getfield 85, 3) := by decide +kernel
theorem dX3_meetOnOneLine_46 : decode cX3_meetOnOneLine 46 = .ok (.aload_n 2, 1) := by decide +kernel
theorem dX3_meetOnOneLine_47 : decode cX3_meetOnOneLine 47 = .ok (.getfield 85, 3) := by decide +kernel
theorem dX3_meetOnOneLine_50 : decode cX3_meetOnOneLine 50 = .ok (.invokestatic 82, 3) := by decide +kernel
theorem dX3_meetOnOneLine_53 : decode cX3_meetOnOneLine 53 = .ok (.if_icmp .ne 7, 3) := by decide +kernel
theorem dX3_meetOnOneLine_56 : decode cX3_meetOnOneLine 56 = .ok (.iconst 1, 1) := by decide +kernel
theorem dX3_meetOnOneLine_57 : decode cX3_meetOnOneLine 57 = .ok (.goto 4, 3) := by decide +kernel
theorem dX3_meetOnOneLine_60 : decode cX3_meetOnOneLine 60 = .ok (.iconst 0, 1) := by decide +kernel
theorem dX3_meetOnOneLine_61 : decode cX3_meetOnOneLine 61 = .ok (.istore 5, 2) := by decide +kernel
theorem dX3_meetOnOneLine_63 : decode cX3_meetOnOneLine 63 = .ok (.iload 5, 2) := by decide +kernel
theorem dX3_meetOnOneLine_65 : decode cX3_meetOnOneLine 65 = .ok (.ifCond .eq 13, 3) := by decide +kernel
theorem dX3_meetOnOneLine_68 : decode cX3_meetOnOneLine 68 = .ok (.aload_n 0, 1) := by decide +kernel
theorem dX3_meetOnOneLine_69 : decode cX3_meetOnOneLine 69 = .ok (.iload_n 3, 1) := by decide +kernel
theorem dX3_meetOnOneLine_70 : decode cX3_meetOnOneLine 70 = .ok (.iload 4, 2) := by decide +kernel
theorem dX3_meetOnOneLine_72 : decode cX3_meetOnOneLine 72 = .ok (.invokevirtual 64, 3) := by decide +kernel
theorem dX3_meetOnOneLine_75 : decode cX3_meetOnOneLine 75 = .ok (.goto 4, 3) := by decide +kernel
theorem dX3_meetOnOneLine_78 : decode cX3_meetOnOneLine 78 = .ok (.iconst 3, 1) := by decide +kernel
theorem dX3_meetOnOneLine_79 : decode cX3_meetOnOneLine 79 = .ok (.ireturn, 1) := by decide +kernel
theorem dX3_meetAt_0 : decode cX3_meetAt 0 = .ok (.aload_n 0, 1) := by decide +kernel
theorem dX3_meetAt_1 : decode cX3_meetAt 1 = .ok (.iload_n 1, 1) := by decide +kernel
theorem dX3_meetAt_2 : decode cX3_meetAt 2 = .ok (.putfield 88, 3) := by decide +kernel
theorem dX3_meetAt_5 : decode cX3_meetAt 5 = .ok (.aload_n 0, 1) := by decide +kernel
theorem dX3_meetAt_6 : decode cX3_meetAt 6 = .ok (.iload_n 2, 1) := by decide +kernel
theorem dX3_meetAt_7 : decode cX3_meetAt 7 = .ok (.putfield 91, 3) := by decide +kernel
theorem dX3_meetAt_10 : decode cX3_meetAt 10 = .ok (.iconst 2, 1) := by decide +kernel
theorem dX3_meetAt_11 : decode cX3_meetAt 11 = .ok (.ireturn, 1) := by decide +kernel
theorem dX3_ringsCross_0 : decode cX3_ringsCross 0 = .ok (.aload_n 1, 1) := by decide +kernel
theorem dX3_ringsCross_1 : decode cX3_ringsCross 1 = .ok (.aload_n 0, 1) := by decide +kernel
theorem dX3_ringsCross_2 : decode cX3_ringsCross 2 = .ok (.getfield 88, 3) := by decide +kernel
theorem dX3_ringsCross_5 : decode cX3_ringsCross 5 = .ok (.aload_n 0, 1) := by decide +kernel
theorem dX3_ringsCross_6 : decode cX3_ringsCross 6 = .ok (.getfield 91, 3) := by decide +kernel
theorem dX3_ringsCross_9 : decode cX3_ringsCross 9 = .ok (.invokevirtual 94, 3) := by decide +kernel
theorem dX3_ringsCross_12 : decode cX3_ringsCross 12 = .ok (.ifCond .ne 18, 3) := by decide +kernel
theorem dX3_ringsCross_15 : decode cX3_ringsCross 15 = .ok (.aload_n 2, 1) := by decide +kernel
theorem dX3_ringsCross_16 : decode cX3_ringsCross 16 = .ok (.aload_n 0, 1) := by decide +kernel
theorem dX3_ringsCross_17 : decode cX3_ringsCross 17 = .ok (.getfield 88, 3) := by decide +kernel
theorem dX3_ringsCross_20 : decode cX3_ringsCross 20 = .ok (.aload_n 0, 1) := by decide +kernel
theorem dX3_ringsCross_21 : decode cX3_ringsCross 21 = .ok (.getfield 91, 3) := by decide +kernel
theorem dX3_ringsCross_24 : decode cX3_ringsCross 24 = .ok (.invokevirtual 94, 3) := by decide +kernel
theorem dX3_ringsCross_27 : decode cX3_ringsCross 27 = .ok (.ifCond .eq 5, 3) := by decide +kernel
theorem dX3_ringsCross_30 : decode cX3_ringsCross 30 = .ok (.iconst 0, 1) := by decide +kernel
theorem dX3_ringsCross_31 : decode cX3_ringsCross 31 = .ok (.ireturn, 1) := by decide +kernel
theorem dX3_ringsCross_32 : decode cX3_ringsCross 32 = .ok (.aload_n 2, 1) := by decide +kernel
theorem dX3_ringsCross_33 : decode cX3_ringsCross 33 = .ok (.getfield 50, 3) := by decide +kernel
theorem dX3_ringsCross_36 : decode cX3_ringsCross 36 = .ok (.aload_n 0, 1) := by decide +kernel
theorem dX3_ringsCross_37 : decode cX3_ringsCross 37 = .ok (.getfield 88, 3) := by decide +kernel
theorem dX3_ringsCross_40 : decode cX3_ringsCross 40 = .ok (.if_icmp .ne 18, 3) := by decide +kernel
theorem dX3_ringsCross_43 : decode cX3_ringsCross 43 = .ok (.aload_n 2, 1) := by decide +kernel
theorem dX3_ringsCross_44 : decode cX3_ringsCross 44 = .ok (.getfield 53, 3) := by decide +kernel
theorem dX3_ringsCross_47 : decode cX3_ringsCross 47 = .ok (.aload_n 0, 1) := by decide +kernel
theorem dX3_ringsCross_48 : decode cX3_ringsCross 48 = .ok (.getfield 91, 3) := by decide +kernel
theorem dX3_ringsCross_51 : decode cX3_ringsCross 51 = .ok (.if_icmp .ne 7, 3) := by decide +kernel
theorem dX3_ringsCross_54 : decode cX3_ringsCross 54 = .ok (.iconst 1, 1) := by decide +kernel
theorem dX3_ringsCross_55 : decode cX3_ringsCross 55 = .ok (.goto 4, 3) := by decide +kernel
theorem dX3_ringsCross_58 : decode cX3_ringsCross 58 = .ok (.iconst 0, 1) := by decide +kernel
theorem dX3_ringsCross_59 : decode cX3_ringsCross 59 = .ok (.istore_n 3, 1) := by decide +kernel
theorem dX3_ringsCross_60 : decode cX3_ringsCross 60 = .ok (.iload_n 3, 1) := by decide +kernel
theorem dX3_ringsCross_61 : decode cX3_ringsCross 61 = .ok (.ifCond .eq 17, 3) := by decide +kernel
theorem dX3_ringsCross_64 : decode cX3_ringsCross 64 = .ok (.aload_n 2, 1) := by decide +kernel
theorem dX3_ringsCross_65 : decode cX3_ringsCross 65 = .ok (.getfield 98, 3) := by decide +kernel
theorem dX3_ringsCross_68 : decode cX3_ringsCross 68 = .ok (.ifnull 10, 3) := by decide +kernel
theorem dX3_ringsCross_71 : decode cX3_ringsCross 71 = .ok (.aload_n 2, 1) := by decide +kernel
theorem dX3_ringsCross_72 : decode cX3_ringsCross 72 = .ok (.getfield 98, 3) := by decide +kernel
theorem dX3_ringsCross_75 : decode cX3_ringsCross 75 = .ok (.goto 4, 3) := by decide +kernel
theorem dX3_ringsCross_78 : decode cX3_ringsCross 78 = .ok (.aload_n 2, 1) := by decide +kernel
theorem dX3_ringsCross_79 : decode cX3_ringsCross 79 = .ok (.astore 4, 2) := by decide +kernel
theorem dX3_ringsCross_81 : decode cX3_ringsCross 81 = .ok (.aload_n 1, 1) := by decide +kernel
theorem dX3_ringsCross_82 : decode cX3_ringsCross 82 = .ok (.aload_n 0, 1) := by decide +kernel
theorem dX3_ringsCross_83 : decode cX3_ringsCross 83 = .ok (.getfield 88, 3) := by decide +kernel
theorem dX3_ringsCross_86 : decode cX3_ringsCross 86 = .ok (.aload_n 0, 1) := by decide +kernel
theorem dX3_ringsCross_87 : decode cX3_ringsCross 87 = .ok (.getfield 91, 3) := by decide +kernel
theorem dX3_ringsCross_90 : decode cX3_ringsCross 90 = .ok (.aload_n 2, 1) := by decide +kernel
theorem dX3_ringsCross_91 : decode cX3_ringsCross 91 = .ok (.getfield 39, 3) := by decide +kernel
theorem dX3_ringsCross_94 : decode cX3_ringsCross 94 = .ok (.aload_n 2, 1) := by decide +kernel
theorem dX3_ringsCross_95 : decode cX3_ringsCross 95 = .ok (.getfield 43, 3) := by decide +kernel
theorem dX3_ringsCross_98 : decode cX3_ringsCross 98 = .ok (.invokevirtual 102, 3) := by decide +kernel
theorem dX3_ringsCross_101 : decode cX3_ringsCross 101 = .ok (.istore 5, 2) := by decide +kernel
theorem dX3_ringsCross_103 : decode cX3_ringsCross 103 = .ok (.aload_n 1, 1) := by decide +kernel
theorem dX3_ringsCross_104 : decode cX3_ringsCross 104 = .ok (.aload_n 0, 1) := by decide +kernel
theorem dX3_ringsCross_105 : decode cX3_ringsCross 105 = .ok (.getfield 88, 3) := by decide +kernel
theorem dX3_ringsCross_108 : decode cX3_ringsCross 108 = .ok (.aload_n 0, 1) := by decide +kernel
theorem dX3_ringsCross_109 : decode cX3_ringsCross 109 = .ok (.getfield 91, 3) := by decide +kernel
theorem dX3_ringsCross_112 : decode cX3_ringsCross 112 = .ok (.aload 4, 2) := by decide +kernel
theorem dX3_ringsCross_114 : decode cX3_ringsCross 114 = .ok (.getfield 50, 3) := by decide +kernel
theorem dX3_ringsCross_117 : decode cX3_ringsCross 117 = .ok (.aload 4, 2) := by decide +kernel
theorem dX3_ringsCross_119 : decode cX3_ringsCross 119 = .ok (.getfield 53, 3) := by decide +kernel
theorem dX3_ringsCross_122 : decode cX3_ringsCross 122 = .ok (.invokevirtual 102, 3) := by decide +kernel
theorem dX3_ringsCross_125 : decode cX3_ringsCross 125 = .ok (.istore 6, 2) := by decide +kernel
theorem dX3_ringsCross_127 : decode cX3_ringsCross 127 = .ok (.iload 5, 2) := by decide +kernel
theorem dX3_ringsCross_129 : decode cX3_ringsCross 129 = .ok (.iload 6, 2) := by decide +kernel
theorem dX3_ringsCross_131 : decode cX3_ringsCross 131 = .ok (.if_icmp .eq 7, 3) := by decide +kernel
theorem dX3_ringsCross_134 : decode cX3_ringsCross 134 = .ok (.iconst 1, 1) := by decide +kernel
theorem dX3_ringsCross_135 : decode cX3_ringsCross 135 = .ok (.goto 4, 3) := by decide +kernel
theorem dX3_ringsCross_138 : decode cX3_ringsCross 138 = .ok (.iconst 0, 1) := by decide +kernel
theorem dX3_ringsCross_139 : decode cX3_ringsCross 139 = .ok (.ireturn, 1) := by decide +kernel
theorem dX4_init_0 : decode cX4_init 0 = .ok (.aload_n 0, 1) := by decide +kernel
theorem dX4_init_1 : decode cX4_init 1 = .ok (.invokespecial 3, 3) := by decide +kernel
theorem dX4_init_4 : decode cX4_init 4 = .ok (.aload_n 0, 1) := by decide +kernel
theorem dX4_init_5 : decode cX4_init 5 = .ok (.iload_n 1, 1) := by decide +kernel
theorem dX4_init_6 : decode cX4_init 6 = .ok (.putfield 9, 3) := by decide +kernel
theorem dX4_init_9 : decode cX4_init 9 = .ok (.aload_n 0, 1) := by decide +kernel
theorem dX4_init_10 : decode cX4_init 10 = .ok (.aload_n 2, 1) := by decide +kernel
theorem dX4_init_11 : decode cX4_init 11 = .ok (.putfield 15, 3) := by decide +kernel
theorem dX4_init_14 : decode cX4_init 14 = .ok (.return_, 1) := by decide +kernel
theorem dX4_isInside_0 : decode cX4_isInside 0 = .ok (.aload_n 0, 1) := by decide +kernel
theorem dX4_isInside_1 : decode cX4_isInside 1 = .ok (.getfield 15, 3) := by decide +kernel
theorem dX4_isInside_4 : decode cX4_isInside 4 = .ok (.arraylength, 1) := by decide +kernel
theorem dX4_isInside_5 : decode cX4_isInside 5 = .ok (.ifCond .eq 11, 3) := by decide +kernel
theorem dX4_isInside_8 : decode cX4_isInside 8 = .ok (.aload_n 1, 1) := by decide +kernel
theorem dX4_isInside_9 : decode cX4_isInside 9 = .ok (.getfield 15, 3) := by decide +kernel
theorem dX4_isInside_12 : decode cX4_isInside 12 = .ok (.arraylength, 1) := by decide +kernel
theorem dX4_isInside_13 : decode cX4_isInside 13 = .ok (.ifCond .ne 5, 3) := by decide +kernel
theorem dX4_isInside_16 : decode cX4_isInside 16 = .ok (.iconst 0, 1) := by decide +kernel
theorem dX4_isInside_17 : decode cX4_isInside 17 = .ok (.ireturn, 1) := by decide +kernel
theorem dX4_isInside_18 : decode cX4_isInside 18 = .ok (.aload_n 0, 1) := by decide +kernel
theorem dX4_isInside_19 : decode cX4_isInside 19 = .ok (.getfield 15, 3) := by decide +kernel
theorem dX4_isInside_22 : decode cX4_isInside 22 = .ok (.iconst 0, 1) := by decide +kernel
theorem dX4_isInside_23 : decode cX4_isInside 23 = .ok (.aaload, 1) := by decide +kernel
theorem dX4_isInside_24 : decode cX4_isInside 24 = .ok (.aload_n 1, 1) := by decide +kernel
theorem dX4_isInside_25 : decode cX4_isInside 25 = .ok (.getfield 15, 3) := by decide +kernel
theorem dX4_isInside_28 : decode cX4_isInside 28 = .ok (.iconst 0, 1) := by decide +kernel
theorem dX4_isInside_29 : decode cX4_isInside 29 = .ok (.aaload, 1) := by decide +kernel
theorem dX4_isInside_30 : decode cX4_isInside 30 = .ok (.invokevirtual 19, 3) := by decide +kernel
theorem dX4_isInside_33 : decode cX4_isInside 33 = .ok (.ifCond .ne 5, 3) := by decide +kernel
theorem dX4_isInside_36 : decode cX4_isInside 36 = .ok (.iconst 0, 1) := by decide +kernel
theorem dX4_isInside_37 : decode cX4_isInside 37 = .ok (.ireturn, 1) := by decide +kernel
theorem dX4_isInside_38 : decode cX4_isInside 38 = .ok (.iconst 1, 1) := by decide +kernel
theorem dX4_isInside_39 : decode cX4_isInside 39 = .ok (.istore_n 2, 1) := by decide +kernel
theorem dX4_isInside_40 : decode cX4_isInside 40 = .ok (.iload_n 2, 1) := by decide +kernel
theorem dX4_isInside_41 : decode cX4_isInside 41 = .ok (.aload_n 1, 1) := by decide +kernel
theorem dX4_isInside_42 : decode cX4_isInside 42 = .ok (.getfield 15, 3) := by decide +kernel
theorem dX4_isInside_45 : decode cX4_isInside 45 = .ok (.arraylength, 1) := by decide +kernel
theorem dX4_isInside_46 : decode cX4_isInside 46 = .ok (.if_icmp .ge 29, 3) := by decide +kernel
theorem dX4_isInside_49 : decode cX4_isInside 49 = .ok (.aload_n 0, 1) := by decide +kernel
theorem dX4_isInside_50 : decode cX4_isInside 50 = .ok (.getfield 15, 3) := by decide +kernel
theorem dX4_isInside_53 : decode cX4_isInside 53 = .ok (.iconst 0, 1) := by decide +kernel
theorem dX4_isInside_54 : decode cX4_isInside 54 = .ok (.aaload, 1) := by decide +kernel
theorem dX4_isInside_55 : decode cX4_isInside 55 = .ok (.aload_n 1, 1) := by decide +kernel
theorem dX4_isInside_56 : decode cX4_isInside 56 = .ok (.getfield 15, 3) := by decide +kernel
theorem dX4_isInside_59 : decode cX4_isInside 59 = .ok (.iload_n 2, 1) := by decide +kernel
theorem dX4_isInside_60 : decode cX4_isInside 60 = .ok (.aaload, 1) := by decide +kernel
theorem dX4_isInside_61 : decode cX4_isInside 61 = .ok (.invokevirtual 19, 3) := by decide +kernel
theorem dX4_isInside_64 : decode cX4_isInside 64 = .ok (.ifCond .eq 5, 3) := by decide +kernel
theorem dX4_isInside_67 : decode cX4_isInside 67 = .ok (.iconst 0, 1) := by decide +kernel
theorem dX4_isInside_68 : decode cX4_isInside 68 = .ok (.ireturn, 1) := by decide +kernel
theorem dX4_isInside_69 : decode cX4_isInside 69 = .ok (.iinc 2 1, 3) := by decide +kernel
theorem dX4_isInside_72 : decode cX4_isInside 72 = .ok (.goto (-32), 3) := by decide +kernel
theorem dX4_isInside_75 : decode cX4_isInside 75 = .ok (.iconst 1, 1) := by decide +kernel
theorem dX4_isInside_76 : decode cX4_isInside 76 = .ok (.ireturn, 1) := by decide +kernel
theorem dX4_isSplit_0 : decode cX4_isSplit 0 = .ok (.aload_n 0, 1) := by decide +kernel
theorem dX4_isSplit_1 : decode cX4_isSplit 1 = .ok (.getfield 15, 3) := by decide +kernel
theorem dX4_isSplit_4 : decode cX4_isSplit 4 = .ok (.arraylength, 1) := by decide +kernel
theorem dX4_isSplit_5 : decode cX4_isSplit 5 = .ok (.newarray .int, 2) := by decide +kernel
theorem dX4_isSplit_7 : decode cX4_isSplit 7 = .ok (.astore_n 1, 1) := by decide +kernel
theorem dX4_isSplit_8 : decode cX4_isSplit 8 = .ok (.iconst 0, 1) := by decide +kernel
theorem dX4_isSplit_9 : decode cX4_isSplit 9 = .ok (.istore_n 2, 1) := by decide +kernel
theorem dX4_isSplit_10 : decode cX4_isSplit 10 = .ok (.iload_n 2, 1) := by decide +kernel
theorem dX4_isSplit_11 : decode cX4_isSplit 11 = .ok (.aload_n 1, 1) := by decide +kernel
theorem dX4_isSplit_12 : decode cX4_isSplit 12 = .ok (.arraylength, 1) := by decide +kernel
theorem dX4_isSplit_13 : decode cX4_isSplit 13 = .ok (.if_icmp .ge 13, 3) := by decide +kernel
theorem dX4_isSplit_16 : decode cX4_isSplit 16 = .ok (.aload_n 1, 1) := by decide +kernel
theorem dX4_isSplit_17 : decode cX4_isSplit 17 = .ok (.iload_n 2, 1) := by decide +kernel
theorem dX4_isSplit_18 : decode cX4_isSplit 18 = .ok (.iload_n 2, 1) := by decide +kernel
theorem dX4_isSplit_19 : decode cX4_isSplit 19 = .ok (.iastore, 1) := by decide +kernel
theorem dX4_isSplit_20 : decode cX4_isSplit 20 = .ok (.iinc 2 1, 3) := by decide +kernel
theorem dX4_isSplit_23 : decode cX4_isSplit 23 = .ok (.goto (-13), 3) := by decide +kernel
theorem dX4_isSplit_26 : decode cX4_isSplit 26 = .ok (.iconst 0, 1) := by decide +kernel
theorem dX4_isSplit_27 : decode cX4_isSplit 27 = .ok (.istore_n 2, 1) := by decide +kernel
theorem dX4_isSplit_28 : decode cX4_isSplit 28 = .ok (.iload_n 2, 1) := by decide +kernel
theorem dX4_isSplit_29 : decode cX4_isSplit 29 = .ok (.aload_n 0, 1) := by decide +kernel
theorem dX4_isSplit_30 : decode cX4_isSplit 30 = .ok (.getfield 15, 3) := by decide +kernel
theorem dX4_isSplit_33 : decode cX4_isSplit 33 = .ok (.arraylength, 1) := by decide +kernel
theorem dX4_isSplit_34 : decode cX4_isSplit 34 = .ok (.if_icmp .ge 65, 3) := by decide +kernel
theorem dX4_isSplit_37 : decode cX4_isSplit 37 = .ok (.aload_n 0, 1) := by decide +kernel
theorem dX4_isSplit_38 : decode cX4_isSplit 38 = .ok (.getfield 15, 3) := by decide +kernel
theorem dX4_isSplit_41 : decode cX4_isSplit 41 = .ok (.iload_n 2, 1) := by decide +kernel
theorem dX4_isSplit_42 : decode cX4_isSplit 42 = .ok (.aaload, 1) := by decide +kernel
theorem dX4_isSplit_43 : decode cX4_isSplit 43 = .ok (.astore_n 3, 1) := by decide +kernel
theorem dX4_isSplit_44 : decode cX4_isSplit 44 = .ok (.iconst 0, 1) := by decide +kernel
theorem dX4_isSplit_45 : decode cX4_isSplit 45 = .ok (.istore 4, 2) := by decide +kernel
theorem dX4_isSplit_47 : decode cX4_isSplit 47 = .ok (.iload 4, 2) := by decide +kernel
theorem dX4_isSplit_49 : decode cX4_isSplit 49 = .ok (.aload_n 3, 1) := by decide +kernel
theorem dX4_isSplit_50 : decode cX4_isSplit 50 = .ok (.getfield 25, 3) := by decide +kernel
theorem dX4_isSplit_53 : decode cX4_isSplit 53 = .ok (.if_icmp .ge 40, 3) := by decide +kernel
theorem dX4_isSplit_56 : decode cX4_isSplit 56 = .ok (.aload_n 3, 1) := by decide +kernel
theorem dX4_isSplit_57 : decode cX4_isSplit 57 = .ok (.getfield 28, 3) := by decide +kernel
theorem dX4_isSplit_60 : decode cX4_isSplit 60 = .ok (.iload 4, 2) := by decide +kernel
theorem dX4_isSplit_62 : decode cX4_isSplit 62 = .ok (.aaload, 1) := by decide +kernel
theorem dX4_isSplit_63 : decode cX4_isSplit 63 = .ok (.astore 5, 2) := by decide +kernel
theorem dX4_isSplit_65 : decode cX4_isSplit 65 = .ok (.aload_n 0, 1) := by decide +kernel
theorem dX4_isSplit_66 : decode cX4_isSplit 66 = .ok (.iload_n 2, 1) := by decide +kernel
theorem dX4_isSplit_67 : decode cX4_isSplit 67 = .ok (.aload 5, 2) := by decide +kernel
theorem dX4_isSplit_69 : decode cX4_isSplit 69 = .ok (.invokevirtual 32, 3) := by decide +kernel
theorem dX4_isSplit_72 : decode cX4_isSplit 72 = .ok (.ifCond .eq 15, 3) := by decide +kernel
theorem dX4_isSplit_75 : decode cX4_isSplit 75 = .ok (.aload_n 0, 1) := by decide +kernel
theorem dX4_isSplit_76 : decode cX4_isSplit 76 = .ok (.aload 5, 2) := by decide +kernel
theorem dX4_isSplit_78 : decode cX4_isSplit 78 = .ok (.aload_n 1, 1) := by decide +kernel
theorem dX4_isSplit_79 : decode cX4_isSplit 79 = .ok (.invokevirtual 36, 3) := by decide +kernel
theorem dX4_isSplit_82 : decode cX4_isSplit 82 = .ok (.ifCond .eq 5, 3) := by decide +kernel
theorem dX4_isSplit_85 : decode cX4_isSplit 85 = .ok (.iconst 1, 1) := by decide +kernel
theorem dX4_isSplit_86 : decode cX4_isSplit 86 = .ok (.ireturn, 1) := by decide +kernel
theorem dX4_isSplit_87 : decode cX4_isSplit 87 = .ok (.iinc 4 1, 3) := by decide +kernel
theorem dX4_isSplit_90 : decode cX4_isSplit 90 = .ok (.goto (-43), 3) := by decide +kernel
theorem dX4_isSplit_93 : decode cX4_isSplit 93 = .ok (.iinc 2 1, 3) := by decide +kernel
theorem dX4_isSplit_96 : decode cX4_isSplit 96 = .ok (.goto (-68), 3) := by decide +kernel
theorem dX4_isSplit_99 : decode cX4_isSplit 99 = .ok (.iconst 0, 1) := by decide +kernel
theorem dX4_isSplit_100 : decode cX4_isSplit 100 = .ok (.ireturn, 1) := by decide +kernel
theorem dX4_isNewCorner_0 : decode cX4_isNewCorner 0 = .ok (.iconst 0, 1) := by decide +kernel
theorem dX4_isNewCorner_1 : decode cX4_isNewCorner 1 = .ok (.istore_n 3, 1) := by decide +kernel
theorem dX4_isNewCorner_2 : decode cX4_isNewCorner 2 = .ok (.iload_n 3, 1) := by decide +kernel
theorem dX4_isNewCorner_3 : decode cX4_isNewCorner 3 = .ok (.iload_n 1, 1) := by decide +kernel
theorem dX4_isNewCorner_4 : decode cX4_isNewCorner 4 = .ok (.if_icmp .ge 63, 3) := by decide +kernel
theorem dX4_isNewCorner_7 : decode cX4_isNewCorner 7 = .ok (.iload_n 3, 1) := by decide +kernel
theorem dX4_isNewCorner_8 : decode cX4_isNewCorner 8 = .ok (.aload_n 0, 1) := by decide +kernel
theorem dX4_isNewCorner_9 : decode cX4_isNewCorner 9 = .ok (.getfield 15, 3) := by decide +kernel
theorem dX4_isNewCorner_12 : decode cX4_isNewCorner 12 = .ok (.arraylength, 1) := by decide +kernel
theorem dX4_isNewCorner_13 : decode cX4_isNewCorner 13 = .ok (.if_icmp .ge 54, 3) := by decide +kernel
theorem dX4_isNewCorner_16 : decode cX4_isNewCorner 16 = .ok (.aload_n 0, 1) := by decide +kernel
theorem dX4_isNewCorner_17 : decode cX4_isNewCorner 17 = .ok (.getfield 15, 3) := by decide +kernel
theorem dX4_isNewCorner_20 : decode cX4_isNewCorner 20 = .ok (.iload_n 3, 1) := by decide +kernel
theorem dX4_isNewCorner_21 : decode cX4_isNewCorner 21 = .ok (.aaload, 1) := by decide +kernel
theorem dX4_isNewCorner_22 : decode cX4_isNewCorner 22 = .ok (.getfield 40, 3) := by decide +kernel
theorem dX4_isNewCorner_25 : decode cX4_isNewCorner 25 = .ok (.aload_n 2, 1) := by decide +kernel
theorem dX4_isNewCorner_26 : decode cX4_isNewCorner 26 = .ok (.getfield 44, 3) := by decide +kernel
theorem dX4_isNewCorner_29 : decode cX4_isNewCorner 29 = .ok (.aload_n 2, 1) := by decide +kernel
theorem dX4_isNewCorner_30 : decode cX4_isNewCorner 30 = .ok (.getfield 49, 3) := by decide +kernel
theorem dX4_isNewCorner_33 : decode cX4_isNewCorner 33 = .ok (.invokevirtual 52, 3) := by decide +kernel
theorem dX4_isNewCorner_36 : decode cX4_isNewCorner 36 = .ok (.ifCond .eq 25, 3) := by decide +kernel
theorem dX4_isNewCorner_39 : decode cX4_isNewCorner 39 = .ok (.aload_n 0, 1) := by decide +kernel
theorem dX4_isNewCorner_40 : decode cX4_isNewCorner 40 = .ok (.getfield 15, 3) := by decide +kernel
theorem dX4_isNewCorner_43 : decode cX4_isNewCorner 43 = .ok (.iload_n 3, 1) := by decide +kernel
theorem dX4_isNewCorner_44 : decode cX4_isNewCorner 44 = .ok (.aaload, 1) := by decide +kernel
theorem dX4_isNewCorner_45 : decode cX4_isNewCorner 45 = .ok (.aload_n 2, 1) := by decide +kernel
theorem dX4_isNewCorner_46 : decode cX4_isNewCorner 46 = .ok (.getfield 44, 3) := by decide +kernel
theorem dX4_isNewCorner_49 : decode cX4_isNewCorner 49 = .ok (.aload_n 2, 1) := by decide +kernel
theorem dX4_isNewCorner_50 : decode cX4_isNewCorner 50 = .ok (.getfield 49, 3) := by decide +kernel
theorem dX4_isNewCorner_53 : decode cX4_isNewCorner 53 = .ok (.invokevirtual 58, 3) := by decide +kernel
theorem dX4_isNewCorner_56 : decode cX4_isNewCorner 56 = .ok (.ifCond .eq 5, 3) := by decide +kernel
theorem dX4_isNewCorner_59 : decode cX4_isNewCorner 59 = .ok (.iconst 0, 1) := by decide +kernel
theorem dX4_isNewCorner_60 : decode cX4_isNewCorner 60 = .ok (.ireturn, 1) := by decide +kernel
theorem dX4_isNewCorner_61 : decode cX4_isNewCorner 61 = .ok (.iinc 3 1, 3) := by decide +kernel
theorem dX4_isNewCorner_64 : decode cX4_isNewCorner 64 = .ok (.goto (-62), 3) := by decide +kernel
theorem dX4_isNewCorner_67 : decode cX4_isNewCorner 67 = .ok (.iconst 1, 1) := by decide +kernel
theorem dX4_isNewCorner_68 : decode cX4_isNewCorner 68 = .ok (.ireturn, 1) := by decide +kernel
theorem dX4_joinsInRound_0 : decode cX4_joinsInRound 0 = .ok (.iconst (-1), 1) := by decide +kernel
theorem dX4_joinsInRound_1 : decode cX4_joinsInRound 1 = .ok (.istore_n 3, 1) := by decide +kernel
theorem dX4_joinsInRound_2 : decode cX4_joinsInRound 2 = .ok (.iconst 0, 1) := by decide +kernel
theorem dX4_joinsInRound_3 : decode cX4_joinsInRound 3 = .ok (.istore 4, 2) := by decide +kernel
theorem dX4_joinsInRound_5 : decode cX4_joinsInRound 5 = .ok (.iload 4, 2) := by decide +kernel
theorem dX4_joinsInRound_7 : decode cX4_joinsInRound 7 = .ok (.aload_n 0, 1) := by decide +kernel
theorem dX4_joinsInRound_8 : decode cX4_joinsInRound 8 = .ok (.getfield 15, 3) := by decide +kernel
theorem dX4_joinsInRound_11 : decode cX4_joinsInRound 11 = .ok (.arraylength, 1) := by decide +kernel
theorem dX4_joinsInRound_12 : decode cX4_joinsInRound 12 = .ok (.if_icmp .ge 72, 3) := by decide +kernel
theorem dX4_joinsInRound_15 : decode cX4_joinsInRound 15 = .ok (.iload 4, 2) := by decide +kernel
theorem dX4_joinsInRound_17 : decode cX4_joinsInRound 17 = .ok (.aload_n 2, 1) := by decide +kernel
theorem dX4_joinsInRound_18 : decode cX4_joinsInRound 18 = .ok (.arraylength, 1) := by decide +kernel
theorem dX4_joinsInRound_19 : decode cX4_joinsInRound 19 = .ok (.if_icmp .ge 65, 3) := by decide +kernel
theorem dX4_joinsInRound_22 : decode cX4_joinsInRound 22 = .ok (.aload_n 0, 1) := by decide +kernel
theorem dX4_joinsInRound_23 : decode cX4_joinsInRound 23 = .ok (.getfield 15, 3) := by decide +kernel
theorem dX4_joinsInRound_26 : decode cX4_joinsInRound 26 = .ok (.iload 4, 2) := by decide +kernel
theorem dX4_joinsInRound_28 : decode cX4_joinsInRound 28 = .ok (.aaload, 1) := by decide +kernel
theorem dX4_joinsInRound_29 : decode cX4_joinsInRound 29 = .ok (.aload_n 1, 1) := by decide +kernel
theorem dX4_joinsInRound_30 : decode cX4_joinsInRound 30 = .ok (.getfield 44, 3) := by decide +kernel
theorem dX4_joinsInRound_33 : decode cX4_joinsInRound 33 = .ok (.aload_n 1, 1) := by decide +kernel
theorem dX4_joinsInRound_34 : decode cX4_joinsInRound 34 = .ok (.getfield 49, 3) := by decide +kernel
theorem dX4_joinsInRound_37 : decode cX4_joinsInRound 37 = .ok (.invokevirtual 61, 3) := by decide +kernel
theorem dX4_joinsInRound_40 : decode cX4_joinsInRound 40 = .ok (.ifCond .ne 6, 3) := by decide +kernel
theorem dX4_joinsInRound_43 : decode cX4_joinsInRound 43 = .ok (.goto 35, 3) := by decide +kernel
theorem dX4_joinsInRound_46 : decode cX4_joinsInRound 46 = .ok (.iload_n 3, 1) := by decide +kernel
theorem dX4_joinsInRound_47 : decode cX4_joinsInRound 47 = .ok (.iconst (-1), 1) := by decide +kernel
theorem dX4_joinsInRound_48 : decode cX4_joinsInRound 48 = .ok (.if_icmp .ne 11, 3) := by decide +kernel
theorem dX4_joinsInRound_51 : decode cX4_joinsInRound 51 = .ok (.aload_n 2, 1) := by decide +kernel
theorem dX4_joinsInRound_52 : decode cX4_joinsInRound 52 = .ok (.iload 4, 2) := by decide +kernel
theorem dX4_joinsInRound_54 : decode cX4_joinsInRound 54 = .ok (.iaload, 1) := by decide +kernel
theorem dX4_joinsInRound_55 : decode cX4_joinsInRound 55 = .ok (.istore_n 3, 1) := by decide +kernel
theorem dX4_joinsInRound_56 : decode cX4_joinsInRound 56 = .ok (.goto 22, 3) := by decide +kernel
theorem dX4_joinsInRound_59 : decode cX4_joinsInRound 59 = .ok (.aload_n 2, 1) := by decide +kernel
theorem dX4_joinsInRound_60 : decode cX4_joinsInRound 60 = .ok (.iload 4, 2) := by decide +kernel
theorem dX4_joinsInRound_62 : decode cX4_joinsInRound 62 = .ok (.iaload, 1) := by decide +kernel
theorem dX4_joinsInRound_63 : decode cX4_joinsInRound 63 = .ok (.iload_n 3, 1) := by decide +kernel
theorem dX4_joinsInRound_64 : decode cX4_joinsInRound 64 = .ok (.if_icmp .ne 5, 3) := by decide +kernel
theorem dX4_joinsInRound_67 : decode cX4_joinsInRound 67 = .ok (.iconst 1, 1) := by decide +kernel
theorem dX4_joinsInRound_68 : decode cX4_joinsInRound 68 = .ok (.ireturn, 1) := by decide +kernel
theorem dX4_joinsInRound_69 : decode cX4_joinsInRound 69 = .ok (.aload_n 2, 1) := by decide +kernel
theorem dX4_joinsInRound_70 : decode cX4_joinsInRound 70 = .ok (.aload_n 2, 1) := by decide +kernel
theorem dX4_joinsInRound_71 : decode cX4_joinsInRound 71 = .ok (.iload 4, 2) := by decide +kernel
theorem dX4_joinsInRound_73 : decode cX4_joinsInRound 73 = .ok (.iaload, 1) := by decide +kernel
theorem dX4_joinsInRound_74 : decode cX4_joinsInRound 74 = .ok (.iload_n 3, 1) := by decide +kernel
theorem dX4_joinsInRound_75 : decode cX4_joinsInRound 75 = .ok (.invokestatic 64, 3) := by decide +kernel
theorem dX4_joinsInRound_78 : decode cX4_joinsInRound 78 = .ok (.iinc 4 1, 3) := by decide +kernel
theorem dX4_joinsInRound_81 : decode cX4_joinsInRound 81 = .ok (.goto (-76), 3) := by decide +kernel
theorem dX4_joinsInRound_84 : decode cX4_joinsInRound 84 = .ok (.iconst 0, 1) := by decide +kernel
theorem dX4_joinsInRound_85 : decode cX4_joinsInRound 85 = .ok (.ireturn, 1) := by decide +kernel
theorem dX4_renameGroup_0 : decode cX4_renameGroup 0 = .ok (.iconst 0, 1) := by decide +kernel
theorem dX4_renameGroup_1 : decode cX4_renameGroup 1 = .ok (.istore_n 3, 1) := by decide +kernel
theorem dX4_renameGroup_2 : decode cX4_renameGroup 2 = .ok (.iload_n 3, 1) := by decide +kernel
theorem dX4_renameGroup_3 : decode cX4_renameGroup 3 = .ok (.aload_n 0, 1) := by decide +kernel
theorem dX4_renameGroup_4 : decode cX4_renameGroup 4 = .ok (.arraylength, 1) := by decide +kernel
theorem dX4_renameGroup_5 : decode cX4_renameGroup 5 = .ok (.if_icmp .ge 20, 3) := by decide +kernel
theorem dX4_renameGroup_8 : decode cX4_renameGroup 8 = .ok (.aload_n 0, 1) := by decide +kernel
theorem dX4_renameGroup_9 : decode cX4_renameGroup 9 = .ok (.iload_n 3, 1) := by decide +kernel
theorem dX4_renameGroup_10 : decode cX4_renameGroup 10 = .ok (.iaload, 1) := by decide +kernel
theorem dX4_renameGroup_11 : decode cX4_renameGroup 11 = .ok (.iload_n 1, 1) := by decide +kernel
theorem dX4_renameGroup_12 : decode cX4_renameGroup 12 = .ok (.if_icmp .ne 7, 3) := by decide +kernel
theorem dX4_renameGroup_15 : decode cX4_renameGroup 15 = .ok (.aload_n 0, 1) := by decide +kernel
theorem dX4_renameGroup_16 : decode cX4_renameGroup 16 = .ok (.iload_n 3, 1) := by decide +kernel
theorem dX4_renameGroup_17 : decode cX4_renameGroup 17 = .ok (.iload_n 2, 1) := by decide +kernel
theorem dX4_renameGroup_18 : decode cX4_renameGroup 18 = .ok (.iastore, 1) := by decide +kernel
theorem dX4_renameGroup_19 : decode cX4_renameGroup 19 = .ok (.iinc 3 1, 3) := by decide +kernel
theorem dX4_renameGroup_22 : decode cX4_renameGroup 22 = .ok (.goto (-20), 3) := by decide +kernel
theorem dX4_renameGroup_25 : decode cX4_renameGroup 25 = .ok (.return_, 1) := by decide +kernel
theorem dX5_init_0 : decode cX5_init 0 = .ok (.aload_n 0, 1) := by decide +kernel
theorem dX5_init_1 : decode cX5_init 1 = .ok (.invokespecial 1, 3) := by decide +kernel
theorem dX5_init_4 : decode cX5_init 4 = .ok (.aload_n 0, 1) := by decide +kernel
theorem dX5_init_5 : decode cX5_init 5 = .ok (.iload_n 1, 1) := by decide +kernel
theorem dX5_init_6 : decode cX5_init 6 = .ok (.putfield 7, 3) := by decide +kernel
theorem dX5_init_9 : decode cX5_init 9 = .ok (.aload_n 0, 1) := by decide +kernel
theorem dX5_init_10 : decode cX5_init 10 = .ok (.iload_n 2, 1) := by decide +kernel
theorem dX5_init_11 : decode cX5_init 11 = .ok (.putfield 13, 3) := by decide +kernel
theorem dX5_init_14 : decode cX5_init 14 = .ok (.aload_n 0, 1) := by decide +kernel
theorem dX5_init_15 : decode cX5_init 15 = .ok (.new 16, 3) := by decide +kernel
theorem dX5_init_18 : decode cX5_init 18 = .ok (.dup, 1) := by decide +kernel
theorem dX5_init_19 : decode cX5_init 19 = .ok (.invokespecial 18, 3) := by decide +kernel
theorem dX5_init_22 : decode cX5_init 22 = .ok (.putfield 19, 3) := by decide +kernel
theorem dX5_init_25 : decode cX5_init 25 = .ok (.aload_n 0, 1) := by decide +kernel
theorem dX5_init_26 : decode cX5_init 26 = .ok (.iconst 0, 1) := by decide +kernel
theorem dX5_init_27 : decode cX5_init 27 = .ok (.iload_n 3, 1) := by decide +kernel
theorem dX5_init_28 : decode cX5_init 28 = .ok (.invokestatic 23, 3) := by decide +kernel
theorem dX5_init_31 : decode cX5_init 31 = .ok (.anewarray 29, 3) := by decide +kernel
theorem dX5_init_34 : decode cX5_init 34 = .ok (.putfield 31, 3) := by decide +kernel
theorem dX5_init_37 : decode cX5_init 37 = .ok (.return_, 1) := by decide +kernel
theorem dX5_add_0 : decode cX5_add 0 = .ok (.aload_n 0, 1) := by decide +kernel
theorem dX5_add_1 : decode cX5_add 1 = .ok (.getfield 35, 3) := by decide +kernel
theorem dX5_add_4 : decode cX5_add 4 = .ok (.aload_n 0, 1) := by decide +kernel
theorem dX5_add_5 : decode cX5_add 5 = .ok (.getfield 31, 3) := by decide +kernel
theorem dX5_add_8 : decode cX5_add 8 = .ok (.arraylength, 1) := by decide +kernel
theorem dX5_add_9 : decode cX5_add 9 = .ok (.if_icmp .lt 4, 3) := by decide +kernel
theorem dX5_add_12 : decode cX5_add 12 = .ok (.return_, 1) := by decide +kernel
theorem dX5_add_13 : decode cX5_add 13 = .ok (.aload_n 0, 1) := by decide +kernel
theorem dX5_add_14 : decode cX5_add 14 = .ok (.getfield 35, 3) := by decide +kernel
theorem dX5_add_17 : decode cX5_add 17 = .ok (.ifCond .le 28, 3) := by decide +kernel
theorem dX5_add_20 : decode cX5_add 20 = .ok (.aload_n 0, 1) := by decide +kernel
theorem dX5_add_21 : decode cX5_add 21 = .ok (.getfield 31, 3) := by decide +kernel
theorem dX5_add_24 : decode cX5_add 24 = .ok (.aload_n 0, 1) := by decide +kernel
theorem dX5_add_25 : decode cX5_add 25 = .ok (.getfield 35, 3) := by decide +kernel
theorem dX5_add_28 : decode cX5_add 28 = .ok (.iconst 1, 1) := by decide +kernel
theorem dX5_add_29 : decode cX5_add 29 = .ok (.isub, 1) := by decide +kernel
theorem dX5_add_30 : decode cX5_add 30 = .ok (.aaload, 1) := by decide +kernel
theorem dX5_add_31 : decode cX5_add 31 = .ok (.aload_n 1, 1) := by decide +kernel
theorem dX5_add_32 : decode cX5_add 32 = .ok (.putfield 38, 3) := by decide +kernel
theorem dX5_add_35 : decode cX5_add 35 = .ok (.aload_n 1, 1) := by decide +kernel
theorem dX5_add_36 : decode cX5_add 36 = .ok (.aload_n 0, 1) := by decide +kernel
theorem dX5_add_37 : decode cX5_add 37 = .ok (.getfield 31, 3) := by decide +kernel
theorem dX5_add_40 : decode cX5_add 40 = .ok (.iconst 0, 1) := by decide +kernel
theorem dX5_add_41 : decode cX5_add 41 = .ok (.aaload, 1) := by decide +kernel
theorem dX5_add_42 : decode cX5_add 42 = .ok (.putfield 38, 3) := by decide +kernel
theorem dX5_add_45 : decode cX5_add 45 = .ok (.aload_n 0, 1) := by decide +kernel
theorem dX5_add_46 : decode cX5_add 46 = .ok (.getfield 31, 3) := by decide +kernel
theorem dX5_add_49 : decode cX5_add 49 = .ok (.aload_n 0, 1) := by decide +kernel
theorem dX5_add_50 : decode cX5_add 50 = .ok (.getfield 35, 3) := by decide +kernel
theorem dX5_add_53 : decode cX5_add 53 = .ok (.aload_n 1, 1) := by decide +kernel
theorem dX5_add_54 : decode cX5_add 54 = .ok (.aastore, 1) := by decide +kernel
theorem dX5_add_55 : decode cX5_add 55 = .ok (.aload_n 0, 1) := by decide +kernel
theorem dX5_add_56 : decode cX5_add 56 = .ok (.dup, 1) := by decide +kernel
theorem dX5_add_57 : decode cX5_add 57 = .ok (.getfield 35, 3) := by decide +kernel
theorem dX5_add_60 : decode cX5_add 60 = .ok (.iconst 1, 1) := by decide +kernel
theorem dX5_add_61 : decode cX5_add 61 = .ok (.iadd, 1) := by decide +kernel
theorem dX5_add_62 : decode cX5_add 62 = .ok (.putfield 35, 3) := by decide +kernel
theorem dX5_add_65 : decode cX5_add 65 = .ok (.aload_n 0, 1) := by decide +kernel
theorem dX5_add_66 : decode cX5_add 66 = .ok (.getfield 19, 3) := by decide +kernel
theorem dX5_add_69 : decode cX5_add 69 = .ok (.aload_n 1, 1) := by decide +kernel
theorem dX5_add_70 : decode cX5_add 70 = .ok (.getfield 42, 3) := by decide +kernel
theorem dX5_add_73 : decode cX5_add 73 = .ok (.aload_n 1, 1) := by decide +kernel
theorem dX5_add_74 : decode cX5_add 74 = .ok (.getfield 45, 3) := by decide +kernel
theorem dX5_add_77 : decode cX5_add 77 = .ok (.invokevirtual 48, 3) := by decide +kernel
theorem dX5_add_80 : decode cX5_add 80 = .ok (.aload_n 0, 1) := by decide +kernel
theorem dX5_add_81 : decode cX5_add 81 = .ok (.getfield 19, 3) := by decide +kernel
theorem dX5_add_84 : decode cX5_add 84 = .ok (.aload_n 1, 1) := by decide +kernel
theorem dX5_add_85 : decode cX5_add 85 = .ok (.getfield 52, 3) := by decide +kernel
theorem dX5_add_88 : decode cX5_add 88 = .ok (.aload_n 1, 1) := by decide +kernel
theorem dX5_add_89 : decode cX5_add 89 = .ok (.getfield 55, 3) := by decide +kernel
theorem dX5_add_92 : decode cX5_add 92 = .ok (.invokevirtual 48, 3) := by decide +kernel
theorem dX5_add_95 : decode cX5_add 95 = .ok (.return_, 1) := by decide +kernel
theorem dX5_passes_0 : decode cX5_passes 0 = .ok (.aload_n 0, 1) := by decide +kernel
theorem dX5_passes_1 : decode cX5_passes 1 = .ok (.getfield 19, 3) := by decide +kernel
theorem dX5_passes_4 : decode cX5_passes 4 = .ok (.iload_n 1, 1) := by decide +kernel
theorem dX5_passes_5 : decode cX5_passes 5 = .ok (.iload_n 2, 1) := by decide +kernel
theorem dX5_passes_6 : decode cX5_passes 6 = .ok (.invokevirtual 58, 3) := by decide +kernel
theorem dX5_passes_9 : decode cX5_passes 9 = .ok (.ifCond .ne 5, 3) := by decide +kernel
theorem dX5_passes_12 : decode cX5_passes 12 = .ok (.iconst 0, 1) := by decide +kernel
theorem dX5_passes_13 : decode cX5_passes 13 = .ok (.ireturn, 1) := by decide +kernel
theorem dX5_passes_14 : decode cX5_passes 14 = .ok (.iconst 0, 1) := by decide +kernel
theorem dX5_passes_15 : decode cX5_passes 15 = .ok (.istore_n 3, 1) := by decide +kernel
theorem dX5_passes_16 : decode cX5_passes 16 = .ok (.iload_n 3, 1) := by decide +kernel
theorem dX5_passes_17 : decode cX5_passes 17 = .ok (.aload_n 0, 1) := by decide +kernel
theorem dX5_passes_18 : decode cX5_passes 18 = .ok (.getfield 35, 3) := by decide +kernel
theorem dX5_passes_21 : decode cX5_passes 21 = .ok (.if_icmp .ge 25, 3) := by decide +kernel
theorem dX5_passes_24 : decode cX5_passes 24 = .ok (.aload_n 0, 1) := by decide +kernel
theorem dX5_passes_25 : decode cX5_passes 25 = .ok (.getfield 31, 3) := by decide +kernel
theorem dX5_passes_28 : decode cX5_passes 28 = .ok (.iload_n 3, 1) := by decide +kernel
theorem dX5_passes_29 : decode cX5_passes 29 = .ok (.aaload, 1) := by decide +kernel
theorem dX5_passes_30 : decode cX5_passes 30 = .ok (.iload_n 1, 1) := by decide +kernel
theorem dX5_passes_31 : decode cX5_passes 31 = .ok (.iload_n 2, 1) := by decide +kernel
theorem dX5_passes_32 : decode cX5_passes 32 = .ok (.invokevirtual 62, 3) := by decide +kernel
theorem dX5_passes_35 : decode cX5_passes 35 = .ok (.ifCond .eq 5, 3) := by decide +kernel
theorem dX5_passes_38 : decode cX5_passes 38 = .ok (.iconst 1, 1) := by decide +kernel
theorem dX5_passes_39 : decode cX5_passes 39 = .ok (.ireturn, 1) := by decide +kernel
theorem dX5_passes_40 : decode cX5_passes 40 = .ok (.iinc 3 1, 3) := by decide +kernel
theorem dX5_passes_43 : decode cX5_passes 43 = .ok (.goto (-27), 3) := by decide +kernel
theorem dX5_passes_46 : decode cX5_passes 46 = .ok (.iconst 0, 1) := by decide +kernel
theorem dX5_passes_47 : decode cX5_passes 47 = .ok (.ireturn, 1) := by decide +kernel
theorem dX5_hasCorner_0 : decode cX5_hasCorner 0 = .ok (.iconst 0, 1) := by decide +kernel
theorem dX5_hasCorner_1 : decode cX5_hasCorner 1 = .ok (.istore_n 3, 1) := by decide +kernel
theorem dX5_hasCorner_2 : decode cX5_hasCorner 2 = .ok (.iload_n 3, 1) := by decide +kernel
theorem dX5_hasCorner_3 : decode cX5_hasCorner 3 = .ok (.aload_n 0, 1) := by decide +kernel
theorem dX5_hasCorner_4 : decode cX5_hasCorner 4 = .ok (.getfield 35, 3) := by decide +kernel
theorem dX5_hasCorner_7 : decode cX5_hasCorner 7 = .ok (.if_icmp .ge 25, 3) := by decide +kernel
theorem dX5_hasCorner_10 : decode cX5_hasCorner 10 = .ok (.aload_n 0, 1) := by decide +kernel
theorem dX5_hasCorner_11 : decode cX5_hasCorner 11 = .ok (.getfield 31, 3) := by decide +kernel
theorem dX5_hasCorner_14 : decode cX5_hasCorner 14 = .ok (.iload_n 3, 1) := by decide +kernel
theorem dX5_hasCorner_15 : decode cX5_hasCorner 15 = .ok (.aaload, 1) := by decide +kernel
theorem dX5_hasCorner_16 : decode cX5_hasCorner 16 = .ok (.iload_n 1, 1) := by decide +kernel
theorem dX5_hasCorner_17 : decode cX5_hasCorner 17 = .ok (.iload_n 2, 1) := by decide +kernel
theorem dX5_hasCorner_18 : decode cX5_hasCorner 18 = .ok (.invokevirtual 65, 3) := by decide +kernel
theorem dX5_hasCorner_21 : decode cX5_hasCorner 21 = .ok (.ifCond .eq 5, 3) := by decide +kernel
theorem dX5_hasCorner_24 : decode cX5_hasCorner 24 = .ok (.iconst 1, 1) := by decide +kernel
theorem dX5_hasCorner_25 : decode cX5_hasCorner 25 = .ok (.ireturn, 1) := by decide +kernel
theorem dX5_hasCorner_26 : decode cX5_hasCorner 26 = .ok (.iinc 3 1, 3) := by decide +kernel
theorem dX5_hasCorner_29 : decode cX5_hasCorner 29 = .ok (.goto (-27), 3) := by decide +kernel
theorem dX5_hasCorner_32 : decode cX5_hasCorner 32 = .ok (.iconst 0, 1) := by decide +kernel
theorem dX5_hasCorner_33 : decode cX5_hasCorner 33 = .ok (.ireturn, 1) := by decide +kernel
theorem dX5_holds_0 : decode cX5_holds 0 = .ok (.aload_n 0, 1) := by decide +kernel
theorem dX5_holds_1 : decode cX5_holds 1 = .ok (.getfield 19, 3) := by decide +kernel
theorem dX5_holds_4 : decode cX5_holds 4 = .ok (.iload_n 1, 1) := by decide +kernel
theorem dX5_holds_5 : decode cX5_holds 5 = .ok (.iload_n 2, 1) := by decide +kernel
theorem dX5_holds_6 : decode cX5_holds 6 = .ok (.invokevirtual 58, 3) := by decide +kernel
theorem dX5_holds_9 : decode cX5_holds 9 = .ok (.ifCond .ne 5, 3) := by decide +kernel
theorem dX5_holds_12 : decode cX5_holds 12 = .ok (.iconst 0, 1) := by decide +kernel
theorem dX5_holds_13 : decode cX5_holds 13 = .ok (.ireturn, 1) := by decide +kernel
theorem dX5_holds_14 : decode cX5_holds 14 = .ok (.iconst 0, 1) := by decide +kernel
theorem dX5_holds_15 : decode cX5_holds 15 = .ok (.istore 7, 2) := by decide +kernel
theorem dX5_holds_17 : decode cX5_holds 17 = .ok (.iconst 0, 1) := by decide +kernel
theorem dX5_holds_18 : decode cX5_holds 18 = .ok (.istore 8, 2) := by decide +kernel
theorem dX5_holds_20 : decode cX5_holds 20 = .ok (.iload 8, 2) := by decide +kernel
theorem dX5_holds_22 : decode cX5_holds 22 = .ok (.aload_n 0, 1) := by decide +kernel
theorem dX5_holds_23 : decode cX5_holds 23 = .ok (.getfield 35, 3) := by decide +kernel
theorem dX5_holds_26 : decode cX5_holds 26 = .ok (.if_icmp .ge 39, 3) := by decide +kernel
theorem dX5_holds_29 : decode cX5_holds 29 = .ok (.aload_n 0, 1) := by decide +kernel
theorem dX5_holds_30 : decode cX5_holds 30 = .ok (.getfield 31, 3) := by decide +kernel
theorem dX5_holds_33 : decode cX5_holds 33 = .ok (.iload 8, 2) := by decide +kernel
theorem dX5_holds_35 : decode cX5_holds 35 = .ok (.aaload, 1) := by decide +kernel
theorem dX5_holds_36 : decode cX5_holds 36 = .ok (.iload_n 1, 1) := by decide +kernel
theorem dX5_holds_37 : decode cX5_holds 37 = .ok (.iload_n 2, 1) := by decide +kernel
theorem dX5_holds_38 : decode cX5_holds 38 = .ok (.lload_n 3, 1) := by decide +kernel
theorem dX5_holds_39 : decode cX5_holds 39 = .ok (.lload 5, 2) := by decide +kernel
theorem dX5_holds_41 : decode cX5_holds 41 = .ok (.invokevirtual 68, 3) := by decide +kernel
theorem dX5_holds_44 : decode cX5_holds 44 = .ok (.ifCond .eq 15, 3) := by decide +kernel
theorem dX5_holds_47 : decode cX5_holds 47 = .ok (.iload 7, 2) := by decide +kernel
theorem dX5_holds_49 : decode cX5_holds 49 = .ok (.ifCond .ne 7, 3) := by decide +kernel
theorem dX5_holds_52 : decode cX5_holds 52 = .ok (.iconst 1, 1) := by decide +kernel
theorem dX5_holds_53 : decode cX5_holds 53 = .ok (.goto 4, 3) := by decide +kernel
theorem dX5_holds_56 : decode cX5_holds 56 = .ok (.iconst 0, 1) := by decide +kernel
theorem dX5_holds_57 : decode cX5_holds 57 = .ok (.istore 7, 2) := by decide +kernel
theorem dX5_holds_59 : decode cX5_holds 59 = .ok (.iinc 8 1, 3) := by decide +kernel
theorem dX5_holds_62 : decode cX5_holds 62 = .ok (.goto (-42), 3) := by decide +kernel
theorem dX5_holds_65 : decode cX5_holds 65 = .ok (.iload 7, 2) := by decide +kernel
theorem dX5_holds_67 : decode cX5_holds 67 = .ok (.ireturn, 1) := by decide +kernel
theorem dX5_liesIn_0 : decode cX5_liesIn 0 = .ok (.iconst 0, 1) := by decide +kernel
theorem dX5_liesIn_1 : decode cX5_liesIn 1 = .ok (.istore_n 2, 1) := by decide +kernel
theorem dX5_liesIn_2 : decode cX5_liesIn 2 = .ok (.iload_n 2, 1) := by decide +kernel
theorem dX5_liesIn_3 : decode cX5_liesIn 3 = .ok (.aload_n 0, 1) := by decide +kernel
theorem dX5_liesIn_4 : decode cX5_liesIn 4 = .ok (.getfield 35, 3) := by decide +kernel
theorem dX5_liesIn_7 : decode cX5_liesIn 7 = .ok (.if_icmp .ge 46, 3) := by decide +kernel
theorem dX5_liesIn_10 : decode cX5_liesIn 10 = .ok (.aload_n 0, 1) := by decide +kernel
theorem dX5_liesIn_11 : decode cX5_liesIn 11 = .ok (.getfield 31, 3) := by decide +kernel
theorem dX5_liesIn_14 : decode cX5_liesIn 14 = .ok (.iload_n 2, 1) := by decide +kernel
theorem dX5_liesIn_15 : decode cX5_liesIn 15 = .ok (.aaload, 1) := by decide +kernel
theorem dX5_liesIn_16 : decode cX5_liesIn 16 = .ok (.astore_n 3, 1) := by decide +kernel
theorem dX5_liesIn_17 : decode cX5_liesIn 17 = .ok (.aload_n 1, 1) := by decide +kernel
theorem dX5_liesIn_18 : decode cX5_liesIn 18 = .ok (.aload_n 3, 1) := by decide +kernel
theorem dX5_liesIn_19 : decode cX5_liesIn 19 = .ok (.getfield 42, 3) := by decide +kernel
theorem dX5_liesIn_22 : decode cX5_liesIn 22 = .ok (.aload_n 3, 1) := by decide +kernel
theorem dX5_liesIn_23 : decode cX5_liesIn 23 = .ok (.getfield 45, 3) := by decide +kernel
theorem dX5_liesIn_26 : decode cX5_liesIn 26 = .ok (.invokevirtual 72, 3) := by decide +kernel
theorem dX5_liesIn_29 : decode cX5_liesIn 29 = .ok (.ifCond .ne 18, 3) := by decide +kernel
theorem dX5_liesIn_32 : decode cX5_liesIn 32 = .ok (.aload_n 1, 1) := by decide +kernel
theorem dX5_liesIn_33 : decode cX5_liesIn 33 = .ok (.aload_n 3, 1) := by decide +kernel
theorem dX5_liesIn_34 : decode cX5_liesIn 34 = .ok (.getfield 42, 3) := by decide +kernel
theorem dX5_liesIn_37 : decode cX5_liesIn 37 = .ok (.aload_n 3, 1) := by decide +kernel
theorem dX5_liesIn_38 : decode cX5_liesIn 38 = .ok (.getfield 45, 3) := by decide +kernel
theorem dX5_liesIn_41 : decode cX5_liesIn 41 = .ok (.lconst 0, 1) := by decide +kernel
theorem dX5_liesIn_42 : decode cX5_liesIn 42 = .ok (.lconst 0, 1) := by decide +kernel
theorem dX5_liesIn_43 : decode cX5_liesIn 43 = .ok (.invokevirtual 73, 3) := by decide +kernel
theorem dX5_liesIn_46 : decode cX5_liesIn 46 = .ok (.ireturn, 1) := by decide +kernel
theorem dX5_liesIn_47 : decode cX5_liesIn 47 = .ok (.iinc 2 1, 3) := by decide +kernel
theorem dX5_liesIn_50 : decode cX5_liesIn 50 = .ok (.goto (-48), 3) := by decide +kernel
theorem dX5_liesIn_53 : decode cX5_liesIn 53 = .ok (.aload_n 0, 1) := by decide +kernel
theorem dX5_liesIn_54 : decode cX5_liesIn 54 = .ok (.getfield 35, 3) := by decide +kernel
theorem dX5_liesIn_57 : decode cX5_liesIn 57 = .ok (.ifCond .ne 5, 3) := by decide +kernel
theorem dX5_liesIn_60 : decode cX5_liesIn 60 = .ok (.iconst 0, 1) := by decide +kernel
theorem dX5_liesIn_61 : decode cX5_liesIn 61 = .ok (.ireturn, 1) := by decide +kernel
theorem dX5_liesIn_62 : decode cX5_liesIn 62 = .ok (.aload_n 0, 1) := by decide +kernel
theorem dX5_liesIn_63 : decode cX5_liesIn 63 = .ok (.getfield 31, 3) := by decide +kernel
theorem dX5_liesIn_66 : decode cX5_liesIn 66 = .ok (.iconst 0, 1) := by decide +kernel
theorem dX5_liesIn_67 : decode cX5_liesIn 67 = .ok (.aaload, 1) := by decide +kernel
theorem dX5_liesIn_68 : decode cX5_liesIn 68 = .ok (.astore_n 2, 1) := by decide +kernel
theorem dX5_liesIn_69 : decode cX5_liesIn 69 = .ok (.aload_n 1, 1) := by decide +kernel
theorem dX5_liesIn_70 : decode cX5_liesIn 70 = .ok (.aload_n 2, 1) := by decide +kernel
theorem dX5_liesIn_71 : decode cX5_liesIn 71 = .ok (.getfield 42, 3) := by decide +kernel
theorem dX5_liesIn_74 : decode cX5_liesIn 74 = .ok (.aload_n 2, 1) := by decide +kernel
theorem dX5_liesIn_75 : decode cX5_liesIn 75 = .ok (.getfield 45, 3) := by decide +kernel
theorem dX5_liesIn_78 : decode cX5_liesIn 78 = .ok (.aload_n 2, 1) := by decide +kernel
theorem dX5_liesIn_79 : decode cX5_liesIn 79 = .ok (.getfield 52, 3) := by decide +kernel
theorem dX5_liesIn_82 : decode cX5_liesIn 82 = .ok (.i2l, 1) := by decide +kernel
theorem dX5_liesIn_83 : decode cX5_liesIn 83 = .ok (.aload_n 2, 1) := by decide +kernel
theorem dX5_liesIn_84 : decode cX5_liesIn 84 = .ok (.getfield 42, 3) := by decide +kernel
theorem dX5_liesIn_87 : decode cX5_liesIn 87 = .ok (.i2l, 1) := by decide +kernel
theorem dX5_liesIn_88 : decode cX5_liesIn 88 = .ok (.lsub, 1) := by decide +kernel
theorem dX5_liesIn_89 : decode cX5_liesIn 89 = .ok (.aload_n 2, 1) := by decide +kernel
theorem dX5_liesIn_90 : decode cX5_liesIn 90 = .ok (.getfield 55, 3) := by decide +kernel
theorem dX5_liesIn_93 : decode cX5_liesIn 93 = .ok (.i2l, 1) := by decide +kernel
theorem dX5_liesIn_94 : decode cX5_liesIn 94 = .ok (.aload_n 2, 1) := by decide +kernel
theorem dX5_liesIn_95 : decode cX5_liesIn 95 = .ok (.getfield 45, 3) := by decide +kernel
theorem dX5_liesIn_98 : decode cX5_liesIn 98 = .ok (.i2l, 1) := by decide +kernel
theorem dX5_liesIn_99 : decode cX5_liesIn 99 = .ok (.lsub, 1) := by decide +kernel
theorem dX5_liesIn_100 : decode cX5_liesIn 100 = .ok (.invokevirtual 73, 3) := by decide +kernel
theorem dX5_liesIn_103 : decode cX5_liesIn 103 = .ok (.ireturn, 1) := by decide +kernel
theorem dX6_init_0 : decode cX6_init 0 = .ok (.aload_n 0, 1) := by decide +kernel
theorem dX6_init_1 : decode cX6_init 1 = .ok (.invokespecial 3, 3) := by decide +kernel
theorem dX6_init_4 : decode cX6_init 4 = .ok (.aload_n 0, 1) := by decide +kernel
theorem dX6_init_5 : decode cX6_init 5 = .ok (.bipush 32, 2) := by decide +kernel
theorem dX6_init_7 : decode cX6_init 7 = .ok (.newarray .int, 2) := by decide +kernel
theorem dX6_init_9 : decode cX6_init 9 = .ok (.putfield 9, 3) := by decide +kernel
theorem dX6_init_12 : decode cX6_init 12 = .ok (.return_, 1) := by decide +kernel
theorem dX6_size_0 : decode cX6_size 0 = .ok (.aload_n 0, 1) := by decide +kernel
theorem dX6_size_1 : decode cX6_size 1 = .ok (.getfield 15, 3) := by decide +kernel
theorem dX6_size_4 : decode cX6_size 4 = .ok (.ireturn, 1) := by decide +kernel
theorem dX6_get_0 : decode cX6_get 0 = .ok (.iload_n 1, 1) := by decide +kernel
theorem dX6_get_1 : decode cX6_get 1 = .ok (.ifCond .lt 20, 3) := by decide +kernel
theorem dX6_get_4 : decode cX6_get 4 = .ok (.iload_n 1, 1) := by decide +kernel
theorem dX6_get_5 : decode cX6_get 5 = .ok (.aload_n 0, 1) := by decide +kernel
theorem dX6_get_6 : decode cX6_get 6 = .ok (.getfield 15, 3) := by decide +kernel
theorem dX6_get_9 : decode cX6_get 9 = .ok (.if_icmp .ge 12, 3) := by decide +kernel
theorem dX6_get_12 : decode cX6_get 12 = .ok (.aload_n 0, 1) := by decide +kernel
theorem dX6_get_13 : decode cX6_get 13 = .ok (.getfield 9, 3) := by decide +kernel
theorem dX6_get_16 : decode cX6_get 16 = .ok (.iload_n 1, 1) := by decide +kernel
theorem dX6_get_17 : decode cX6_get 17 = .ok (.iaload, 1) := by decide +kernel
theorem dX6_get_18 : decode cX6_get 18 = .ok (.goto 4, 3) := by decide +kernel
theorem dX6_get_21 : decode cX6_get 21 = .ok (.iconst 0, 1) := by decide +kernel
theorem dX6_get_22 : decode cX6_get 22 = .ok (.ireturn, 1) := by decide +kernel
theorem dX6_last_0 : decode cX6_last 0 = .ok (.aload_n 0, 1) := by decide +kernel
theorem dX6_last_1 : decode cX6_last 1 = .ok (.aload_n 0, 1) := by decide +kernel
theorem dX6_last_2 : decode cX6_last 2 = .ok (.getfield 15, 3) := by decide +kernel
theorem dX6_last_5 : decode cX6_last 5 = .ok (.iconst 1, 1) := by decide +kernel
theorem dX6_last_6 : decode cX6_last 6 = .ok (.isub, 1) := by decide +kernel
theorem dX6_last_7 : decode cX6_last 7 = .ok (.invokevirtual 19, 3) := by decide +kernel
theorem dX6_last_10 : decode cX6_last 10 = .ok (.ireturn, 1) := by decide +kernel
theorem dX6_add_0 : decode cX6_add 0 = .ok (.aload_n 0, 1) := by decide +kernel
theorem dX6_add_1 : decode cX6_add 1 = .ok (.getfield 15, 3) := by decide +kernel
theorem dX6_add_4 : decode cX6_add 4 = .ok (.aload_n 0, 1) := by decide +kernel
theorem dX6_add_5 : decode cX6_add 5 = .ok (.getfield 9, 3) := by decide +kernel
theorem dX6_add_8 : decode cX6_add 8 = .ok (.arraylength, 1) := by decide +kernel
theorem dX6_add_9 : decode cX6_add 9 = .ok (.if_icmp .lt 21, 3) := by decide +kernel
theorem dX6_add_12 : decode cX6_add 12 = .ok (.aload_n 0, 1) := by decide +kernel
theorem dX6_add_13 : decode cX6_add 13 = .ok (.aload_n 0, 1) := by decide +kernel
theorem dX6_add_14 : decode cX6_add 14 = .ok (.getfield 9, 3) := by decide +kernel
theorem dX6_add_17 : decode cX6_add 17 = .ok (.iconst 2, 1) := by decide +kernel
theorem dX6_add_18 : decode cX6_add 18 = .ok (.aload_n 0, 1) := by decide +kernel
theorem dX6_add_19 : decode cX6_add 19 = .ok (.getfield 9, 3) := by decide +kernel
theorem dX6_add_22 : decode cX6_add 22 = .ok (.arraylength, 1) := by decide +kernel
theorem dX6_add_23 : decode cX6_add 23 = .ok (.imul, 1) := by decide +kernel
theorem dX6_add_24 : decode cX6_add 24 = .ok (.invokestatic 23, 3) := by decide +kernel
theorem dX6_add_27 : decode cX6_add 27 = .ok (.putfield 9, 3) := by decide +kernel
theorem dX6_add_30 : decode cX6_add 30 = .ok (.aload_n 0, 1) := by decide +kernel
theorem dX6_add_31 : decode cX6_add 31 = .ok (.getfield 9, 3) := by decide +kernel
theorem dX6_add_34 : decode cX6_add 34 = .ok (.aload_n 0, 1) := by decide +kernel
theorem dX6_add_35 : decode cX6_add 35 = .ok (.getfield 15, 3) := by decide +kernel
theorem dX6_add_38 : decode cX6_add 38 = .ok (.iload_n 1, 1) := by decide +kernel
theorem dX6_add_39 : decode cX6_add 39 = .ok (.iastore, 1) := by decide +kernel
theorem dX6_add_40 : decode cX6_add 40 = .ok (.aload_n 0, 1) := by decide +kernel
theorem dX6_add_41 : decode cX6_add 41 = .ok (.dup, 1) := by decide +kernel
theorem dX6_add_42 : decode cX6_add 42 = .ok (.getfield 15, 3) := by decide +kernel
theorem dX6_add_45 : decode cX6_add 45 = .ok (.iconst 1, 1) := by decide +kernel
theorem dX6_add_46 : decode cX6_add 46 = .ok (.iadd, 1) := by decide +kernel
theorem dX6_add_47 : decode cX6_add 47 = .ok (.putfield 15, 3) := by decide +kernel
theorem dX6_add_50 : decode cX6_add 50 = .ok (.return_, 1) := by decide +kernel
theorem dX6_dropLast_0 : decode cX6_dropLast 0 = .ok (.aload_n 0, 1) := by decide +kernel
theorem dX6_dropLast_1 : decode cX6_dropLast 1 = .ok (.getfield 15, 3) := by decide +kernel
theorem dX6_dropLast_4 : decode cX6_dropLast 4 = .ok (.ifCond .le 13, 3) := by decide +kernel
theorem dX6_dropLast_7 : decode cX6_dropLast 7 = .ok (.aload_n 0, 1) := by decide +kernel
theorem dX6_dropLast_8 : decode cX6_dropLast 8 = .ok (.dup, 1) := by decide +kernel
theorem dX6_dropLast_9 : decode cX6_dropLast 9 = .ok (.getfield 15, 3) := by decide +kernel
theorem dX6_dropLast_12 : decode cX6_dropLast 12 = .ok (.iconst 1, 1) := by decide +kernel
theorem dX6_dropLast_13 : decode cX6_dropLast 13 = .ok (.isub, 1) := by decide +kernel
theorem dX6_dropLast_14 : decode cX6_dropLast 14 = .ok (.putfield 15, 3) := by decide +kernel
theorem dX6_dropLast_17 : decode cX6_dropLast 17 = .ok (.return_, 1) := by decide +kernel
theorem dX6_empty_0 : decode cX6_empty 0 = .ok (.aload_n 0, 1) := by decide +kernel
theorem dX6_empty_1 : decode cX6_empty 1 = .ok (.iconst 0, 1) := by decide +kernel
theorem dX6_empty_2 : decode cX6_empty 2 = .ok (.putfield 15, 3) := by decide +kernel
theorem dX6_empty_5 : decode cX6_empty 5 = .ok (.return_, 1) := by decide +kernel
theorem dX7_init_0 : decode cX7_init 0 = .ok (.aload_n 0, 1) := by decide +kernel
theorem dX7_init_1 : decode cX7_init 1 = .ok (.invokespecial 1, 3) := by decide +kernel
theorem dX7_init_4 : decode cX7_init 4 = .ok (.aload_n 0, 1) := by decide +kernel
theorem dX7_init_5 : decode cX7_init 5 = .ok (.aload_n 1, 1) := by decide +kernel
theorem dX7_init_6 : decode cX7_init 6 = .ok (.putfield 7, 3) := by decide +kernel
theorem dX7_init_9 : decode cX7_init 9 = .ok (.aload_n 0, 1) := by decide +kernel
theorem dX7_init_10 : decode cX7_init 10 = .ok (.iload_n 2, 1) := by decide +kernel
theorem dX7_init_11 : decode cX7_init 11 = .ok (.putfield 13, 3) := by decide +kernel
theorem dX7_init_14 : decode cX7_init 14 = .ok (.aload_n 0, 1) := by decide +kernel
theorem dX7_init_15 : decode cX7_init 15 = .ok (.iload_n 3, 1) := by decide +kernel
theorem dX7_init_16 : decode cX7_init 16 = .ok (.putfield 17, 3) := by decide +kernel
theorem dX7_init_19 : decode cX7_init 19 = .ok (.aload_n 0, 1) := by decide +kernel
theorem dX7_init_20 : decode cX7_init 20 = .ok (.iload 4, 2) := by decide +kernel
theorem dX7_init_22 : decode cX7_init 22 = .ok (.putfield 20, 3) := by decide +kernel
theorem dX7_init_25 : decode cX7_init 25 = .ok (.aload_n 0, 1) := by decide +kernel
theorem dX7_init_26 : decode cX7_init 26 = .ok (.iload 5, 2) := by decide +kernel
theorem dX7_init_28 : decode cX7_init 28 = .ok (.putfield 23, 3) := by decide +kernel
theorem dX7_init_31 : decode cX7_init 31 = .ok (.aload_n 0, 1) := by decide +kernel
theorem dX7_init_32 : decode cX7_init 32 = .ok (.iload 6, 2) := by decide +kernel
theorem dX7_init_34 : decode cX7_init 34 = .ok (.putfield 26, 3) := by decide +kernel
theorem dX7_init_37 : decode cX7_init 37 = .ok (.aload_n 0, 1) := by decide +kernel
theorem dX7_init_38 : decode cX7_init 38 = .ok (.new 29, 3) := by decide +kernel
theorem dX7_init_41 : decode cX7_init 41 = .ok (.dup, 1) := by decide +kernel
theorem dX7_init_42 : decode cX7_init 42 = .ok (.invokespecial 31, 3) := by decide +kernel
theorem dX7_init_45 : decode cX7_init 45 = .ok (.putfield 32, 3) := by decide +kernel
theorem dX7_init_48 : decode cX7_init 48 = .ok (.aload_n 0, 1) := by decide +kernel
theorem dX7_init_49 : decode cX7_init 49 = .ok (.getfield 32, 3) := by decide +kernel
theorem dX7_init_52 : decode cX7_init 52 = .ok (.iload_n 3, 1) := by decide +kernel
theorem dX7_init_53 : decode cX7_init 53 = .ok (.iload 4, 2) := by decide +kernel
theorem dX7_init_55 : decode cX7_init 55 = .ok (.invokevirtual 36, 3) := by decide +kernel
theorem dX7_init_58 : decode cX7_init 58 = .ok (.aload_n 0, 1) := by decide +kernel
theorem dX7_init_59 : decode cX7_init 59 = .ok (.getfield 32, 3) := by decide +kernel
theorem dX7_init_62 : decode cX7_init 62 = .ok (.iload 5, 2) := by decide +kernel
theorem dX7_init_64 : decode cX7_init 64 = .ok (.iload 6, 2) := by decide +kernel
theorem dX7_init_66 : decode cX7_init 66 = .ok (.invokevirtual 36, 3) := by decide +kernel
theorem dX7_init_69 : decode cX7_init 69 = .ok (.return_, 1) := by decide +kernel
theorem dX7_beginsAt_0 : decode cX7_beginsAt 0 = .ok (.aload_n 0, 1) := by decide +kernel
theorem dX7_beginsAt_1 : decode cX7_beginsAt 1 = .ok (.getfield 17, 3) := by decide +kernel
theorem dX7_beginsAt_4 : decode cX7_beginsAt 4 = .ok (.iload_n 1, 1) := by decide +kernel
theorem dX7_beginsAt_5 : decode cX7_beginsAt 5 = .ok (.if_icmp .ne 15, 3) := by decide +kernel
theorem dX7_beginsAt_8 : decode cX7_beginsAt 8 = .ok (.aload_n 0, 1) := by decide +kernel
theorem dX7_beginsAt_9 : decode cX7_beginsAt 9 = .ok (.getfield 20, 3) := by decide +kernel
theorem dX7_beginsAt_12 : decode cX7_beginsAt 12 = .ok (.iload_n 2, 1) := by decide +kernel
theorem dX7_beginsAt_13 : decode cX7_beginsAt 13 = .ok (.if_icmp .ne 7, 3) := by decide +kernel
theorem dX7_beginsAt_16 : decode cX7_beginsAt 16 = .ok (.iconst 1, 1) := by decide +kernel
theorem dX7_beginsAt_17 : decode cX7_beginsAt 17 = .ok (.goto 4, 3) := by decide +kernel
theorem dX7_beginsAt_20 : decode cX7_beginsAt 20 = .ok (.iconst 0, 1) := by decide +kernel
theorem dX7_beginsAt_21 : decode cX7_beginsAt 21 = .ok (.ireturn, 1) := by decide +kernel
theorem dX7_isNeighbourOf_0 : decode cX7_isNeighbourOf 0 = .ok (.aload_n 0, 1) := by decide +kernel
theorem dX7_isNeighbourOf_1 : decode cX7_isNeighbourOf 1 = .ok (.getfield 40, 3) := by decide +kernel
theorem dX7_isNeighbourOf_4 : decode cX7_isNeighbourOf 4 = .ok (.aload_n 1, 1) := by decide +kernel
theorem dX7_isNeighbourOf_5 : decode cX7_isNeighbourOf 5 = .ok (.if_acmp .eq 11, 3) := by decide +kernel
theorem dX7_isNeighbourOf_8 : decode cX7_isNeighbourOf 8 = .ok (.aload_n 1, 1) := by decide +kernel
theorem dX7_isNeighbourOf_9 : decode cX7_isNeighbourOf 9 = .ok (.getfield 40, 3) := by decide +kernel
theorem dX7_isNeighbourOf_12 : decode cX7_isNeighbourOf 12 = .ok (.aload_n 0, 1) := by decide +kernel
theorem dX7_isNeighbourOf_13 : decode cX7_isNeighbourOf 13 = .ok (.if_acmp .ne 7, 3) := by decide +kernel
theorem dX7_isNeighbourOf_16 : decode cX7_isNeighbourOf 16 = .ok (.iconst 1, 1) := by decide +kernel
theorem dX7_isNeighbourOf_17 : decode cX7_isNeighbourOf 17 = .ok (.goto 4, 3) := by decide +kernel
theorem dX7_isNeighbourOf_20 : decode cX7_isNeighbourOf 20 = .ok (.iconst 0, 1) := by decide +kernel
theorem dX7_isNeighbourOf_21 : decode cX7_isNeighbourOf 21 = .ok (.ireturn, 1) := by decide +kernel
theorem dX7_side_0 : decode cX7_side 0 = .ok (.aload_n 0, 1) := by decide +kernel
theorem dX7_side_1 : decode cX7_side 1 = .ok (.getfield 23, 3) := by decide +kernel
theorem dX7_side_4 : decode cX7_side 4 = .ok (.i2l, 1) := by decide +kernel
theorem dX7_side_5 : decode cX7_side 5 = .ok (.aload_n 0, 1) := by decide +kernel
theorem dX7_side_6 : decode cX7_side 6 = .ok (.getfield 17, 3) := by decide +kernel
theorem dX7_side_9 : decode cX7_side 9 = .ok (.i2l, 1) := by decide +kernel
theorem dX7_side_10 : decode cX7_side 10 = .ok (.lsub, 1) := by decide +kernel
theorem dX7_side_11 : decode cX7_side 11 = .ok (.iload_n 2, 1) := by decide +kernel
theorem dX7_side_12 : decode cX7_side 12 = .ok (.i2l, 1) := by decide +kernel
theorem dX7_side_13 : decode cX7_side 13 = .ok (.aload_n 0, 1) := by decide +kernel
theorem dX7_side_14 : decode cX7_side 14 = .ok (.getfield 20, 3) := by decide +kernel
theorem dX7_side_17 : decode cX7_side 17 = .ok (.i2l, 1) := by decide +kernel
theorem dX7_side_18 : decode cX7_side 18 = .ok (.lsub, 1) := by decide +kernel
theorem dX7_side_19 : decode cX7_side 19 = .ok (.lmul, 1) := by decide +kernel
theorem dX7_side_20 : decode cX7_side 20 = .ok (.aload_n 0, 1) := by decide +kernel
theorem dX7_side_21 : decode cX7_side 21 = .ok (.getfield 26, 3) := by decide +kernel
theorem dX7_side_24 : decode cX7_side 24 = .ok (.i2l, 1) := by decide +kernel
theorem dX7_side_25 : decode cX7_side 25 = .ok (.aload_n 0, 1) := by decide +kernel
theorem dX7_side_26 : decode cX7_side 26 = .ok (.getfield 20, 3) := by decide +kernel
theorem dX7_side_29 : decode cX7_side 29 = .ok (.i2l, 1) := by decide +kernel
theorem dX7_side_30 : decode cX7_side 30 = .ok (.lsub, 1) := by decide +kernel
theorem dX7_side_31 : decode cX7_side 31 = .ok (.iload_n 1, 1) := by decide +kernel
theorem dX7_side_32 : decode cX7_side 32 = .ok (.i2l, 1) := by decide +kernel
theorem dX7_side_33 : decode cX7_side 33 = .ok (.aload_n 0, 1) := by decide +kernel
theorem dX7_side_34 : decode cX7_side 34 = .ok (.getfield 17, 3) := by decide +kernel
theorem dX7_side_37 : decode cX7_side 37 = .ok (.i2l, 1) := by decide +kernel
theorem dX7_side_38 : decode cX7_side 38 = .ok (.lsub, 1) := by decide +kernel
theorem dX7_side_39 : decode cX7_side 39 = .ok (.lmul, 1) := by decide +kernel
theorem dX7_side_40 : decode cX7_side 40 = .ok (.lsub, 1) := by decide +kernel
theorem dX7_side_41 : decode cX7_side 41 = .ok (.lreturn, 1) := by decide +kernel
theorem dX7_passes_0 : decode cX7_passes 0 = .ok (.aload_n 0, 1) := by decide +kernel
theorem dX7_passes_1 : decode cX7_passes 1 = .ok (.getfield 32, 3) := by decide +kernel
theorem dX7_passes_4 : decode cX7_passes 4 = .ok (.iload_n 1, 1) := by decide +kernel
theorem dX7_passes_5 : decode cX7_passes 5 = .ok (.iload_n 2, 1) := by decide +kernel
theorem dX7_passes_6 : decode cX7_passes 6 = .ok (.invokevirtual 44, 3) := by decide +kernel
theorem dX7_passes_9 : decode cX7_passes 9 = .ok (.ifCond .eq 18, 3) := by decide +kernel
theorem dX7_passes_12 : decode cX7_passes 12 = .ok (.aload_n 0, 1) := by decide +kernel
theorem dX7_passes_13 : decode cX7_passes 13 = .ok (.iload_n 1, 1) := by decide +kernel
theorem dX7_passes_14 : decode cX7_passes 14 = .ok (.iload_n 2, 1) := by decide +kernel
theorem dX7_passes_15 : decode cX7_passes 15 = .ok (.invokevirtual 48, 3) := by decide +kernel
theorem dX7_passes_18 : decode cX7_passes 18 = .ok (.lconst 0, 1) := by decide +kernel
theorem dX7_passes_19 : decode cX7_passes 19 = .ok (.lcmp, 1) := by decide +kernel
theorem dX7_passes_20 : decode cX7_passes 20 = .ok (.ifCond .ne 7, 3) := by decide +kernel
theorem dX7_passes_23 : decode cX7_passes 23 = .ok (.iconst 1, 1) := by decide +kernel
theorem dX7_passes_24 : decode cX7_passes 24 = .ok (.goto 4, 3) := by decide +kernel
theorem dX7_passes_27 : decode cX7_passes 27 = .ok (.iconst 0, 1) := by decide +kernel
theorem dX7_passes_28 : decode cX7_passes 28 = .ok (.ireturn, 1) := by decide +kernel
theorem dX7_isHitFrom_0 : decode cX7_isHitFrom 0 = .ok (.aload_n 0, 1) := by decide +kernel
theorem dX7_isHitFrom_1 : decode cX7_isHitFrom 1 = .ok (.getfield 20, 3) := by decide +kernel
theorem dX7_isHitFrom_4 : decode cX7_isHitFrom 4 = .ok (.iload_n 2, 1) := by decide +kernel
theorem dX7_isHitFrom_5 : decode cX7_isHitFrom 5 = .ok (.if_icmp .gt 18, 3) := by decide +kernel
theorem dX7_isHitFrom_8 : decode cX7_isHitFrom 8 = .ok (.aload_n 0, 1) := by decide +kernel
theorem dX7_isHitFrom_9 : decode cX7_isHitFrom 9 = .ok (.getfield 20, 3) := by decide +kernel
theorem dX7_isHitFrom_12 : decode cX7_isHitFrom 12 = .ok (.iload_n 2, 1) := by decide +kernel
theorem dX7_isHitFrom_13 : decode cX7_isHitFrom 13 = .ok (.if_icmp .ne 14, 3) := by decide +kernel
theorem dX7_isHitFrom_16 : decode cX7_isHitFrom 16 = .ok (.lload 5, 2) := by decide +kernel
theorem dX7_isHitFrom_18 : decode cX7_isHitFrom 18 = .ok (.lconst 0, 1) := by decide +kernel
theorem dX7_isHitFrom_19 : decode cX7_isHitFrom 19 = .ok (.lcmp, 1) := by decide +kernel
theorem dX7_isHitFrom_20 : decode cX7_isHitFrom 20 = .ok (.ifCond .ge 7, 3) := by decide +kernel
theorem dX7_isHitFrom_23 : decode cX7_isHitFrom 23 = .ok (.iconst 1, 1) := by decide +kernel
theorem dX7_isHitFrom_24 : decode cX7_isHitFrom 24 = .ok (.goto 4, 3) := by decide +kernel
theorem dX7_isHitFrom_27 : decode cX7_isHitFrom 27 = .ok (.iconst 0, 1) := by decide +kernel
theorem dX7_isHitFrom_28 : decode cX7_isHitFrom 28 = .ok (.istore 7, 2) := by decide +kernel
theorem dX7_isHitFrom_30 : decode cX7_isHitFrom 30 = .ok (.aload_n 0, 1) := by decide +kernel
theorem dX7_isHitFrom_31 : decode cX7_isHitFrom 31 = .ok (.getfield 26, 3) := by decide +kernel
theorem dX7_isHitFrom_34 : decode cX7_isHitFrom 34 = .ok (.iload_n 2, 1) := by decide +kernel
theorem dX7_isHitFrom_35 : decode cX7_isHitFrom 35 = .ok (.if_icmp .gt 18, 3) := by decide +kernel
theorem dX7_isHitFrom_38 : decode cX7_isHitFrom 38 = .ok (.aload_n 0, 1) := by decide +kernel
theorem dX7_isHitFrom_39 : decode cX7_isHitFrom 39 = .ok (.getfield 26, 3) := by decide +kernel
theorem dX7_isHitFrom_42 : decode cX7_isHitFrom 42 = .ok (.iload_n 2, 1) := by decide +kernel
theorem dX7_isHitFrom_43 : decode cX7_isHitFrom 43 = .ok (.if_icmp .ne 14, 3) := by decide +kernel
theorem dX7_isHitFrom_46 : decode cX7_isHitFrom 46 = .ok (.lload 5, 2) := by decide +kernel
theorem dX7_isHitFrom_48 : decode cX7_isHitFrom 48 = .ok (.lconst 0, 1) := by decide +kernel
theorem dX7_isHitFrom_49 : decode cX7_isHitFrom 49 = .ok (.lcmp, 1) := by decide +kernel
theorem dX7_isHitFrom_50 : decode cX7_isHitFrom 50 = .ok (.ifCond .ge 7, 3) := by decide +kernel
theorem dX7_isHitFrom_53 : decode cX7_isHitFrom 53 = .ok (.iconst 1, 1) := by decide +kernel
theorem dX7_isHitFrom_54 : decode cX7_isHitFrom 54 = .ok (.goto 4, 3) := by decide +kernel
theorem dX7_isHitFrom_57 : decode cX7_isHitFrom 57 = .ok (.iconst 0, 1) := by decide +kernel
theorem dX7_isHitFrom_58 : decode cX7_isHitFrom 58 = .ok (.istore 8, 2) := by decide +kernel
theorem dX7_isHitFrom_60 : decode cX7_isHitFrom 60 = .ok (.iload 7, 2) := by decide +kernel
theorem dX7_isHitFrom_62 : decode cX7_isHitFrom 62 = .ok (.iload 8, 2) := by decide +kernel
theorem dX7_isHitFrom_64 : decode cX7_isHitFrom 64 = .ok (.if_icmp .ne 5, 3) := by decide +kernel
theorem dX7_isHitFrom_67 : decode cX7_isHitFrom 67 = .ok (.iconst 0, 1) := by decide +kernel
theorem dX7_isHitFrom_68 : decode cX7_isHitFrom 68 = .ok (.ireturn, 1) := by decide +kernel
theorem dX7_isHitFrom_69 : decode cX7_isHitFrom 69 = .ok (.aload_n 0, 1) := by decide +kernel
theorem dX7_isHitFrom_70 : decode cX7_isHitFrom 70 = .ok (.iload_n 1, 1) := by decide +kernel
theorem dX7_isHitFrom_71 : decode cX7_isHitFrom 71 = .ok (.iload_n 2, 1) := by decide +kernel
theorem dX7_isHitFrom_72 : decode cX7_isHitFrom 72 = .ok (.invokevirtual 48, 3) := by decide +kernel
theorem dX7_isHitFrom_75 : decode cX7_isHitFrom 75 = .ok (.lstore 9, 2) := by decide +kernel
theorem dX7_isHitFrom_77 : decode cX7_isHitFrom 77 = .ok (.lload 9, 2) := by decide +kernel
theorem dX7_isHitFrom_79 : decode cX7_isHitFrom 79 = .ok (.lconst 0, 1) := by decide +kernel
theorem dX7_isHitFrom_80 : decode cX7_isHitFrom 80 = .ok (.lcmp, 1) := by decide +kernel
theorem dX7_isHitFrom_81 : decode cX7_isHitFrom 81 = .ok (.ifCond .ne 33, 3) := by decide +kernel
theorem dX7_isHitFrom_84 : decode cX7_isHitFrom 84 = .ok (.aload_n 0, 1) := by decide +kernel
theorem dX7_isHitFrom_85 : decode cX7_isHitFrom 85 = .ok (.getfield 23, 3) := by decide +kernel
theorem dX7_isHitFrom_88 : decode cX7_isHitFrom 88 = .ok (.i2l, 1) := by decide +kernel
theorem dX7_isHitFrom_89 : decode cX7_isHitFrom 89 = .ok (.aload_n 0, 1) := by decide +kernel
theorem dX7_isHitFrom_90 : decode cX7_isHitFrom 90 = .ok (.getfield 17, 3) := by decide +kernel
theorem dX7_isHitFrom_93 : decode cX7_isHitFrom 93 = .ok (.i2l, 1) := by decide +kernel
theorem dX7_isHitFrom_94 : decode cX7_isHitFrom 94 = .ok (.lsub, 1) := by decide +kernel
theorem dX7_isHitFrom_95 : decode cX7_isHitFrom 95 = .ok (.lload 5, 2) := by decide +kernel
theorem dX7_isHitFrom_97 : decode cX7_isHitFrom 97 = .ok (.lmul, 1) := by decide +kernel
theorem dX7_isHitFrom_98 : decode cX7_isHitFrom 98 = .ok (.aload_n 0, 1) := by decide +kernel
theorem dX7_isHitFrom_99 : decode cX7_isHitFrom 99 = .ok (.getfield 26, 3) := by decide +kernel
theorem dX7_isHitFrom_102 : decode cX7_isHitFrom 102 = .ok (.i2l, 1) := by decide +kernel
theorem dX7_isHitFrom_103 : decode cX7_isHitFrom 103 = .ok (.aload_n 0, 1) := by decide +kernel
theorem dX7_isHitFrom_104 : decode cX7_isHitFrom 104 = .ok (.getfield 20, 3) := by decide +kernel
theorem dX7_isHitFrom_107 : decode cX7_isHitFrom 107 = .ok (.i2l, 1) := by decide +kernel
theorem dX7_isHitFrom_108 : decode cX7_isHitFrom 108 = .ok (.lsub, 1) := by decide +kernel
theorem dX7_isHitFrom_109 : decode cX7_isHitFrom 109 = .ok (.lload_n 3, 1) := by decide +kernel
theorem dX7_isHitFrom_110 : decode cX7_isHitFrom 110 = .ok (.lmul, 1) := by decide +kernel
theorem dX7_isHitFrom_111 : decode cX7_isHitFrom 111 = .ok (.lsub, 1) := by decide +kernel
theorem dX7_isHitFrom_112 : decode cX7_isHitFrom 112 = .ok (.lstore 9, 2) := by decide +kernel
theorem dX7_isHitFrom_114 : decode cX7_isHitFrom 114 = .ok (.iload 8, 2) := by decide +kernel
theorem dX7_isHitFrom_116 : decode cX7_isHitFrom 116 = .ok (.ifCond .eq 18, 3) := by decide +kernel
theorem dX7_isHitFrom_119 : decode cX7_isHitFrom 119 = .ok (.lload 9, 2) := by decide +kernel
theorem dX7_isHitFrom_121 : decode cX7_isHitFrom 121 = .ok (.lconst 0, 1) := by decide +kernel
theorem dX7_isHitFrom_122 : decode cX7_isHitFrom 122 = .ok (.lcmp, 1) := by decide +kernel
theorem dX7_isHitFrom_123 : decode cX7_isHitFrom 123 = .ok (.ifCond .le 7, 3) := by decide +kernel
theorem dX7_isHitFrom_126 : decode cX7_isHitFrom 126 = .ok (.iconst 1, 1) := by decide +kernel
theorem dX7_isHitFrom_127 : decode cX7_isHitFrom 127 = .ok (.goto 19, 3) := by decide +kernel
theorem dX7_isHitFrom_130 : decode cX7_isHitFrom 130 = .ok (.iconst 0, 1) := by decide +kernel
theorem dX7_isHitFrom_131 : decode cX7_isHitFrom 131 = .ok (.goto 15, 3) := by decide +kernel
theorem dX7_isHitFrom_134 : decode cX7_isHitFrom 134 = .ok (.lload 9, 2) := by decide +kernel
theorem dX7_isHitFrom_136 : decode cX7_isHitFrom 136 = .ok (.lconst 0, 1) := by decide +kernel
theorem dX7_isHitFrom_137 : decode cX7_isHitFrom 137 = .ok (.lcmp, 1) := by decide +kernel
theorem dX7_isHitFrom_138 : decode cX7_isHitFrom 138 = .ok (.ifCond .ge 7, 3) := by decide +kernel
theorem dX7_isHitFrom_141 : decode cX7_isHitFrom 141 = .ok (.iconst 1, 1) := by decide +kernel
theorem dX7_isHitFrom_142 : decode cX7_isHitFrom 142 = .ok (.goto 4, 3) := by decide +kernel
theorem dX7_isHitFrom_145 : decode cX7_isHitFrom 145 = .ok (.iconst 0, 1) := by decide +kernel
theorem dX7_isHitFrom_146 : decode cX7_isHitFrom 146 = .ok (.ireturn, 1) := by decide +kernel
theorem dX7_hasOnLeft_0 : decode cX7_hasOnLeft 0 = .ok (.aload_n 0, 1) := by decide +kernel
theorem dX7_hasOnLeft_1 : decode cX7_hasOnLeft 1 = .ok (.getfield 23, 3) := by decide +kernel
theorem dX7_hasOnLeft_4 : decode cX7_hasOnLeft 4 = .ok (.iload_n 1, 1) := by decide +kernel
theorem dX7_hasOnLeft_5 : decode cX7_hasOnLeft 5 = .ok (.if_icmp .ne 25, 3) := by decide +kernel
theorem dX7_hasOnLeft_8 : decode cX7_hasOnLeft 8 = .ok (.aload_n 0, 1) := by decide +kernel
theorem dX7_hasOnLeft_9 : decode cX7_hasOnLeft 9 = .ok (.getfield 26, 3) := by decide +kernel
theorem dX7_hasOnLeft_12 : decode cX7_hasOnLeft 12 = .ok (.iload_n 2, 1) := by decide +kernel
theorem dX7_hasOnLeft_13 : decode cX7_hasOnLeft 13 = .ok (.if_icmp .ne 17, 3) := by decide +kernel
theorem dX7_hasOnLeft_16 : decode cX7_hasOnLeft 16 = .ok (.aload_n 0, 1) := by decide +kernel
theorem dX7_hasOnLeft_17 : decode cX7_hasOnLeft 17 = .ok (.getfield 40, 3) := by decide +kernel
theorem dX7_hasOnLeft_20 : decode cX7_hasOnLeft 20 = .ok (.ifnull 10, 3) := by decide +kernel
theorem dX7_hasOnLeft_23 : decode cX7_hasOnLeft 23 = .ok (.aload_n 0, 1) := by decide +kernel
theorem dX7_hasOnLeft_24 : decode cX7_hasOnLeft 24 = .ok (.getfield 40, 3) := by decide +kernel
theorem dX7_hasOnLeft_27 : decode cX7_hasOnLeft 27 = .ok (.goto 4, 3) := by decide +kernel
theorem dX7_hasOnLeft_30 : decode cX7_hasOnLeft 30 = .ok (.aload_n 0, 1) := by decide +kernel
theorem dX7_hasOnLeft_31 : decode cX7_hasOnLeft 31 = .ok (.astore 5, 2) := by decide +kernel
theorem dX7_hasOnLeft_33 : decode cX7_hasOnLeft 33 = .ok (.aload 5, 2) := by decide +kernel
theorem dX7_hasOnLeft_35 : decode cX7_hasOnLeft 35 = .ok (.getfield 23, 3) := by decide +kernel
theorem dX7_hasOnLeft_38 : decode cX7_hasOnLeft 38 = .ok (.i2l, 1) := by decide +kernel
theorem dX7_hasOnLeft_39 : decode cX7_hasOnLeft 39 = .ok (.iload_n 1, 1) := by decide +kernel
theorem dX7_hasOnLeft_40 : decode cX7_hasOnLeft 40 = .ok (.i2l, 1) := by decide +kernel
theorem dX7_hasOnLeft_41 : decode cX7_hasOnLeft 41 = .ok (.lsub, 1) := by decide +kernel
theorem dX7_hasOnLeft_42 : decode cX7_hasOnLeft 42 = .ok (.lstore 6, 2) := by decide +kernel
theorem dX7_hasOnLeft_44 : decode cX7_hasOnLeft 44 = .ok (.aload 5, 2) := by decide +kernel
theorem dX7_hasOnLeft_46 : decode cX7_hasOnLeft 46 = .ok (.getfield 26, 3) := by decide +kernel
theorem dX7_hasOnLeft_49 : decode cX7_hasOnLeft 49 = .ok (.i2l, 1) := by decide +kernel
theorem dX7_hasOnLeft_50 : decode cX7_hasOnLeft 50 = .ok (.iload_n 2, 1) := by decide +kernel
theorem dX7_hasOnLeft_51 : decode cX7_hasOnLeft 51 = .ok (.i2l, 1) := by decide +kernel
theorem dX7_hasOnLeft_52 : decode cX7_hasOnLeft 52 = .ok (.lsub, 1) := by decide +kernel
theorem dX7_hasOnLeft_53 : decode cX7_hasOnLeft 53 = .ok (.lstore 8, 2) := by decide +kernel
theorem dX7_hasOnLeft_55 : decode cX7_hasOnLeft 55 = .ok (.aload_n 0, 1) := by decide +kernel
theorem dX7_hasOnLeft_56 : decode cX7_hasOnLeft 56 = .ok (.getfield 17, 3) := by decide +kernel
theorem dX7_hasOnLeft_59 : decode cX7_hasOnLeft 59 = .ok (.i2l, 1) := by decide +kernel
theorem dX7_hasOnLeft_60 : decode cX7_hasOnLeft 60 = .ok (.iload_n 1, 1) := by decide +kernel
theorem dX7_hasOnLeft_61 : decode cX7_hasOnLeft 61 = .ok (.i2l, 1) := by decide +kernel
theorem dX7_hasOnLeft_62 : decode cX7_hasOnLeft 62 = .ok (.lsub, 1) := by decide +kernel
theorem dX7_hasOnLeft_63 : decode cX7_hasOnLeft 63 = .ok (.lstore 10, 2) := by decide +kernel
theorem dX7_hasOnLeft_65 : decode cX7_hasOnLeft 65 = .ok (.aload_n 0, 1) := by decide +kernel
theorem dX7_hasOnLeft_66 : decode cX7_hasOnLeft 66 = .ok (.getfield 20, 3) := by decide +kernel
theorem dX7_hasOnLeft_69 : decode cX7_hasOnLeft 69 = .ok (.i2l, 1) := by decide +kernel
theorem dX7_hasOnLeft_70 : decode cX7_hasOnLeft 70 = .ok (.iload_n 2, 1) := by decide +kernel
theorem dX7_hasOnLeft_71 : decode cX7_hasOnLeft 71 = .ok (.i2l, 1) := by decide +kernel
theorem dX7_hasOnLeft_72 : decode cX7_hasOnLeft 72 = .ok (.lsub, 1) := by decide +kernel
theorem dX7_hasOnLeft_73 : decode cX7_hasOnLeft 73 = .ok (.lstore 12, 2) := by decide +kernel
theorem dX7_hasOnLeft_75 : decode cX7_hasOnLeft 75 = .ok (.iload_n 3, 1) := by decide +kernel
theorem dX7_hasOnLeft_76 : decode cX7_hasOnLeft 76 = .ok (.i2l, 1) := by decide +kernel
theorem dX7_hasOnLeft_77 : decode cX7_hasOnLeft 77 = .ok (.iload_n 1, 1) := by decide +kernel
theorem dX7_hasOnLeft_78 : decode cX7_hasOnLeft 78 = .ok (.i2l, 1) := by decide +kernel
theorem dX7_hasOnLeft_79 : decode cX7_hasOnLeft 79 = .ok (.lsub, 1) := by decide +kernel
theorem dX7_hasOnLeft_80 : decode cX7_hasOnLeft 80 = .ok (.lstore 14, 2) := by decide +kernel
theorem dX7_hasOnLeft_82 : decode cX7_hasOnLeft 82 = .ok (.iload 4, 2) := by decide +kernel
theorem dX7_hasOnLeft_84 : decode cX7_hasOnLeft 84 = .ok (.i2l, 1) := by decide +kernel
theorem dX7_hasOnLeft_85 : decode cX7_hasOnLeft 85 = .ok (.iload_n 2, 1) := by decide +kernel
theorem dX7_hasOnLeft_86 : decode cX7_hasOnLeft 86 = .ok (.i2l, 1) := by decide +kernel
theorem dX7_hasOnLeft_87 : decode cX7_hasOnLeft 87 = .ok (.lsub, 1) := by decide +kernel
theorem dX7_hasOnLeft_88 : decode cX7_hasOnLeft 88 = .ok (.lstore 16, 2) := by decide +kernel
theorem dX7_hasOnLeft_90 : decode cX7_hasOnLeft 90 = .ok (.lload 6, 2) := by decide +kernel
theorem dX7_hasOnLeft_92 : decode cX7_hasOnLeft 92 = .ok (.lload 12, 2) := by decide +kernel
theorem dX7_hasOnLeft_94 : decode cX7_hasOnLeft 94 = .ok (.lmul, 1) := by decide +kernel
theorem dX7_hasOnLeft_95 : decode cX7_hasOnLeft 95 = .ok (.lload 8, 2) := by decide +kernel
theorem dX7_hasOnLeft_97 : decode cX7_hasOnLeft 97 = .ok (.lload 10, 2) := by decide +kernel
theorem dX7_hasOnLeft_99 : decode cX7_hasOnLeft 99 = .ok (.lmul, 1) := by decide +kernel
theorem dX7_hasOnLeft_100 : decode cX7_hasOnLeft 100 = .ok (.lsub, 1) := by decide +kernel
theorem dX7_hasOnLeft_101 : decode cX7_hasOnLeft 101 = .ok (.lstore 18, 2) := by decide +kernel
theorem dX7_hasOnLeft_103 : decode cX7_hasOnLeft 103 = .ok (.lload 6, 2) := by decide +kernel
theorem dX7_hasOnLeft_105 : decode cX7_hasOnLeft 105 = .ok (.lload 16, 2) := by decide +kernel
theorem dX7_hasOnLeft_107 : decode cX7_hasOnLeft 107 = .ok (.lmul, 1) := by decide +kernel
theorem dX7_hasOnLeft_108 : decode cX7_hasOnLeft 108 = .ok (.lload 8, 2) := by decide +kernel
theorem dX7_hasOnLeft_110 : decode cX7_hasOnLeft 110 = .ok (.lload 14, 2) := by decide +kernel
theorem dX7_hasOnLeft_112 : decode cX7_hasOnLeft 112 = .ok (.lmul, 1) := by decide +kernel
theorem dX7_hasOnLeft_113 : decode cX7_hasOnLeft 113 = .ok (.lsub, 1) := by decide +kernel
theorem dX7_hasOnLeft_114 : decode cX7_hasOnLeft 114 = .ok (.lconst 0, 1) := by decide +kernel
theorem dX7_hasOnLeft_115 : decode cX7_hasOnLeft 115 = .ok (.lcmp, 1) := by decide +kernel
theorem dX7_hasOnLeft_116 : decode cX7_hasOnLeft 116 = .ok (.ifCond .le 7, 3) := by decide +kernel
theorem dX7_hasOnLeft_119 : decode cX7_hasOnLeft 119 = .ok (.iconst 1, 1) := by decide +kernel
theorem dX7_hasOnLeft_120 : decode cX7_hasOnLeft 120 = .ok (.goto 4, 3) := by decide +kernel
theorem dX7_hasOnLeft_123 : decode cX7_hasOnLeft 123 = .ok (.iconst 0, 1) := by decide +kernel
theorem dX7_hasOnLeft_124 : decode cX7_hasOnLeft 124 = .ok (.istore 20, 2) := by decide +kernel
theorem dX7_hasOnLeft_126 : decode cX7_hasOnLeft 126 = .ok (.lload 14, 2) := by decide +kernel
theorem dX7_hasOnLeft_128 : decode cX7_hasOnLeft 128 = .ok (.lload 12, 2) := by decide +kernel
theorem dX7_hasOnLeft_130 : decode cX7_hasOnLeft 130 = .ok (.lmul, 1) := by decide +kernel
theorem dX7_hasOnLeft_131 : decode cX7_hasOnLeft 131 = .ok (.lload 16, 2) := by decide +kernel
theorem dX7_hasOnLeft_133 : decode cX7_hasOnLeft 133 = .ok (.lload 10, 2) := by decide +kernel
theorem dX7_hasOnLeft_135 : decode cX7_hasOnLeft 135 = .ok (.lmul, 1) := by decide +kernel
theorem dX7_hasOnLeft_136 : decode cX7_hasOnLeft 136 = .ok (.lsub, 1) := by decide +kernel
theorem dX7_hasOnLeft_137 : decode cX7_hasOnLeft 137 = .ok (.lconst 0, 1) := by decide +kernel
theorem dX7_hasOnLeft_138 : decode cX7_hasOnLeft 138 = .ok (.lcmp, 1) := by decide +kernel
theorem dX7_hasOnLeft_139 : decode cX7_hasOnLeft 139 = .ok (.ifCond .le 7, 3) := by decide +kernel
theorem dX7_hasOnLeft_142 : decode cX7_hasOnLeft 142 = .ok (.iconst 1, 1) := by decide +kernel
theorem dX7_hasOnLeft_143 : decode cX7_hasOnLeft 143 = .ok (.goto 4, 3) := by decide +kernel
theorem dX7_hasOnLeft_146 : decode cX7_hasOnLeft 146 = .ok (.iconst 0, 1) := by decide +kernel
theorem dX7_hasOnLeft_147 : decode cX7_hasOnLeft 147 = .ok (.istore 21, 2) := by decide +kernel
theorem dX7_hasOnLeft_149 : decode cX7_hasOnLeft 149 = .ok (.lload 18, 2) := by decide +kernel
theorem dX7_hasOnLeft_151 : decode cX7_hasOnLeft 151 = .ok (.lconst 0, 1) := by decide +kernel
theorem dX7_hasOnLeft_152 : decode cX7_hasOnLeft 152 = .ok (.lcmp, 1) := by decide +kernel
theorem dX7_hasOnLeft_153 : decode cX7_hasOnLeft 153 = .ok (.ifCond .le 19, 3) := by decide +kernel
theorem dX7_hasOnLeft_156 : decode cX7_hasOnLeft 156 = .ok (.iload 20, 2) := by decide +kernel
theorem dX7_hasOnLeft_158 : decode cX7_hasOnLeft 158 = .ok (.ifCond .eq 12, 3) := by decide +kernel
theorem dX7_hasOnLeft_161 : decode cX7_hasOnLeft 161 = .ok (.iload 21, 2) := by decide +kernel
theorem dX7_hasOnLeft_163 : decode cX7_hasOnLeft 163 = .ok (.ifCond .eq 7, 3) := by decide +kernel
theorem dX7_hasOnLeft_166 : decode cX7_hasOnLeft 166 = .ok (.iconst 1, 1) := by decide +kernel
theorem dX7_hasOnLeft_167 : decode cX7_hasOnLeft 167 = .ok (.goto 4, 3) := by decide +kernel
theorem dX7_hasOnLeft_170 : decode cX7_hasOnLeft 170 = .ok (.iconst 0, 1) := by decide +kernel
theorem dX7_hasOnLeft_171 : decode cX7_hasOnLeft 171 = .ok (.ireturn, 1) := by decide +kernel
theorem dX7_hasOnLeft_172 : decode cX7_hasOnLeft 172 = .ok (.lload 18, 2) := by decide +kernel
theorem dX7_hasOnLeft_174 : decode cX7_hasOnLeft 174 = .ok (.lconst 0, 1) := by decide +kernel
theorem dX7_hasOnLeft_175 : decode cX7_hasOnLeft 175 = .ok (.lcmp, 1) := by decide +kernel
theorem dX7_hasOnLeft_176 : decode cX7_hasOnLeft 176 = .ok (.ifCond .ge 19, 3) := by decide +kernel
theorem dX7_hasOnLeft_179 : decode cX7_hasOnLeft 179 = .ok (.iload 20, 2) := by decide +kernel
theorem dX7_hasOnLeft_181 : decode cX7_hasOnLeft 181 = .ok (.ifCond .ne 8, 3) := by decide +kernel
theorem dX7_hasOnLeft_184 : decode cX7_hasOnLeft 184 = .ok (.iload 21, 2) := by decide +kernel
theorem dX7_hasOnLeft_186 : decode cX7_hasOnLeft 186 = .ok (.ifCond .eq 7, 3) := by decide +kernel
theorem dX7_hasOnLeft_189 : decode cX7_hasOnLeft 189 = .ok (.iconst 1, 1) := by decide +kernel
theorem dX7_hasOnLeft_190 : decode cX7_hasOnLeft 190 = .ok (.goto 4, 3) := by decide +kernel
theorem dX7_hasOnLeft_193 : decode cX7_hasOnLeft 193 = .ok (.iconst 0, 1) := by decide +kernel
theorem dX7_hasOnLeft_194 : decode cX7_hasOnLeft 194 = .ok (.ireturn, 1) := by decide +kernel
theorem dX7_hasOnLeft_195 : decode cX7_hasOnLeft 195 = .ok (.lload 6, 2) := by decide +kernel
theorem dX7_hasOnLeft_197 : decode cX7_hasOnLeft 197 = .ok (.lload 10, 2) := by decide +kernel
theorem dX7_hasOnLeft_199 : decode cX7_hasOnLeft 199 = .ok (.lmul, 1) := by decide +kernel
theorem dX7_hasOnLeft_200 : decode cX7_hasOnLeft 200 = .ok (.lload 8, 2) := by decide +kernel
theorem dX7_hasOnLeft_202 : decode cX7_hasOnLeft 202 = .ok (.lload 12, 2) := by decide +kernel
theorem dX7_hasOnLeft_204 : decode cX7_hasOnLeft 204 = .ok (.lmul, 1) := by decide +kernel
theorem dX7_hasOnLeft_205 : decode cX7_hasOnLeft 205 = .ok (.ladd, 1) := by decide +kernel
theorem dX7_hasOnLeft_206 : decode cX7_hasOnLeft 206 = .ok (.lconst 0, 1) := by decide +kernel
theorem dX7_hasOnLeft_207 : decode cX7_hasOnLeft 207 = .ok (.lcmp, 1) := by decide +kernel
theorem dX7_hasOnLeft_208 : decode cX7_hasOnLeft 208 = .ok (.ifCond .ge 7, 3) := by decide +kernel
theorem dX7_hasOnLeft_211 : decode cX7_hasOnLeft 211 = .ok (.iconst 1, 1) := by decide +kernel
theorem dX7_hasOnLeft_212 : decode cX7_hasOnLeft 212 = .ok (.goto 4, 3) := by decide +kernel
theorem dX7_hasOnLeft_215 : decode cX7_hasOnLeft 215 = .ok (.iconst 0, 1) := by decide +kernel
theorem dX7_hasOnLeft_216 : decode cX7_hasOnLeft 216 = .ok (.istore 22, 2) := by decide +kernel
theorem dX7_hasOnLeft_218 : decode cX7_hasOnLeft 218 = .ok (.iload 22, 2) := by decide +kernel
theorem dX7_hasOnLeft_220 : decode cX7_hasOnLeft 220 = .ok (.ifCond .eq 12, 3) := by decide +kernel
theorem dX7_hasOnLeft_223 : decode cX7_hasOnLeft 223 = .ok (.iload 20, 2) := by decide +kernel
theorem dX7_hasOnLeft_225 : decode cX7_hasOnLeft 225 = .ok (.ifCond .eq 7, 3) := by decide +kernel
theorem dX7_hasOnLeft_228 : decode cX7_hasOnLeft 228 = .ok (.iconst 1, 1) := by decide +kernel
theorem dX7_hasOnLeft_229 : decode cX7_hasOnLeft 229 = .ok (.goto 4, 3) := by decide +kernel
theorem dX7_hasOnLeft_232 : decode cX7_hasOnLeft 232 = .ok (.iconst 0, 1) := by decide +kernel
theorem dX7_hasOnLeft_233 : decode cX7_hasOnLeft 233 = .ok (.ireturn, 1) := by decide +kernel
theorem dX8_init_0 : decode cX8_init 0 = .ok (.aload_n 0, 1) := by decide +kernel
theorem dX8_init_1 : decode cX8_init 1 = .ok (.invokespecial 3, 3) := by decide +kernel
theorem dX8_init_4 : decode cX8_init 4 = .ok (.aload_n 0, 1) := by decide +kernel
theorem dX8_init_5 : decode cX8_init 5 = .ok (.new 9, 3) := by decide +kernel
theorem dX8_init_8 : decode cX8_init 8 = .ok (.dup, 1) := by decide +kernel
theorem dX8_init_9 : decode cX8_init 9 = .ok (.invokespecial 11, 3) := by decide +kernel
theorem dX8_init_12 : decode cX8_init 12 = .ok (.putfield 12, 3) := by decide +kernel
theorem dX8_init_15 : decode cX8_init 15 = .ok (.aload_n 0, 1) := by decide +kernel
theorem dX8_init_16 : decode cX8_init 16 = .ok (.new 9, 3) := by decide +kernel
theorem dX8_init_19 : decode cX8_init 19 = .ok (.dup, 1) := by decide +kernel
theorem dX8_init_20 : decode cX8_init 20 = .ok (.invokespecial 11, 3) := by decide +kernel
theorem dX8_init_23 : decode cX8_init 23 = .ok (.putfield 18, 3) := by decide +kernel
theorem dX8_init_26 : decode cX8_init 26 = .ok (.aload_n 0, 1) := by decide +kernel
theorem dX8_init_27 : decode cX8_init 27 = .ok (.new 9, 3) := by decide +kernel
theorem dX8_init_30 : decode cX8_init 30 = .ok (.dup, 1) := by decide +kernel
theorem dX8_init_31 : decode cX8_init 31 = .ok (.invokespecial 11, 3) := by decide +kernel
theorem dX8_init_34 : decode cX8_init 34 = .ok (.putfield 21, 3) := by decide +kernel
theorem dX8_init_37 : decode cX8_init 37 = .ok (.aload_n 0, 1) := by decide +kernel
theorem dX8_init_38 : decode cX8_init 38 = .ok (.new 9, 3) := by decide +kernel
theorem dX8_init_41 : decode cX8_init 41 = .ok (.dup, 1) := by decide +kernel
theorem dX8_init_42 : decode cX8_init 42 = .ok (.invokespecial 11, 3) := by decide +kernel
theorem dX8_init_45 : decode cX8_init 45 = .ok (.putfield 24, 3) := by decide +kernel
theorem dX8_init_48 : decode cX8_init 48 = .ok (.aload_n 0, 1) := by decide +kernel
theorem dX8_init_49 : decode cX8_init 49 = .ok (.new 9, 3) := by decide +kernel
theorem dX8_init_52 : decode cX8_init 52 = .ok (.dup, 1) := by decide +kernel
theorem dX8_init_53 : decode cX8_init 53 = .ok (.invokespecial 11, 3) := by decide +kernel
theorem dX8_init_56 : decode cX8_init 56 = .ok (.putfield 27, 3) := by decide +kernel
theorem dX8_init_59 : decode cX8_init 59 = .ok (.aload_n 0, 1) := by decide +kernel
theorem dX8_init_60 : decode cX8_init 60 = .ok (.new 9, 3) := by decide +kernel
theorem dX8_init_63 : decode cX8_init 63 = .ok (.dup, 1) := by decide +kernel
theorem dX8_init_64 : decode cX8_init 64 = .ok (.invokespecial 11, 3) := by decide +kernel
theorem dX8_init_67 : decode cX8_init 67 = .ok (.putfield 30, 3) := by decide +kernel
theorem dX8_init_70 : decode cX8_init 70 = .ok (.aload_n 0, 1) := by decide +kernel
theorem dX8_init_71 : decode cX8_init 71 = .ok (.new 9, 3) := by decide +kernel
theorem dX8_init_74 : decode cX8_init 74 = .ok (.dup, 1) := by decide +kernel
theorem dX8_init_75 : decode cX8_init 75 = .ok (.invokespecial 11, 3) := by decide +kernel
theorem dX8_init_78 : decode cX8_init 78 = .ok (.putfield 33, 3) := by decide +kernel
theorem dX8_init_81 : decode cX8_init 81 = .ok (.return_, 1) := by decide +kernel
theorem dX8_forget_0 : decode cX8_forget 0 = .ok (.aload_n 0, 1) := by decide +kernel
theorem dX8_forget_1 : decode cX8_forget 1 = .ok (.getfield 12, 3) := by decide +kernel
theorem dX8_forget_4 : decode cX8_forget 4 = .ok (.invokevirtual 36, 3) := by decide +kernel
theorem dX8_forget_7 : decode cX8_forget 7 = .ok (.aload_n 0, 1) := by decide +kernel
theorem dX8_forget_8 : decode cX8_forget 8 = .ok (.getfield 18, 3) := by decide +kernel
theorem dX8_forget_11 : decode cX8_forget 11 = .ok (.invokevirtual 36, 3) := by decide +kernel
theorem dX8_forget_14 : decode cX8_forget 14 = .ok (.aload_n 0, 1) := by decide +kernel
theorem dX8_forget_15 : decode cX8_forget 15 = .ok (.getfield 21, 3) := by decide +kernel
theorem dX8_forget_18 : decode cX8_forget 18 = .ok (.invokevirtual 36, 3) := by decide +kernel
theorem dX8_forget_21 : decode cX8_forget 21 = .ok (.aload_n 0, 1) := by decide +kernel
theorem dX8_forget_22 : decode cX8_forget 22 = .ok (.getfield 24, 3) := by decide +kernel
theorem dX8_forget_25 : decode cX8_forget 25 = .ok (.invokevirtual 36, 3) := by decide +kernel
theorem dX8_forget_28 : decode cX8_forget 28 = .ok (.aload_n 0, 1) := by decide +kernel
theorem dX8_forget_29 : decode cX8_forget 29 = .ok (.getfield 27, 3) := by decide +kernel
theorem dX8_forget_32 : decode cX8_forget 32 = .ok (.invokevirtual 36, 3) := by decide +kernel
theorem dX8_forget_35 : decode cX8_forget 35 = .ok (.aload_n 0, 1) := by decide +kernel
theorem dX8_forget_36 : decode cX8_forget 36 = .ok (.getfield 30, 3) := by decide +kernel
theorem dX8_forget_39 : decode cX8_forget 39 = .ok (.invokevirtual 36, 3) := by decide +kernel
theorem dX8_forget_42 : decode cX8_forget 42 = .ok (.aload_n 0, 1) := by decide +kernel
theorem dX8_forget_43 : decode cX8_forget 43 = .ok (.getfield 33, 3) := by decide +kernel
theorem dX8_forget_46 : decode cX8_forget 46 = .ok (.invokevirtual 36, 3) := by decide +kernel
theorem dX8_forget_49 : decode cX8_forget 49 = .ok (.aload_n 0, 1) := by decide +kernel
theorem dX8_forget_50 : decode cX8_forget 50 = .ok (.iconst 0, 1) := by decide +kernel
theorem dX8_forget_51 : decode cX8_forget 51 = .ok (.putfield 39, 3) := by decide +kernel
theorem dX8_forget_54 : decode cX8_forget 54 = .ok (.return_, 1) := by decide +kernel
theorem dX8_numbers_0 : decode cX8_numbers 0 = .ok (.iconst 2, 1) := by decide +kernel
theorem dX8_numbers_1 : decode cX8_numbers 1 = .ok (.aload_n 0, 1) := by decide +kernel
theorem dX8_numbers_2 : decode cX8_numbers 2 = .ok (.getfield 12, 3) := by decide +kernel
theorem dX8_numbers_5 : decode cX8_numbers 5 = .ok (.invokevirtual 43, 3) := by decide +kernel
theorem dX8_numbers_8 : decode cX8_numbers 8 = .ok (.imul, 1) := by decide +kernel
theorem dX8_numbers_9 : decode cX8_numbers 9 = .ok (.iconst 1, 1) := by decide +kernel
theorem dX8_numbers_10 : decode cX8_numbers 10 = .ok (.aload_n 0, 1) := by decide +kernel
theorem dX8_numbers_11 : decode cX8_numbers 11 = .ok (.getfield 39, 3) := by decide +kernel
theorem dX8_numbers_14 : decode cX8_numbers 14 = .ok (.imul, 1) := by decide +kernel
theorem dX8_numbers_15 : decode cX8_numbers 15 = .ok (.iadd, 1) := by decide +kernel
theorem dX8_numbers_16 : decode cX8_numbers 16 = .ok (.ireturn, 1) := by decide +kernel
theorem dX8_count_0 : decode cX8_count 0 = .ok (.aload_n 0, 1) := by decide +kernel
theorem dX8_count_1 : decode cX8_count 1 = .ok (.getfield 12, 3) := by decide +kernel
theorem dX8_count_4 : decode cX8_count 4 = .ok (.invokevirtual 43, 3) := by decide +kernel
theorem dX8_count_7 : decode cX8_count 7 = .ok (.ireturn, 1) := by decide +kernel
theorem dX8_kind_0 : decode cX8_kind 0 = .ok (.aload_n 0, 1) := by decide +kernel
theorem dX8_kind_1 : decode cX8_kind 1 = .ok (.getfield 12, 3) := by decide +kernel
theorem dX8_kind_4 : decode cX8_kind 4 = .ok (.iload_n 1, 1) := by decide +kernel
theorem dX8_kind_5 : decode cX8_kind 5 = .ok (.invokevirtual 47, 3) := by decide +kernel
theorem dX8_kind_8 : decode cX8_kind 8 = .ok (.ireturn, 1) := by decide +kernel
theorem dX8_pointCount_0 : decode cX8_pointCount 0 = .ok (.aload_n 0, 1) := by decide +kernel
theorem dX8_pointCount_1 : decode cX8_pointCount 1 = .ok (.getfield 27, 3) := by decide +kernel
theorem dX8_pointCount_4 : decode cX8_pointCount 4 = .ok (.invokevirtual 43, 3) := by decide +kernel
theorem dX8_pointCount_7 : decode cX8_pointCount 7 = .ok (.ireturn, 1) := by decide +kernel
theorem dX8_openCount_0 : decode cX8_openCount 0 = .ok (.aload_n 0, 1) := by decide +kernel
theorem dX8_openCount_1 : decode cX8_openCount 1 = .ok (.getfield 33, 3) := by decide +kernel
theorem dX8_openCount_4 : decode cX8_openCount 4 = .ok (.invokevirtual 43, 3) := by decide +kernel
theorem dX8_openCount_7 : decode cX8_openCount 7 = .ok (.ireturn, 1) := by decide +kernel
theorem dX8_openKind_0 : decode cX8_openKind 0 = .ok (.aload_n 0, 1) := by decide +kernel
theorem dX8_openKind_1 : decode cX8_openKind 1 = .ok (.getfield 33, 3) := by decide +kernel
theorem dX8_openKind_4 : decode cX8_openKind 4 = .ok (.invokevirtual 43, 3) := by decide +kernel
theorem dX8_openKind_7 : decode cX8_openKind 7 = .ok (.ifCond .le 20, 3) := by decide +kernel
theorem dX8_openKind_10 : decode cX8_openKind 10 = .ok (.aload_n 0, 1) := by decide +kernel
theorem dX8_openKind_11 : decode cX8_openKind 11 = .ok (.getfield 12, 3) := by decide +kernel
theorem dX8_openKind_14 : decode cX8_openKind 14 = .ok (.aload_n 0, 1) := by decide +kernel
theorem dX8_openKind_15 : decode cX8_openKind 15 = .ok (.getfield 33, 3) := by decide +kernel
theorem dX8_openKind_18 : decode cX8_openKind 18 = .ok (.invokevirtual 51, 3) := by decide +kernel
theorem dX8_openKind_21 : decode cX8_openKind 21 = .ok (.invokevirtual 47, 3) := by decide +kernel
theorem dX8_openKind_24 : decode cX8_openKind 24 = .ok (.goto 4, 3) := by decide +kernel
theorem dX8_openKind_27 : decode cX8_openKind 27 = .ok (.iconst 0, 1) := by decide +kernel
theorem dX8_openKind_28 : decode cX8_openKind 28 = .ok (.ireturn, 1) := by decide +kernel
theorem dX8_isWhole_0 : decode cX8_isWhole 0 = .ok (.aload_n 0, 1) := by decide +kernel
theorem dX8_isWhole_1 : decode cX8_isWhole 1 = .ok (.getfield 12, 3) := by decide +kernel
theorem dX8_isWhole_4 : decode cX8_isWhole 4 = .ok (.invokevirtual 43, 3) := by decide +kernel
theorem dX8_isWhole_7 : decode cX8_isWhole 7 = .ok (.ifCond .le 17, 3) := by decide +kernel
theorem dX8_isWhole_10 : decode cX8_isWhole 10 = .ok (.aload_n 0, 1) := by decide +kernel
theorem dX8_isWhole_11 : decode cX8_isWhole 11 = .ok (.getfield 33, 3) := by decide +kernel
theorem dX8_isWhole_14 : decode cX8_isWhole 14 = .ok (.invokevirtual 43, 3) := by decide +kernel
theorem dX8_isWhole_17 : decode cX8_isWhole 17 = .ok (.ifCond .ne 7, 3) := by decide +kernel
theorem dX8_isWhole_20 : decode cX8_isWhole 20 = .ok (.iconst 1, 1) := by decide +kernel
theorem dX8_isWhole_21 : decode cX8_isWhole 21 = .ok (.goto 4, 3) := by decide +kernel
theorem dX8_isWhole_24 : decode cX8_isWhole 24 = .ok (.iconst 0, 1) := by decide +kernel
theorem dX8_isWhole_25 : decode cX8_isWhole 25 = .ok (.ireturn, 1) := by decide +kernel
theorem dX8_canTake_0 : decode cX8_canTake 0 = .ok (.aload_n 0, 1) := by decide +kernel
theorem dX8_canTake_1 : decode cX8_canTake 1 = .ok (.getfield 12, 3) := by decide +kernel
theorem dX8_canTake_4 : decode cX8_canTake 4 = .ok (.invokevirtual 43, 3) := by decide +kernel
theorem dX8_canTake_7 : decode cX8_canTake 7 = .ok (.ifCond .ne 5, 3) := by decide +kernel
theorem dX8_canTake_10 : decode cX8_canTake 10 = .ok (.iconst 1, 1) := by decide +kernel
theorem dX8_canTake_11 : decode cX8_canTake 11 = .ok (.ireturn, 1) := by decide +kernel
theorem dX8_canTake_12 : decode cX8_canTake 12 = .ok (.aload_n 0, 1) := by decide +kernel
theorem dX8_canTake_13 : decode cX8_canTake 13 = .ok (.getfield 33, 3) := by decide +kernel
theorem dX8_canTake_16 : decode cX8_canTake 16 = .ok (.invokevirtual 43, 3) := by decide +kernel
theorem dX8_canTake_19 : decode cX8_canTake 19 = .ok (.bipush 50, 2) := by decide +kernel
theorem dX8_canTake_21 : decode cX8_canTake 21 = .ok (.if_icmp .lt 5, 3) := by decide +kernel
theorem dX8_canTake_24 : decode cX8_canTake 24 = .ok (.iconst 0, 1) := by decide +kernel
theorem dX8_canTake_25 : decode cX8_canTake 25 = .ok (.ireturn, 1) := by decide +kernel
theorem dX8_canTake_26 : decode cX8_canTake 26 = .ok (.aload_n 0, 1) := by decide +kernel
theorem dX8_canTake_27 : decode cX8_canTake 27 = .ok (.invokevirtual 54, 3) := by decide +kernel
theorem dX8_canTake_30 : decode cX8_canTake 30 = .ok (.istore_n 2, 1) := by decide +kernel
theorem dX8_canTake_31 : decode cX8_canTake 31 = .ok (.iload_n 2, 1) := by decide +kernel
theorem dX8_canTake_32 : decode cX8_canTake 32 = .ok (.bipush 7, 2) := by decide +kernel
theorem dX8_canTake_34 : decode cX8_canTake 34 = .ok (.if_icmp .ne 5, 3) := by decide +kernel
theorem dX8_canTake_37 : decode cX8_canTake 37 = .ok (.iconst 1, 1) := by decide +kernel
theorem dX8_canTake_38 : decode cX8_canTake 38 = .ok (.ireturn, 1) := by decide +kernel
theorem dX8_canTake_39 : decode cX8_canTake 39 = .ok (.iload_n 2, 1) := by decide +kernel
theorem dX8_canTake_40 : decode cX8_canTake 40 = .ok (.iconst 4, 1) := by decide +kernel
theorem dX8_canTake_41 : decode cX8_canTake 41 = .ok (.if_icmp .lt 16, 3) := by decide +kernel
theorem dX8_canTake_44 : decode cX8_canTake 44 = .ok (.iload_n 1, 1) := by decide +kernel
theorem dX8_canTake_45 : decode cX8_canTake 45 = .ok (.iconst 1, 1) := by decide +kernel
theorem dX8_canTake_46 : decode cX8_canTake 46 = .ok (.isub, 1) := by decide +kernel
theorem dX8_canTake_47 : decode cX8_canTake 47 = .ok (.iload_n 2, 1) := by decide +kernel
theorem dX8_canTake_48 : decode cX8_canTake 48 = .ok (.iconst 4, 1) := by decide +kernel
theorem dX8_canTake_49 : decode cX8_canTake 49 = .ok (.isub, 1) := by decide +kernel
theorem dX8_canTake_50 : decode cX8_canTake 50 = .ok (.if_icmp .ne 7, 3) := by decide +kernel
theorem dX8_canTake_53 : decode cX8_canTake 53 = .ok (.iconst 1, 1) := by decide +kernel
theorem dX8_canTake_54 : decode cX8_canTake 54 = .ok (.goto 4, 3) := by decide +kernel
theorem dX8_canTake_57 : decode cX8_canTake 57 = .ok (.iconst 0, 1) := by decide +kernel
theorem dX8_canTake_58 : decode cX8_canTake 58 = .ok (.ireturn, 1) := by decide +kernel
theorem dX8_canTakePoint_0 : decode cX8_canTakePoint 0 = .ok (.aload_n 0, 1) := by decide +kernel
theorem dX8_canTakePoint_1 : decode cX8_canTakePoint 1 = .ok (.invokevirtual 54, 3) := by decide +kernel
theorem dX8_canTakePoint_4 : decode cX8_canTakePoint 4 = .ok (.istore_n 1, 1) := by decide +kernel
theorem dX8_canTakePoint_5 : decode cX8_canTakePoint 5 = .ok (.iload_n 1, 1) := by decide +kernel
theorem dX8_canTakePoint_6 : decode cX8_canTakePoint 6 = .ok (.iconst 1, 1) := by decide +kernel
theorem dX8_canTakePoint_7 : decode cX8_canTakePoint 7 = .ok (.if_icmp .ne 26, 3) := by decide +kernel
theorem dX8_canTakePoint_10 : decode cX8_canTakePoint 10 = .ok (.aload_n 0, 1) := by decide +kernel
theorem dX8_canTakePoint_11 : decode cX8_canTakePoint 11 = .ok (.getfield 24, 3) := by decide +kernel
theorem dX8_canTakePoint_14 : decode cX8_canTakePoint 14 = .ok (.invokevirtual 51, 3) := by decide +kernel
theorem dX8_canTakePoint_17 : decode cX8_canTakePoint 17 = .ok (.aload_n 0, 1) := by decide +kernel
theorem dX8_canTakePoint_18 : decode cX8_canTakePoint 18 = .ok (.getfield 27, 3) := by decide +kernel
theorem dX8_canTakePoint_21 : decode cX8_canTakePoint 21 = .ok (.invokevirtual 43, 3) := by decide +kernel
theorem dX8_canTakePoint_24 : decode cX8_canTakePoint 24 = .ok (.if_icmp .ne 7, 3) := by decide +kernel
theorem dX8_canTakePoint_27 : decode cX8_canTakePoint 27 = .ok (.iconst 1, 1) := by decide +kernel
theorem dX8_canTakePoint_28 : decode cX8_canTakePoint 28 = .ok (.goto 4, 3) := by decide +kernel
theorem dX8_canTakePoint_31 : decode cX8_canTakePoint 31 = .ok (.iconst 0, 1) := by decide +kernel
theorem dX8_canTakePoint_32 : decode cX8_canTakePoint 32 = .ok (.ireturn, 1) := by decide +kernel
theorem dX8_canTakePoint_33 : decode cX8_canTakePoint 33 = .ok (.iload_n 1, 1) := by decide +kernel
theorem dX8_canTakePoint_34 : decode cX8_canTakePoint 34 = .ok (.iconst 3, 1) := by decide +kernel
theorem dX8_canTakePoint_35 : decode cX8_canTakePoint 35 = .ok (.if_icmp .ne 33, 3) := by decide +kernel
theorem dX8_canTakePoint_38 : decode cX8_canTakePoint 38 = .ok (.aload_n 0, 1) := by decide +kernel
theorem dX8_canTakePoint_39 : decode cX8_canTakePoint 39 = .ok (.getfield 21, 3) := by decide +kernel
theorem dX8_canTakePoint_42 : decode cX8_canTakePoint 42 = .ok (.aload_n 0, 1) := by decide +kernel
theorem dX8_canTakePoint_43 : decode cX8_canTakePoint 43 = .ok (.getfield 33, 3) := by decide +kernel
theorem dX8_canTakePoint_46 : decode cX8_canTakePoint 46 = .ok (.invokevirtual 51, 3) := by decide +kernel
theorem dX8_canTakePoint_49 : decode cX8_canTakePoint 49 = .ok (.invokevirtual 47, 3) := by decide +kernel
theorem dX8_canTakePoint_52 : decode cX8_canTakePoint 52 = .ok (.aload_n 0, 1) := by decide +kernel
theorem dX8_canTakePoint_53 : decode cX8_canTakePoint 53 = .ok (.getfield 24, 3) := by decide +kernel
theorem dX8_canTakePoint_56 : decode cX8_canTakePoint 56 = .ok (.invokevirtual 43, 3) := by decide +kernel
theorem dX8_canTakePoint_59 : decode cX8_canTakePoint 59 = .ok (.if_icmp .ge 7, 3) := by decide +kernel
theorem dX8_canTakePoint_62 : decode cX8_canTakePoint 62 = .ok (.iconst 1, 1) := by decide +kernel
theorem dX8_canTakePoint_63 : decode cX8_canTakePoint 63 = .ok (.goto 4, 3) := by decide +kernel
theorem dX8_canTakePoint_66 : decode cX8_canTakePoint 66 = .ok (.iconst 0, 1) := by decide +kernel
theorem dX8_canTakePoint_67 : decode cX8_canTakePoint 67 = .ok (.ireturn, 1) := by decide +kernel
theorem dX8_canTakePoint_68 : decode cX8_canTakePoint 68 = .ok (.iload_n 1, 1) := by decide +kernel
theorem dX8_canTakePoint_69 : decode cX8_canTakePoint 69 = .ok (.iconst 2, 1) := by decide +kernel
theorem dX8_canTakePoint_70 : decode cX8_canTakePoint 70 = .ok (.if_icmp .ne 7, 3) := by decide +kernel
theorem dX8_canTakePoint_73 : decode cX8_canTakePoint 73 = .ok (.iconst 1, 1) := by decide +kernel
theorem dX8_canTakePoint_74 : decode cX8_canTakePoint 74 = .ok (.goto 4, 3) := by decide +kernel
theorem dX8_canTakePoint_77 : decode cX8_canTakePoint 77 = .ok (.iconst 0, 1) := by decide +kernel
theorem dX8_canTakePoint_78 : decode cX8_canTakePoint 78 = .ok (.ireturn, 1) := by decide +kernel
theorem dX8_begin_0 : decode cX8_begin 0 = .ok (.aload_n 0, 1) := by decide +kernel
theorem dX8_begin_1 : decode cX8_begin 1 = .ok (.getfield 18, 3) := by decide +kernel
theorem dX8_begin_4 : decode cX8_begin 4 = .ok (.aload_n 0, 1) := by decide +kernel
theorem dX8_begin_5 : decode cX8_begin 5 = .ok (.getfield 33, 3) := by decide +kernel
theorem dX8_begin_8 : decode cX8_begin 8 = .ok (.invokevirtual 43, 3) := by decide +kernel
theorem dX8_begin_11 : decode cX8_begin 11 = .ok (.ifCond .le 13, 3) := by decide +kernel
theorem dX8_begin_14 : decode cX8_begin 14 = .ok (.aload_n 0, 1) := by decide +kernel
theorem dX8_begin_15 : decode cX8_begin 15 = .ok (.getfield 33, 3) := by decide +kernel
theorem dX8_begin_18 : decode cX8_begin 18 = .ok (.invokevirtual 51, 3) := by decide +kernel
theorem dX8_begin_21 : decode cX8_begin 21 = .ok (.goto 4, 3) := by decide +kernel
theorem dX8_begin_24 : decode cX8_begin 24 = .ok (.iconst (-1), 1) := by decide +kernel
theorem dX8_begin_25 : decode cX8_begin 25 = .ok (.invokevirtual 57, 3) := by decide +kernel
theorem dX8_begin_28 : decode cX8_begin 28 = .ok (.aload_n 0, 1) := by decide +kernel
theorem dX8_begin_29 : decode cX8_begin 29 = .ok (.getfield 33, 3) := by decide +kernel
theorem dX8_begin_32 : decode cX8_begin 32 = .ok (.aload_n 0, 1) := by decide +kernel
theorem dX8_begin_33 : decode cX8_begin 33 = .ok (.getfield 12, 3) := by decide +kernel
theorem dX8_begin_36 : decode cX8_begin 36 = .ok (.invokevirtual 43, 3) := by decide +kernel
theorem dX8_begin_39 : decode cX8_begin 39 = .ok (.invokevirtual 57, 3) := by decide +kernel
theorem dX8_begin_42 : decode cX8_begin 42 = .ok (.aload_n 0, 1) := by decide +kernel
theorem dX8_begin_43 : decode cX8_begin 43 = .ok (.getfield 12, 3) := by decide +kernel
theorem dX8_begin_46 : decode cX8_begin 46 = .ok (.iload_n 1, 1) := by decide +kernel
theorem dX8_begin_47 : decode cX8_begin 47 = .ok (.invokevirtual 57, 3) := by decide +kernel
theorem dX8_begin_50 : decode cX8_begin 50 = .ok (.aload_n 0, 1) := by decide +kernel
theorem dX8_begin_51 : decode cX8_begin 51 = .ok (.getfield 21, 3) := by decide +kernel
theorem dX8_begin_54 : decode cX8_begin 54 = .ok (.aload_n 0, 1) := by decide +kernel
theorem dX8_begin_55 : decode cX8_begin 55 = .ok (.getfield 24, 3) := by decide +kernel
theorem dX8_begin_58 : decode cX8_begin 58 = .ok (.invokevirtual 43, 3) := by decide +kernel
theorem dX8_begin_61 : decode cX8_begin 61 = .ok (.invokevirtual 57, 3) := by decide +kernel
theorem dX8_begin_64 : decode cX8_begin 64 = .ok (.iload_n 1, 1) := by decide +kernel
theorem dX8_begin_65 : decode cX8_begin 65 = .ok (.iconst 1, 1) := by decide +kernel
theorem dX8_begin_66 : decode cX8_begin 66 = .ok (.if_icmp .eq 8, 3) := by decide +kernel
theorem dX8_begin_69 : decode cX8_begin 69 = .ok (.iload_n 1, 1) := by decide +kernel
theorem dX8_begin_70 : decode cX8_begin 70 = .ok (.iconst 2, 1) := by decide +kernel
theorem dX8_begin_71 : decode cX8_begin 71 = .ok (.if_icmp .ne 17, 3) := by decide +kernel
theorem dX8_begin_74 : decode cX8_begin 74 = .ok (.aload_n 0, 1) := by decide +kernel
theorem dX8_begin_75 : decode cX8_begin 75 = .ok (.getfield 24, 3) := by decide +kernel
theorem dX8_begin_78 : decode cX8_begin 78 = .ok (.aload_n 0, 1) := by decide +kernel
theorem dX8_begin_79 : decode cX8_begin 79 = .ok (.getfield 27, 3) := by decide +kernel
theorem dX8_begin_82 : decode cX8_begin 82 = .ok (.invokevirtual 43, 3) := by decide +kernel
theorem dX8_begin_85 : decode cX8_begin 85 = .ok (.invokevirtual 57, 3) := by decide +kernel
theorem dX8_begin_88 : decode cX8_begin 88 = .ok (.aload_n 0, 1) := by decide +kernel
theorem dX8_begin_89 : decode cX8_begin 89 = .ok (.getfield 33, 3) := by decide +kernel
theorem dX8_begin_92 : decode cX8_begin 92 = .ok (.invokevirtual 43, 3) := by decide +kernel
theorem dX8_begin_95 : decode cX8_begin 95 = .ok (.ireturn, 1) := by decide +kernel
theorem dX8_beginRing_0 : decode cX8_beginRing 0 = .ok (.aload_n 0, 1) := by decide +kernel
theorem dX8_beginRing_1 : decode cX8_beginRing 1 = .ok (.dup, 1) := by decide +kernel
theorem dX8_beginRing_2 : decode cX8_beginRing 2 = .ok (.getfield 39, 3) := by decide +kernel
theorem dX8_beginRing_5 : decode cX8_beginRing 5 = .ok (.iconst 1, 1) := by decide +kernel
theorem dX8_beginRing_6 : decode cX8_beginRing 6 = .ok (.iadd, 1) := by decide +kernel
theorem dX8_beginRing_7 : decode cX8_beginRing 7 = .ok (.putfield 39, 3) := by decide +kernel
theorem dX8_beginRing_10 : decode cX8_beginRing 10 = .ok (.aload_n 0, 1) := by decide +kernel
theorem dX8_beginRing_11 : decode cX8_beginRing 11 = .ok (.getfield 24, 3) := by decide +kernel
theorem dX8_beginRing_14 : decode cX8_beginRing 14 = .ok (.aload_n 0, 1) := by decide +kernel
theorem dX8_beginRing_15 : decode cX8_beginRing 15 = .ok (.getfield 27, 3) := by decide +kernel
theorem dX8_beginRing_18 : decode cX8_beginRing 18 = .ok (.invokevirtual 43, 3) := by decide +kernel
theorem dX8_beginRing_21 : decode cX8_beginRing 21 = .ok (.invokevirtual 57, 3) := by decide +kernel
theorem dX8_beginRing_24 : decode cX8_beginRing 24 = .ok (.return_, 1) := by decide +kernel
theorem dX8_addPoint_0 : decode cX8_addPoint 0 = .ok (.aload_n 0, 1) := by decide +kernel
theorem dX8_addPoint_1 : decode cX8_addPoint 1 = .ok (.getfield 27, 3) := by decide +kernel
theorem dX8_addPoint_4 : decode cX8_addPoint 4 = .ok (.iload_n 1, 1) := by decide +kernel
theorem dX8_addPoint_5 : decode cX8_addPoint 5 = .ok (.invokevirtual 57, 3) := by decide +kernel
theorem dX8_addPoint_8 : decode cX8_addPoint 8 = .ok (.aload_n 0, 1) := by decide +kernel
theorem dX8_addPoint_9 : decode cX8_addPoint 9 = .ok (.getfield 30, 3) := by decide +kernel
theorem dX8_addPoint_12 : decode cX8_addPoint 12 = .ok (.iload_n 2, 1) := by decide +kernel
theorem dX8_addPoint_13 : decode cX8_addPoint 13 = .ok (.invokevirtual 57, 3) := by decide +kernel
theorem dX8_addPoint_16 : decode cX8_addPoint 16 = .ok (.aload_n 0, 1) := by decide +kernel
theorem dX8_addPoint_17 : decode cX8_addPoint 17 = .ok (.getfield 27, 3) := by decide +kernel
theorem dX8_addPoint_20 : decode cX8_addPoint 20 = .ok (.invokevirtual 43, 3) := by decide +kernel
theorem dX8_addPoint_23 : decode cX8_addPoint 23 = .ok (.ireturn, 1) := by decide +kernel
theorem dX8_finish_0 : decode cX8_finish 0 = .ok (.aload_n 0, 1) := by decide +kernel
theorem dX8_finish_1 : decode cX8_finish 1 = .ok (.getfield 33, 3) := by decide +kernel
theorem dX8_finish_4 : decode cX8_finish 4 = .ok (.invokevirtual 61, 3) := by decide +kernel
theorem dX8_finish_7 : decode cX8_finish 7 = .ok (.aload_n 0, 1) := by decide +kernel
theorem dX8_finish_8 : decode cX8_finish 8 = .ok (.getfield 33, 3) := by decide +kernel
theorem dX8_finish_11 : decode cX8_finish 11 = .ok (.invokevirtual 43, 3) := by decide +kernel
theorem dX8_finish_14 : decode cX8_finish 14 = .ok (.ireturn, 1) := by decide +kernel
theorem dX8_differentInLine_0 : decode cX8_differentInLine 0 = .ok (.aload_n 0, 1) := by decide +kernel
theorem dX8_differentInLine_1 : decode cX8_differentInLine 1 = .ok (.aload_n 0, 1) := by decide +kernel
theorem dX8_differentInLine_2 : decode cX8_differentInLine 2 = .ok (.getfield 21, 3) := by decide +kernel
theorem dX8_differentInLine_5 : decode cX8_differentInLine 5 = .ok (.iload_n 1, 1) := by decide +kernel
theorem dX8_differentInLine_6 : decode cX8_differentInLine 6 = .ok (.invokevirtual 47, 3) := by decide +kernel
theorem dX8_differentInLine_9 : decode cX8_differentInLine 9 = .ok (.invokevirtual 64, 3) := by decide +kernel
theorem dX8_differentInLine_12 : decode cX8_differentInLine 12 = .ok (.ireturn, 1) := by decide +kernel
theorem dX8_polygonsOf_0 : decode cX8_polygonsOf 0 = .ok (.aload_n 0, 1) := by decide +kernel
theorem dX8_polygonsOf_1 : decode cX8_polygonsOf 1 = .ok (.iload_n 1, 1) := by decide +kernel
theorem dX8_polygonsOf_2 : decode cX8_polygonsOf 2 = .ok (.invokevirtual 67, 3) := by decide +kernel
theorem dX8_polygonsOf_5 : decode cX8_polygonsOf 5 = .ok (.istore_n 2, 1) := by decide +kernel
theorem dX8_polygonsOf_6 : decode cX8_polygonsOf 6 = .ok (.aload_n 0, 1) := by decide +kernel
theorem dX8_polygonsOf_7 : decode cX8_polygonsOf 7 = .ok (.getfield 12, 3) := by decide +kernel
theorem dX8_polygonsOf_10 : decode cX8_polygonsOf 10 = .ok (.iload_n 1, 1) := by decide +kernel
theorem dX8_polygonsOf_11 : decode cX8_polygonsOf 11 = .ok (.invokevirtual 47, 3) := by decide +kernel
theorem dX8_polygonsOf_14 : decode cX8_polygonsOf 14 = .ok (.bipush 6, 2) := by decide +kernel
theorem dX8_polygonsOf_16 : decode cX8_polygonsOf 16 = .ok (.if_icmp .ne 9, 3) := by decide +kernel
theorem dX8_polygonsOf_19 : decode cX8_polygonsOf 19 = .ok (.iload_n 1, 1) := by decide +kernel
theorem dX8_polygonsOf_20 : decode cX8_polygonsOf 20 = .ok (.iconst 1, 1) := by decide +kernel
theorem dX8_polygonsOf_21 : decode cX8_polygonsOf 21 = .ok (.iadd, 1) := by decide +kernel
theorem dX8_polygonsOf_22 : decode cX8_polygonsOf 22 = .ok (.goto 4, 3) := by decide +kernel
theorem dX8_polygonsOf_25 : decode cX8_polygonsOf 25 = .ok (.iload_n 1, 1) := by decide +kernel
theorem dX8_polygonsOf_26 : decode cX8_polygonsOf 26 = .ok (.istore_n 3, 1) := by decide +kernel
theorem dX8_polygonsOf_27 : decode cX8_polygonsOf 27 = .ok (.iconst 0, 1) := by decide +kernel
theorem dX8_polygonsOf_28 : decode cX8_polygonsOf 28 = .ok (.iload_n 2, 1) := by decide +kernel
theorem dX8_polygonsOf_29 : decode cX8_polygonsOf 29 = .ok (.invokestatic 70, 3) := by decide +kernel
theorem dX8_polygonsOf_32 : decode cX8_polygonsOf 32 = .ok (.anewarray 76, 3) := by decide +kernel
theorem dX8_polygonsOf_35 : decode cX8_polygonsOf 35 = .ok (.astore 4, 2) := by decide +kernel
theorem dX8_polygonsOf_37 : decode cX8_polygonsOf 37 = .ok (.iconst 0, 1) := by decide +kernel
theorem dX8_polygonsOf_38 : decode cX8_polygonsOf 38 = .ok (.istore 5, 2) := by decide +kernel
theorem dX8_polygonsOf_40 : decode cX8_polygonsOf 40 = .ok (.iload 5, 2) := by decide +kernel
theorem dX8_polygonsOf_42 : decode cX8_polygonsOf 42 = .ok (.iload_n 2, 1) := by decide +kernel
theorem dX8_polygonsOf_43 : decode cX8_polygonsOf 43 = .ok (.if_icmp .ge 24, 3) := by decide +kernel
theorem dX8_polygonsOf_46 : decode cX8_polygonsOf 46 = .ok (.aload 4, 2) := by decide +kernel
theorem dX8_polygonsOf_48 : decode cX8_polygonsOf 48 = .ok (.iload 5, 2) := by decide +kernel
theorem dX8_polygonsOf_50 : decode cX8_polygonsOf 50 = .ok (.aload_n 0, 1) := by decide +kernel
theorem dX8_polygonsOf_51 : decode cX8_polygonsOf 51 = .ok (.iload_n 3, 1) := by decide +kernel
theorem dX8_polygonsOf_52 : decode cX8_polygonsOf 52 = .ok (.iload 5, 2) := by decide +kernel
theorem dX8_polygonsOf_54 : decode cX8_polygonsOf 54 = .ok (.iadd, 1) := by decide +kernel
theorem dX8_polygonsOf_55 : decode cX8_polygonsOf 55 = .ok (.iload 5, 2) := by decide +kernel
theorem dX8_polygonsOf_57 : decode cX8_polygonsOf 57 = .ok (.invokevirtual 78, 3) := by decide +kernel
theorem dX8_polygonsOf_60 : decode cX8_polygonsOf 60 = .ok (.aastore, 1) := by decide +kernel
theorem dX8_polygonsOf_61 : decode cX8_polygonsOf 61 = .ok (.iinc 5 1, 3) := by decide +kernel
theorem dX8_polygonsOf_64 : decode cX8_polygonsOf 64 = .ok (.goto (-24), 3) := by decide +kernel
theorem dX8_polygonsOf_67 : decode cX8_polygonsOf 67 = .ok (.aload 4, 2) := by decide +kernel
theorem dX8_polygonsOf_69 : decode cX8_polygonsOf 69 = .ok (.areturn, 1) := by decide +kernel
theorem dX8_countPolygons_0 : decode cX8_countPolygons 0 = .ok (.aload_n 0, 1) := by decide +kernel
theorem dX8_countPolygons_1 : decode cX8_countPolygons 1 = .ok (.getfield 12, 3) := by decide +kernel
theorem dX8_countPolygons_4 : decode cX8_countPolygons 4 = .ok (.iload_n 1, 1) := by decide +kernel
theorem dX8_countPolygons_5 : decode cX8_countPolygons 5 = .ok (.invokevirtual 47, 3) := by decide +kernel
theorem dX8_countPolygons_8 : decode cX8_countPolygons 8 = .ok (.iconst 3, 1) := by decide +kernel
theorem dX8_countPolygons_9 : decode cX8_countPolygons 9 = .ok (.if_icmp .ne 29, 3) := by decide +kernel
theorem dX8_countPolygons_12 : decode cX8_countPolygons 12 = .ok (.aload_n 0, 1) := by decide +kernel
theorem dX8_countPolygons_13 : decode cX8_countPolygons 13 = .ok (.getfield 12, 3) := by decide +kernel
theorem dX8_countPolygons_16 : decode cX8_countPolygons 16 = .ok (.aload_n 0, 1) := by decide +kernel
theorem dX8_countPolygons_17 : decode cX8_countPolygons 17 = .ok (.getfield 18, 3) := by decide +kernel
theorem dX8_countPolygons_20 : decode cX8_countPolygons 20 = .ok (.iload_n 1, 1) := by decide +kernel
theorem dX8_countPolygons_21 : decode cX8_countPolygons 21 = .ok (.invokevirtual 47, 3) := by decide +kernel
theorem dX8_countPolygons_24 : decode cX8_countPolygons 24 = .ok (.invokevirtual 47, 3) := by decide +kernel
theorem dX8_countPolygons_27 : decode cX8_countPolygons 27 = .ok (.bipush 6, 2) := by decide +kernel
theorem dX8_countPolygons_29 : decode cX8_countPolygons 29 = .ok (.if_icmp .ne 7, 3) := by decide +kernel
theorem dX8_countPolygons_32 : decode cX8_countPolygons 32 = .ok (.iconst 0, 1) := by decide +kernel
theorem dX8_countPolygons_33 : decode cX8_countPolygons 33 = .ok (.goto 4, 3) := by decide +kernel
theorem dX8_countPolygons_36 : decode cX8_countPolygons 36 = .ok (.iconst 1, 1) := by decide +kernel
theorem dX8_countPolygons_37 : decode cX8_countPolygons 37 = .ok (.ireturn, 1) := by decide +kernel
theorem dX8_countPolygons_38 : decode cX8_countPolygons 38 = .ok (.aload_n 0, 1) := by decide +kernel
theorem dX8_countPolygons_39 : decode cX8_countPolygons 39 = .ok (.getfield 12, 3) := by decide +kernel
theorem dX8_countPolygons_42 : decode cX8_countPolygons 42 = .ok (.iload_n 1, 1) := by decide +kernel
theorem dX8_countPolygons_43 : decode cX8_countPolygons 43 = .ok (.invokevirtual 47, 3) := by decide +kernel
theorem dX8_countPolygons_46 : decode cX8_countPolygons 46 = .ok (.bipush 6, 2) := by decide +kernel
theorem dX8_countPolygons_48 : decode cX8_countPolygons 48 = .ok (.if_icmp .eq 5, 3) := by decide +kernel
theorem dX8_countPolygons_51 : decode cX8_countPolygons 51 = .ok (.iconst 0, 1) := by decide +kernel
theorem dX8_countPolygons_52 : decode cX8_countPolygons 52 = .ok (.ireturn, 1) := by decide +kernel
theorem dX8_countPolygons_53 : decode cX8_countPolygons 53 = .ok (.iload_n 1, 1) := by decide +kernel
theorem dX8_countPolygons_54 : decode cX8_countPolygons 54 = .ok (.iconst 1, 1) := by decide +kernel
theorem dX8_countPolygons_55 : decode cX8_countPolygons 55 = .ok (.iadd, 1) := by decide +kernel
theorem dX8_countPolygons_56 : decode cX8_countPolygons 56 = .ok (.istore_n 2, 1) := by decide +kernel
theorem dX8_countPolygons_57 : decode cX8_countPolygons 57 = .ok (.iload_n 2, 1) := by decide +kernel
theorem dX8_countPolygons_58 : decode cX8_countPolygons 58 = .ok (.aload_n 0, 1) := by decide +kernel
theorem dX8_countPolygons_59 : decode cX8_countPolygons 59 = .ok (.getfield 12, 3) := by decide +kernel
theorem dX8_countPolygons_62 : decode cX8_countPolygons 62 = .ok (.invokevirtual 43, 3) := by decide +kernel
theorem dX8_countPolygons_65 : decode cX8_countPolygons 65 = .ok (.if_icmp .ge 21, 3) := by decide +kernel
theorem dX8_countPolygons_68 : decode cX8_countPolygons 68 = .ok (.aload_n 0, 1) := by decide +kernel
theorem dX8_countPolygons_69 : decode cX8_countPolygons 69 = .ok (.getfield 18, 3) := by decide +kernel
theorem dX8_countPolygons_72 : decode cX8_countPolygons 72 = .ok (.iload_n 2, 1) := by decide +kernel
theorem dX8_countPolygons_73 : decode cX8_countPolygons 73 = .ok (.invokevirtual 47, 3) := by decide +kernel
theorem dX8_countPolygons_76 : decode cX8_countPolygons 76 = .ok (.iload_n 1, 1) := by decide +kernel
theorem dX8_countPolygons_77 : decode cX8_countPolygons 77 = .ok (.if_icmp .ne 9, 3) := by decide +kernel
theorem dX8_countPolygons_80 : decode cX8_countPolygons 80 = .ok (.iinc 2 1, 3) := by decide +kernel
theorem dX8_countPolygons_83 : decode cX8_countPolygons 83 = .ok (.goto (-26), 3) := by decide +kernel
theorem dX8_countPolygons_86 : decode cX8_countPolygons 86 = .ok (.iload_n 2, 1) := by decide +kernel
theorem dX8_countPolygons_87 : decode cX8_countPolygons 87 = .ok (.iload_n 1, 1) := by decide +kernel
theorem dX8_countPolygons_88 : decode cX8_countPolygons 88 = .ok (.isub, 1) := by decide +kernel
theorem dX8_countPolygons_89 : decode cX8_countPolygons 89 = .ok (.iconst 1, 1) := by decide +kernel
theorem dX8_countPolygons_90 : decode cX8_countPolygons 90 = .ok (.isub, 1) := by decide +kernel
theorem dX8_countPolygons_91 : decode cX8_countPolygons 91 = .ok (.ireturn, 1) := by decide +kernel
theorem dX8_toPolygon_0 : decode cX8_toPolygon 0 = .ok (.aload_n 0, 1) := by decide +kernel
theorem dX8_toPolygon_1 : decode cX8_toPolygon 1 = .ok (.getfield 21, 3) := by decide +kernel
theorem dX8_toPolygon_4 : decode cX8_toPolygon 4 = .ok (.iload_n 1, 1) := by decide +kernel
theorem dX8_toPolygon_5 : decode cX8_toPolygon 5 = .ok (.invokevirtual 47, 3) := by decide +kernel
theorem dX8_toPolygon_8 : decode cX8_toPolygon 8 = .ok (.istore_n 3, 1) := by decide +kernel
theorem dX8_toPolygon_9 : decode cX8_toPolygon 9 = .ok (.iload_n 1, 1) := by decide +kernel
theorem dX8_toPolygon_10 : decode cX8_toPolygon 10 = .ok (.iconst 1, 1) := by decide +kernel
theorem dX8_toPolygon_11 : decode cX8_toPolygon 11 = .ok (.iadd, 1) := by decide +kernel
theorem dX8_toPolygon_12 : decode cX8_toPolygon 12 = .ok (.aload_n 0, 1) := by decide +kernel
theorem dX8_toPolygon_13 : decode cX8_toPolygon 13 = .ok (.getfield 12, 3) := by decide +kernel
theorem dX8_toPolygon_16 : decode cX8_toPolygon 16 = .ok (.invokevirtual 43, 3) := by decide +kernel
theorem dX8_toPolygon_19 : decode cX8_toPolygon 19 = .ok (.if_icmp .ge 16, 3) := by decide +kernel
theorem dX8_toPolygon_22 : decode cX8_toPolygon 22 = .ok (.aload_n 0, 1) := by decide +kernel
theorem dX8_toPolygon_23 : decode cX8_toPolygon 23 = .ok (.getfield 21, 3) := by decide +kernel
theorem dX8_toPolygon_26 : decode cX8_toPolygon 26 = .ok (.iload_n 1, 1) := by decide +kernel
theorem dX8_toPolygon_27 : decode cX8_toPolygon 27 = .ok (.iconst 1, 1) := by decide +kernel
theorem dX8_toPolygon_28 : decode cX8_toPolygon 28 = .ok (.iadd, 1) := by decide +kernel
theorem dX8_toPolygon_29 : decode cX8_toPolygon 29 = .ok (.invokevirtual 47, 3) := by decide +kernel
theorem dX8_toPolygon_32 : decode cX8_toPolygon 32 = .ok (.goto 10, 3) := by decide +kernel
theorem dX8_toPolygon_35 : decode cX8_toPolygon 35 = .ok (.aload_n 0, 1) := by decide +kernel
theorem dX8_toPolygon_36 : decode cX8_toPolygon 36 = .ok (.getfield 24, 3) := by decide +kernel
theorem dX8_toPolygon_39 : decode cX8_toPolygon 39 = .ok (.invokevirtual 43, 3) := by decide +kernel
theorem dX8_toPolygon_42 : decode cX8_toPolygon 42 = .ok (.istore 4, 2) := by decide +kernel
theorem dX8_toPolygon_44 : decode cX8_toPolygon 44 = .ok (.iconst 0, 1) := by decide +kernel
theorem dX8_toPolygon_45 : decode cX8_toPolygon 45 = .ok (.iload 4, 2) := by decide +kernel
theorem dX8_toPolygon_47 : decode cX8_toPolygon 47 = .ok (.iload_n 3, 1) := by decide +kernel
theorem dX8_toPolygon_48 : decode cX8_toPolygon 48 = .ok (.isub, 1) := by decide +kernel
theorem dX8_toPolygon_49 : decode cX8_toPolygon 49 = .ok (.invokestatic 70, 3) := by decide +kernel
theorem dX8_toPolygon_52 : decode cX8_toPolygon 52 = .ok (.anewarray 82, 3) := by decide +kernel
theorem dX8_toPolygon_55 : decode cX8_toPolygon 55 = .ok (.astore 5, 2) := by decide +kernel
theorem dX8_toPolygon_57 : decode cX8_toPolygon 57 = .ok (.iconst 0, 1) := by decide +kernel
theorem dX8_toPolygon_58 : decode cX8_toPolygon 58 = .ok (.istore 6, 2) := by decide +kernel
theorem dX8_toPolygon_60 : decode cX8_toPolygon 60 = .ok (.iload 6, 2) := by decide +kernel
theorem dX8_toPolygon_62 : decode cX8_toPolygon 62 = .ok (.aload 5, 2) := by decide +kernel
theorem dX8_toPolygon_64 : decode cX8_toPolygon 64 = .ok (.arraylength, 1) := by decide +kernel
theorem dX8_toPolygon_65 : decode cX8_toPolygon 65 = .ok (.if_icmp .ge 25, 3) := by decide +kernel
theorem dX8_toPolygon_68 : decode cX8_toPolygon 68 = .ok (.aload 5, 2) := by decide +kernel
theorem dX8_toPolygon_70 : decode cX8_toPolygon 70 = .ok (.iload 6, 2) := by decide +kernel
theorem dX8_toPolygon_72 : decode cX8_toPolygon 72 = .ok (.aload_n 0, 1) := by decide +kernel
theorem dX8_toPolygon_73 : decode cX8_toPolygon 73 = .ok (.iload_n 3, 1) := by decide +kernel
theorem dX8_toPolygon_74 : decode cX8_toPolygon 74 = .ok (.iload 6, 2) := by decide +kernel
theorem dX8_toPolygon_76 : decode cX8_toPolygon 76 = .ok (.iadd, 1) := by decide +kernel
theorem dX8_toPolygon_77 : decode cX8_toPolygon 77 = .ok (.iload_n 2, 1) := by decide +kernel
theorem dX8_toPolygon_78 : decode cX8_toPolygon 78 = .ok (.iload 6, 2) := by decide +kernel
theorem dX8_toPolygon_80 : decode cX8_toPolygon 80 = .ok (.invokevirtual 84, 3) := by decide +kernel
theorem dX8_toPolygon_83 : decode cX8_toPolygon 83 = .ok (.aastore, 1) := by decide +kernel
theorem dX8_toPolygon_84 : decode cX8_toPolygon 84 = .ok (.iinc 6 1, 3) := by decide +kernel
theorem dX8_toPolygon_87 : decode cX8_toPolygon 87 = .ok (.goto (-27), 3) := by decide +kernel
theorem dX8_toPolygon_90 : decode cX8_toPolygon 90 = .ok (.new 76, 3) := by decide +kernel
theorem dX8_toPolygon_93 : decode cX8_toPolygon 93 = .ok (.dup, 1) := by decide +kernel
theorem dX8_toPolygon_94 : decode cX8_toPolygon 94 = .ok (.iload_n 2, 1) := by decide +kernel
theorem dX8_toPolygon_95 : decode cX8_toPolygon 95 = .ok (.aload 5, 2) := by decide +kernel
theorem dX8_toPolygon_97 : decode cX8_toPolygon 97 = .ok (.invokespecial 88, 3) := by decide +kernel
theorem dX8_toPolygon_100 : decode cX8_toPolygon 100 = .ok (.areturn, 1) := by decide +kernel
theorem dX8_toRing_0 : decode cX8_toRing 0 = .ok (.aload_n 0, 1) := by decide +kernel
theorem dX8_toRing_1 : decode cX8_toRing 1 = .ok (.getfield 24, 3) := by decide +kernel
theorem dX8_toRing_4 : decode cX8_toRing 4 = .ok (.iload_n 1, 1) := by decide +kernel
theorem dX8_toRing_5 : decode cX8_toRing 5 = .ok (.invokevirtual 47, 3) := by decide +kernel
theorem dX8_toRing_8 : decode cX8_toRing 8 = .ok (.istore 4, 2) := by decide +kernel
theorem dX8_toRing_10 : decode cX8_toRing 10 = .ok (.aload_n 0, 1) := by decide +kernel
theorem dX8_toRing_11 : decode cX8_toRing 11 = .ok (.iload_n 1, 1) := by decide +kernel
theorem dX8_toRing_12 : decode cX8_toRing 12 = .ok (.invokevirtual 91, 3) := by decide +kernel
theorem dX8_toRing_15 : decode cX8_toRing 15 = .ok (.istore 5, 2) := by decide +kernel
theorem dX8_toRing_17 : decode cX8_toRing 17 = .ok (.new 82, 3) := by decide +kernel
theorem dX8_toRing_20 : decode cX8_toRing 20 = .ok (.dup, 1) := by decide +kernel
theorem dX8_toRing_21 : decode cX8_toRing 21 = .ok (.iload_n 2, 1) := by decide +kernel
theorem dX8_toRing_22 : decode cX8_toRing 22 = .ok (.iload_n 3, 1) := by decide +kernel
theorem dX8_toRing_23 : decode cX8_toRing 23 = .ok (.iconst 0, 1) := by decide +kernel
theorem dX8_toRing_24 : decode cX8_toRing 24 = .ok (.iload 5, 2) := by decide +kernel
theorem dX8_toRing_26 : decode cX8_toRing 26 = .ok (.iload 4, 2) := by decide +kernel
theorem dX8_toRing_28 : decode cX8_toRing 28 = .ok (.isub, 1) := by decide +kernel
theorem dX8_toRing_29 : decode cX8_toRing 29 = .ok (.invokestatic 70, 3) := by decide +kernel
theorem dX8_toRing_32 : decode cX8_toRing 32 = .ok (.invokespecial 94, 3) := by decide +kernel
theorem dX8_toRing_35 : decode cX8_toRing 35 = .ok (.astore 6, 2) := by decide +kernel
theorem dX8_toRing_37 : decode cX8_toRing 37 = .ok (.aload 6, 2) := by decide +kernel
theorem dX8_toRing_39 : decode cX8_toRing 39 = .ok (.iload 4, 2) := by decide +kernel
theorem dX8_toRing_41 : decode cX8_toRing 41 = .ok (.iload 5, 2) := by decide +kernel
theorem dX8_toRing_43 : decode cX8_toRing 43 = .ok (.if_icmp .ge 20, 3) := by decide +kernel
theorem dX8_toRing_46 : decode cX8_toRing 46 = .ok (.aload_n 0, 1) := by decide +kernel
theorem dX8_toRing_47 : decode cX8_toRing 47 = .ok (.iload 4, 2) := by decide +kernel
theorem dX8_toRing_49 : decode cX8_toRing 49 = .ok (.iload 5, 2) := by decide +kernel
theorem dX8_toRing_51 : decode cX8_toRing 51 = .ok (.iconst 1, 1) := by decide +kernel
theorem dX8_toRing_52 : decode cX8_toRing 52 = .ok (.isub, 1) := by decide +kernel
theorem dX8_toRing_53 : decode cX8_toRing 53 = .ok (.invokevirtual 97, 3) := by decide +kernel
theorem dX8_toRing_56 : decode cX8_toRing 56 = .ok (.ifCond .eq 7, 3) := by decide +kernel
theorem dX8_toRing_59 : decode cX8_toRing 59 = .ok (.iconst 1, 1) := by decide +kernel
theorem dX8_toRing_60 : decode cX8_toRing 60 = .ok (.goto 4, 3) := by decide +kernel
theorem dX8_toRing_63 : decode cX8_toRing 63 = .ok (.iconst 0, 1) := by decide +kernel
theorem dX8_toRing_64 : decode cX8_toRing 64 = .ok (.putfield 101, 3) := by decide +kernel
theorem dX8_toRing_67 : decode cX8_toRing 67 = .ok (.aload 6, 2) := by decide +kernel
theorem dX8_toRing_69 : decode cX8_toRing 69 = .ok (.aload_n 0, 1) := by decide +kernel
theorem dX8_toRing_70 : decode cX8_toRing 70 = .ok (.iload_n 1, 1) := by decide +kernel
theorem dX8_toRing_71 : decode cX8_toRing 71 = .ok (.invokevirtual 64, 3) := by decide +kernel
theorem dX8_toRing_74 : decode cX8_toRing 74 = .ok (.putfield 105, 3) := by decide +kernel
theorem dX8_toRing_77 : decode cX8_toRing 77 = .ok (.iload 4, 2) := by decide +kernel
theorem dX8_toRing_79 : decode cX8_toRing 79 = .ok (.istore 7, 2) := by decide +kernel
theorem dX8_toRing_81 : decode cX8_toRing 81 = .ok (.iload 7, 2) := by decide +kernel
theorem dX8_toRing_83 : decode cX8_toRing 83 = .ok (.iconst 1, 1) := by decide +kernel
theorem dX8_toRing_84 : decode cX8_toRing 84 = .ok (.iadd, 1) := by decide +kernel
theorem dX8_toRing_85 : decode cX8_toRing 85 = .ok (.iload 5, 2) := by decide +kernel
theorem dX8_toRing_87 : decode cX8_toRing 87 = .ok (.if_icmp .ge 81, 3) := by decide +kernel
theorem dX8_toRing_90 : decode cX8_toRing 90 = .ok (.aload_n 0, 1) := by decide +kernel
theorem dX8_toRing_91 : decode cX8_toRing 91 = .ok (.iload 7, 2) := by decide +kernel
theorem dX8_toRing_93 : decode cX8_toRing 93 = .ok (.iload 7, 2) := by decide +kernel
theorem dX8_toRing_95 : decode cX8_toRing 95 = .ok (.iconst 1, 1) := by decide +kernel
theorem dX8_toRing_96 : decode cX8_toRing 96 = .ok (.iadd, 1) := by decide +kernel
theorem dX8_toRing_97 : decode cX8_toRing 97 = .ok (.invokevirtual 97, 3) := by decide +kernel
theorem dX8_toRing_100 : decode cX8_toRing 100 = .ok (.ifCond .ne 62, 3) := by decide +kernel
theorem dX8_toRing_103 : decode cX8_toRing 103 = .ok (.aload 6, 2) := by decide +kernel
theorem dX8_toRing_105 : decode cX8_toRing 105 = .ok (.new 107, 3) := by decide +kernel
theorem dX8_toRing_108 : decode cX8_toRing 108 = .ok (.dup, 1) := by decide +kernel
theorem dX8_toRing_109 : decode cX8_toRing 109 = .ok (.aload 6, 2) := by decide +kernel
theorem dX8_toRing_111 : decode cX8_toRing 111 = .ok (.iload 7, 2) := by decide +kernel
theorem dX8_toRing_113 : decode cX8_toRing 113 = .ok (.iload 4, 2) := by decide +kernel
theorem dX8_toRing_115 : decode cX8_toRing 115 = .ok (.isub, 1) := by decide +kernel
theorem dX8_toRing_116 : decode cX8_toRing 116 = .ok (.aload_n 0, 1) := by decide +kernel
theorem dX8_toRing_117 : decode cX8_toRing 117 = .ok (.getfield 27, 3) := by decide +kernel
theorem dX8_toRing_120 : decode cX8_toRing 120 = .ok (.iload 7, 2) := by decide +kernel
theorem dX8_toRing_122 : decode cX8_toRing 122 = .ok (.invokevirtual 47, 3) := by decide +kernel
theorem dX8_toRing_125 : decode cX8_toRing 125 = .ok (.aload_n 0, 1) := by decide +kernel
theorem dX8_toRing_126 : decode cX8_toRing 126 = .ok (.getfield 30, 3) := by decide +kernel
theorem dX8_toRing_129 : decode cX8_toRing 129 = .ok (.iload 7, 2) := by decide +kernel
theorem dX8_toRing_131 : decode cX8_toRing 131 = .ok (.invokevirtual 47, 3) := by decide +kernel
theorem dX8_toRing_134 : decode cX8_toRing 134 = .ok (.aload_n 0, 1) := by decide +kernel
theorem dX8_toRing_135 : decode cX8_toRing 135 = .ok (.getfield 27, 3) := by decide +kernel
theorem dX8_toRing_138 : decode cX8_toRing 138 = .ok (.iload 7, 2) := by decide +kernel
theorem dX8_toRing_140 : decode cX8_toRing 140 = .ok (.iconst 1, 1) := by decide +kernel
theorem dX8_toRing_141 : decode cX8_toRing 141 = .ok (.iadd, 1) := by decide +kernel
theorem dX8_toRing_142 : decode cX8_toRing 142 = .ok (.invokevirtual 47, 3) := by decide +kernel
theorem dX8_toRing_145 : decode cX8_toRing 145 = .ok (.aload_n 0, 1) := by decide +kernel
theorem dX8_toRing_146 : decode cX8_toRing 146 = .ok (.getfield 30, 3) := by decide +kernel
theorem dX8_toRing_149 : decode cX8_toRing 149 = .ok (.iload 7, 2) := by decide +kernel
theorem dX8_toRing_151 : decode cX8_toRing 151 = .ok (.iconst 1, 1) := by decide +kernel
theorem dX8_toRing_152 : decode cX8_toRing 152 = .ok (.iadd, 1) := by decide +kernel
theorem dX8_toRing_153 : decode cX8_toRing 153 = .ok (.invokevirtual 47, 3) := by decide +kernel
theorem dX8_toRing_156 : decode cX8_toRing 156 = .ok (.invokespecial 109, 3) := by decide +kernel
theorem dX8_toRing_159 : decode cX8_toRing 159 = .ok (.invokevirtual 112, 3) := by decide +kernel
theorem dX8_toRing_162 : decode cX8_toRing 162 = .ok (.iinc 7 1, 3) := by decide +kernel
theorem dX8_toRing_165 : decode cX8_toRing 165 = .ok (.goto (-84), 3) := by decide +kernel
theorem dX8_toRing_168 : decode cX8_toRing 168 = .ok (.aload 6, 2) := by decide +kernel
theorem dX8_toRing_170 : decode cX8_toRing 170 = .ok (.areturn, 1) := by decide +kernel
theorem dX8_behindChain_0 : decode cX8_behindChain 0 = .ok (.iload_n 1, 1) := by decide +kernel
theorem dX8_behindChain_1 : decode cX8_behindChain 1 = .ok (.iconst 1, 1) := by decide +kernel
theorem dX8_behindChain_2 : decode cX8_behindChain 2 = .ok (.iadd, 1) := by decide +kernel
theorem dX8_behindChain_3 : decode cX8_behindChain 3 = .ok (.aload_n 0, 1) := by decide +kernel
theorem dX8_behindChain_4 : decode cX8_behindChain 4 = .ok (.getfield 24, 3) := by decide +kernel
theorem dX8_behindChain_7 : decode cX8_behindChain 7 = .ok (.invokevirtual 43, 3) := by decide +kernel
theorem dX8_behindChain_10 : decode cX8_behindChain 10 = .ok (.if_icmp .ge 16, 3) := by decide +kernel
theorem dX8_behindChain_13 : decode cX8_behindChain 13 = .ok (.aload_n 0, 1) := by decide +kernel
theorem dX8_behindChain_14 : decode cX8_behindChain 14 = .ok (.getfield 24, 3) := by decide +kernel
theorem dX8_behindChain_17 : decode cX8_behindChain 17 = .ok (.iload_n 1, 1) := by decide +kernel
theorem dX8_behindChain_18 : decode cX8_behindChain 18 = .ok (.iconst 1, 1) := by decide +kernel
theorem dX8_behindChain_19 : decode cX8_behindChain 19 = .ok (.iadd, 1) := by decide +kernel
theorem dX8_behindChain_20 : decode cX8_behindChain 20 = .ok (.invokevirtual 47, 3) := by decide +kernel
theorem dX8_behindChain_23 : decode cX8_behindChain 23 = .ok (.goto 10, 3) := by decide +kernel
theorem dX8_behindChain_26 : decode cX8_behindChain 26 = .ok (.aload_n 0, 1) := by decide +kernel
theorem dX8_behindChain_27 : decode cX8_behindChain 27 = .ok (.getfield 27, 3) := by decide +kernel
theorem dX8_behindChain_30 : decode cX8_behindChain 30 = .ok (.invokevirtual 43, 3) := by decide +kernel
theorem dX8_behindChain_33 : decode cX8_behindChain 33 = .ok (.ireturn, 1) := by decide +kernel
theorem dX8_differentPoints_0 : decode cX8_differentPoints 0 = .ok (.aload_n 0, 1) := by decide +kernel
theorem dX8_differentPoints_1 : decode cX8_differentPoints 1 = .ok (.getfield 24, 3) := by decide +kernel
theorem dX8_differentPoints_4 : decode cX8_differentPoints 4 = .ok (.iload_n 1, 1) := by decide +kernel
theorem dX8_differentPoints_5 : decode cX8_differentPoints 5 = .ok (.invokevirtual 47, 3) := by decide +kernel
theorem dX8_differentPoints_8 : decode cX8_differentPoints 8 = .ok (.istore_n 2, 1) := by decide +kernel
theorem dX8_differentPoints_9 : decode cX8_differentPoints 9 = .ok (.aload_n 0, 1) := by decide +kernel
theorem dX8_differentPoints_10 : decode cX8_differentPoints 10 = .ok (.iload_n 1, 1) := by decide +kernel
theorem dX8_differentPoints_11 : decode cX8_differentPoints 11 = .ok (.invokevirtual 91, 3) := by decide +kernel
theorem dX8_differentPoints_14 : decode cX8_differentPoints 14 = .ok (.istore_n 3, 1) := by decide +kernel
theorem dX8_differentPoints_15 : decode cX8_differentPoints 15 = .ok (.iconst (-1), 1) := by decide +kernel
theorem dX8_differentPoints_16 : decode cX8_differentPoints 16 = .ok (.istore 4, 2) := by decide +kernel
theorem dX8_differentPoints_18 : decode cX8_differentPoints 18 = .ok (.iload_n 2, 1) := by decide +kernel
theorem dX8_differentPoints_19 : decode cX8_differentPoints 19 = .ok (.iconst 1, 1) := by decide +kernel
theorem dX8_differentPoints_20 : decode cX8_differentPoints 20 = .ok (.iadd, 1) := by decide +kernel
theorem dX8_differentPoints_21 : decode cX8_differentPoints 21 = .ok (.istore 5, 2) := by decide +kernel
theorem dX8_differentPoints_23 : decode cX8_differentPoints 23 = .ok (.iload 5, 2) := by decide +kernel
theorem dX8_differentPoints_25 : decode cX8_differentPoints 25 = .ok (.iload_n 3, 1) := by decide +kernel
theorem dX8_differentPoints_26 : decode cX8_differentPoints 26 = .ok (.if_icmp .ge 48, 3) := by decide +kernel
theorem dX8_differentPoints_29 : decode cX8_differentPoints 29 = .ok (.aload_n 0, 1) := by decide +kernel
theorem dX8_differentPoints_30 : decode cX8_differentPoints 30 = .ok (.iload 5, 2) := by decide +kernel
theorem dX8_differentPoints_32 : decode cX8_differentPoints 32 = .ok (.iload_n 2, 1) := by decide +kernel
theorem dX8_differentPoints_33 : decode cX8_differentPoints 33 = .ok (.invokevirtual 97, 3) := by decide +kernel
theorem dX8_differentPoints_36 : decode cX8_differentPoints 36 = .ok (.ifCond .eq 6, 3) := by decide +kernel
theorem dX8_differentPoints_39 : decode cX8_differentPoints 39 = .ok (.goto 29, 3) := by decide +kernel
theorem dX8_differentPoints_42 : decode cX8_differentPoints 42 = .ok (.iload 4, 2) := by decide +kernel
theorem dX8_differentPoints_44 : decode cX8_differentPoints 44 = .ok (.iconst (-1), 1) := by decide +kernel
theorem dX8_differentPoints_45 : decode cX8_differentPoints 45 = .ok (.if_icmp .ne 10, 3) := by decide +kernel
theorem dX8_differentPoints_48 : decode cX8_differentPoints 48 = .ok (.iload 5, 2) := by decide +kernel
theorem dX8_differentPoints_50 : decode cX8_differentPoints 50 = .ok (.istore 4, 2) := by decide +kernel
theorem dX8_differentPoints_52 : decode cX8_differentPoints 52 = .ok (.goto 16, 3) := by decide +kernel
theorem dX8_differentPoints_55 : decode cX8_differentPoints 55 = .ok (.aload_n 0, 1) := by decide +kernel
theorem dX8_differentPoints_56 : decode cX8_differentPoints 56 = .ok (.iload 5, 2) := by decide +kernel
theorem dX8_differentPoints_58 : decode cX8_differentPoints 58 = .ok (.iload 4, 2) := by decide +kernel
theorem dX8_differentPoints_60 : decode cX8_differentPoints 60 = .ok (.invokevirtual 97, 3) := by decide +kernel
theorem dX8_differentPoints_63 : decode cX8_differentPoints 63 = .ok (.ifCond .ne 5, 3) := by decide +kernel
theorem dX8_differentPoints_66 : decode cX8_differentPoints 66 = .ok (.iconst 3, 1) := by decide +kernel
theorem dX8_differentPoints_67 : decode cX8_differentPoints 67 = .ok (.ireturn, 1) := by decide +kernel
theorem dX8_differentPoints_68 : decode cX8_differentPoints 68 = .ok (.iinc 5 1, 3) := by decide +kernel
theorem dX8_differentPoints_71 : decode cX8_differentPoints 71 = .ok (.goto (-48), 3) := by decide +kernel
theorem dX8_differentPoints_74 : decode cX8_differentPoints 74 = .ok (.iload_n 2, 1) := by decide +kernel
theorem dX8_differentPoints_75 : decode cX8_differentPoints 75 = .ok (.iload_n 3, 1) := by decide +kernel
theorem dX8_differentPoints_76 : decode cX8_differentPoints 76 = .ok (.if_icmp .lt 5, 3) := by decide +kernel
theorem dX8_differentPoints_79 : decode cX8_differentPoints 79 = .ok (.iconst 0, 1) := by decide +kernel
theorem dX8_differentPoints_80 : decode cX8_differentPoints 80 = .ok (.ireturn, 1) := by decide +kernel
theorem dX8_differentPoints_81 : decode cX8_differentPoints 81 = .ok (.iload 4, 2) := by decide +kernel
theorem dX8_differentPoints_83 : decode cX8_differentPoints 83 = .ok (.iconst (-1), 1) := by decide +kernel
theorem dX8_differentPoints_84 : decode cX8_differentPoints 84 = .ok (.if_icmp .ne 7, 3) := by decide +kernel
theorem dX8_differentPoints_87 : decode cX8_differentPoints 87 = .ok (.iconst 1, 1) := by decide +kernel
theorem dX8_differentPoints_88 : decode cX8_differentPoints 88 = .ok (.goto 4, 3) := by decide +kernel
theorem dX8_differentPoints_91 : decode cX8_differentPoints 91 = .ok (.iconst 2, 1) := by decide +kernel
theorem dX8_differentPoints_92 : decode cX8_differentPoints 92 = .ok (.ireturn, 1) := by decide +kernel
theorem dX8_isSame_0 : decode cX8_isSame 0 = .ok (.aload_n 0, 1) := by decide +kernel
theorem dX8_isSame_1 : decode cX8_isSame 1 = .ok (.getfield 27, 3) := by decide +kernel
theorem dX8_isSame_4 : decode cX8_isSame 4 = .ok (.iload_n 1, 1) := by decide +kernel
theorem dX8_isSame_5 : decode cX8_isSame 5 = .ok (.invokevirtual 47, 3) := by decide +kernel
theorem dX8_isSame_8 : decode cX8_isSame 8 = .ok (.aload_n 0, 1) := by decide +kernel
theorem dX8_isSame_9 : decode cX8_isSame 9 = .ok (.getfield 27, 3) := by decide +kernel
theorem dX8_isSame_12 : decode cX8_isSame 12 = .ok (.iload_n 2, 1) := by decide +kernel
theorem dX8_isSame_13 : decode cX8_isSame 13 = .ok (.invokevirtual 47, 3) := by decide +kernel
theorem dX8_isSame_16 : decode cX8_isSame 16 = .ok (.if_icmp .ne 26, 3) := by decide +kernel
theorem dX8_isSame_19 : decode cX8_isSame 19 = .ok (.aload_n 0, 1) := by decide +kernel
theorem dX8_isSame_20 : decode cX8_isSame 20 = .ok (.getfield 30, 3) := by decide +kernel
theorem dX8_isSame_23 : decode cX8_isSame 23 = .ok (.iload_n 1, 1) := by decide +kernel
theorem dX8_isSame_24 : decode cX8_isSame 24 = .ok (.invokevirtual 47, 3) := by decide +kernel
theorem dX8_isSame_27 : decode cX8_isSame 27 = .ok (.aload_n 0, 1) := by decide +kernel
theorem dX8_isSame_28 : decode cX8_isSame 28 = .ok (.getfield 30, 3) := by decide +kernel
theorem dX8_isSame_31 : decode cX8_isSame 31 = .ok (.iload_n 2, 1) := by decide +kernel
theorem dX8_isSame_32 : decode cX8_isSame 32 = .ok (.invokevirtual 47, 3) := by decide +kernel
theorem dX8_isSame_35 : decode cX8_isSame 35 = .ok (.if_icmp .ne 7, 3) := by decide +kernel
theorem dX8_isSame_38 : decode cX8_isSame 38 = .ok (.iconst 1, 1) := by decide +kernel
theorem dX8_isSame_39 : decode cX8_isSame 39 = .ok (.goto 4, 3) := by decide +kernel
theorem dX8_isSame_42 : decode cX8_isSame 42 = .ok (.iconst 0, 1) := by decide +kernel
theorem dX8_isSame_43 : decode cX8_isSame 43 = .ok (.ireturn, 1) := by decide +kernel
theorem dX9_init_0 : decode cX9_init 0 = .ok (.aload_n 0, 1) := by decide +kernel
theorem dX9_init_1 : decode cX9_init 1 = .ok (.invokespecial 1, 3) := by decide +kernel
theorem dX9_init_4 : decode cX9_init 4 = .ok (.aload_n 0, 1) := by decide +kernel
theorem dX9_init_5 : decode cX9_init 5 = .ok (.new 7, 3) := by decide +kernel
theorem dX9_init_8 : decode cX9_init 8 = .ok (.dup, 1) := by decide +kernel
theorem dX9_init_9 : decode cX9_init 9 = .ok (.invokespecial 9, 3) := by decide +kernel
theorem dX9_init_12 : decode cX9_init 12 = .ok (.putfield 10, 3) := by decide +kernel
theorem dX9_init_15 : decode cX9_init 15 = .ok (.aload_n 0, 1) := by decide +kernel
theorem dX9_init_16 : decode cX9_init 16 = .ok (.new 16, 3) := by decide +kernel
theorem dX9_init_19 : decode cX9_init 19 = .ok (.dup, 1) := by decide +kernel
theorem dX9_init_20 : decode cX9_init 20 = .ok (.invokespecial 18, 3) := by decide +kernel
theorem dX9_init_23 : decode cX9_init 23 = .ok (.putfield 19, 3) := by decide +kernel
theorem dX9_init_26 : decode cX9_init 26 = .ok (.aload_n 0, 1) := by decide +kernel
theorem dX9_init_27 : decode cX9_init 27 = .ok (.new 23, 3) := by decide +kernel
theorem dX9_init_30 : decode cX9_init 30 = .ok (.dup, 1) := by decide +kernel
theorem dX9_init_31 : decode cX9_init 31 = .ok (.aload_n 0, 1) := by decide +kernel
theorem dX9_init_32 : decode cX9_init 32 = .ok (.getfield 10, 3) := by decide +kernel
theorem dX9_init_35 : decode cX9_init 35 = .ok (.aload_n 0, 1) := by decide +kernel
theorem dX9_init_36 : decode cX9_init 36 = .ok (.getfield 19, 3) := by decide +kernel
theorem dX9_init_39 : decode cX9_init 39 = .ok (.invokespecial 25, 3) := by decide +kernel
theorem dX9_init_42 : decode cX9_init 42 = .ok (.putfield 28, 3) := by decide +kernel
theorem dX9_init_45 : decode cX9_init 45 = .ok (.return_, 1) := by decide +kernel
theorem dX9_clear_0 : decode cX9_clear 0 = .ok (.aload_n 0, 1) := by decide +kernel
theorem dX9_clear_1 : decode cX9_clear 1 = .ok (.getfield 10, 3) := by decide +kernel
theorem dX9_clear_4 : decode cX9_clear 4 = .ok (.invokevirtual 32, 3) := by decide +kernel
theorem dX9_clear_7 : decode cX9_clear 7 = .ok (.istore_n 1, 1) := by decide +kernel
theorem dX9_clear_8 : decode cX9_clear 8 = .ok (.aload_n 0, 1) := by decide +kernel
theorem dX9_clear_9 : decode cX9_clear 9 = .ok (.getfield 10, 3) := by decide +kernel
theorem dX9_clear_12 : decode cX9_clear 12 = .ok (.invokevirtual 36, 3) := by decide +kernel
theorem dX9_clear_15 : decode cX9_clear 15 = .ok (.aload_n 0, 1) := by decide +kernel
theorem dX9_clear_16 : decode cX9_clear 16 = .ok (.getfield 19, 3) := by decide +kernel
theorem dX9_clear_19 : decode cX9_clear 19 = .ok (.invokevirtual 39, 3) := by decide +kernel
theorem dX9_clear_22 : decode cX9_clear 22 = .ok (.aload_n 0, 1) := by decide +kernel
theorem dX9_clear_23 : decode cX9_clear 23 = .ok (.iconst 0, 1) := by decide +kernel
theorem dX9_clear_24 : decode cX9_clear 24 = .ok (.putfield 40, 3) := by decide +kernel
theorem dX9_clear_27 : decode cX9_clear 27 = .ok (.iload_n 1, 1) := by decide +kernel
theorem dX9_clear_28 : decode cX9_clear 28 = .ok (.ireturn, 1) := by decide +kernel
theorem dX9_open_0 : decode cX9_open 0 = .ok (.iload_n 1, 1) := by decide +kernel
theorem dX9_open_1 : decode cX9_open 1 = .ok (.iconst 1, 1) := by decide +kernel
theorem dX9_open_2 : decode cX9_open 2 = .ok (.if_icmp .lt 9, 3) := by decide +kernel
theorem dX9_open_5 : decode cX9_open 5 = .ok (.iload_n 1, 1) := by decide +kernel
theorem dX9_open_6 : decode cX9_open 6 = .ok (.bipush 7, 2) := by decide +kernel
theorem dX9_open_8 : decode cX9_open 8 = .ok (.if_icmp .le 13, 3) := by decide +kernel
theorem dX9_open_11 : decode cX9_open 11 = .ok (.new 44, 3) := by decide +kernel
theorem dX9_open_14 : decode cX9_open 14 = .ok (.dup, 1) := by decide +kernel
theorem dX9_open_15 : decode cX9_open 15 = .ok (.ldc 46, 2) := by decide +kernel
theorem dX9_open_17 : decode cX9_open 17 = .ok (.invokespecial 48, 3) := by decide +kernel
theorem dX9_open_20 : decode cX9_open 20 = .ok (.athrow, 1) := by decide +kernel
theorem dX9_open_21 : decode cX9_open 21 = .ok (.aload_n 0, 1) := by decide +kernel
theorem dX9_open_22 : decode cX9_open 22 = .ok (.getfield 10, 3) := by decide +kernel
theorem dX9_open_25 : decode cX9_open 25 = .ok (.iload_n 1, 1) := by decide +kernel
theorem dX9_open_26 : decode cX9_open 26 = .ok (.invokevirtual 51, 3) := by decide +kernel
theorem dX9_open_29 : decode cX9_open 29 = .ok (.ifCond .ne 13, 3) := by decide +kernel
theorem dX9_open_32 : decode cX9_open 32 = .ok (.new 55, 3) := by decide +kernel
theorem dX9_open_35 : decode cX9_open 35 = .ok (.dup, 1) := by decide +kernel
theorem dX9_open_36 : decode cX9_open 36 = .ok (.ldc 57, 2) := by decide +kernel
theorem dX9_open_38 : decode cX9_open 38 = .ok (.invokespecial 59, 3) := by decide +kernel
theorem dX9_open_41 : decode cX9_open 41 = .ok (.athrow, 1) := by decide +kernel
theorem dX9_open_42 : decode cX9_open 42 = .ok (.aload_n 0, 1) := by decide +kernel
theorem dX9_open_43 : decode cX9_open 43 = .ok (.getfield 10, 3) := by decide +kernel
theorem dX9_open_46 : decode cX9_open 46 = .ok (.invokevirtual 32, 3) := by decide +kernel
theorem dX9_open_49 : decode cX9_open 49 = .ok (.sipush 4094, 3) := by decide +kernel
theorem dX9_open_52 : decode cX9_open 52 = .ok (.if_icmp .le 13, 3) := by decide +kernel
theorem dX9_open_55 : decode cX9_open 55 = .ok (.new 60, 3) := by decide +kernel
theorem dX9_open_58 : decode cX9_open 58 = .ok (.dup, 1) := by decide +kernel
theorem dX9_open_59 : decode cX9_open 59 = .ok (.ldc 62, 2) := by decide +kernel
theorem dX9_open_61 : decode cX9_open 61 = .ok (.invokespecial 64, 3) := by decide +kernel
theorem dX9_open_64 : decode cX9_open 64 = .ok (.athrow, 1) := by decide +kernel
theorem dX9_open_65 : decode cX9_open 65 = .ok (.aload_n 0, 1) := by decide +kernel
theorem dX9_open_66 : decode cX9_open 66 = .ok (.getfield 10, 3) := by decide +kernel
theorem dX9_open_69 : decode cX9_open 69 = .ok (.iload_n 1, 1) := by decide +kernel
theorem dX9_open_70 : decode cX9_open 70 = .ok (.invokevirtual 65, 3) := by decide +kernel
theorem dX9_open_73 : decode cX9_open 73 = .ok (.ireturn, 1) := by decide +kernel
theorem dX9_ring_0 : decode cX9_ring 0 = .ok (.aload_n 0, 1) := by decide +kernel
theorem dX9_ring_1 : decode cX9_ring 1 = .ok (.getfield 10, 3) := by decide +kernel
theorem dX9_ring_4 : decode cX9_ring 4 = .ok (.invokevirtual 69, 3) := by decide +kernel
theorem dX9_ring_7 : decode cX9_ring 7 = .ok (.iconst 3, 1) := by decide +kernel
theorem dX9_ring_8 : decode cX9_ring 8 = .ok (.if_icmp .eq 13, 3) := by decide +kernel
theorem dX9_ring_11 : decode cX9_ring 11 = .ok (.new 55, 3) := by decide +kernel
theorem dX9_ring_14 : decode cX9_ring 14 = .ok (.dup, 1) := by decide +kernel
theorem dX9_ring_15 : decode cX9_ring 15 = .ok (.ldc 72, 2) := by decide +kernel
theorem dX9_ring_17 : decode cX9_ring 17 = .ok (.invokespecial 59, 3) := by decide +kernel
theorem dX9_ring_20 : decode cX9_ring 20 = .ok (.athrow, 1) := by decide +kernel
theorem dX9_ring_21 : decode cX9_ring 21 = .ok (.aload_n 0, 1) := by decide +kernel
theorem dX9_ring_22 : decode cX9_ring 22 = .ok (.getfield 10, 3) := by decide +kernel
theorem dX9_ring_25 : decode cX9_ring 25 = .ok (.invokevirtual 32, 3) := by decide +kernel
theorem dX9_ring_28 : decode cX9_ring 28 = .ok (.sipush 4095, 3) := by decide +kernel
theorem dX9_ring_31 : decode cX9_ring 31 = .ok (.if_icmp .le 13, 3) := by decide +kernel
theorem dX9_ring_34 : decode cX9_ring 34 = .ok (.new 60, 3) := by decide +kernel
theorem dX9_ring_37 : decode cX9_ring 37 = .ok (.dup, 1) := by decide +kernel
theorem dX9_ring_38 : decode cX9_ring 38 = .ok (.ldc 62, 2) := by decide +kernel
theorem dX9_ring_40 : decode cX9_ring 40 = .ok (.invokespecial 64, 3) := by decide +kernel
theorem dX9_ring_43 : decode cX9_ring 43 = .ok (.athrow, 1) := by decide +kernel
theorem dX9_ring_44 : decode cX9_ring 44 = .ok (.aload_n 0, 1) := by decide +kernel
theorem dX9_ring_45 : decode cX9_ring 45 = .ok (.getfield 10, 3) := by decide +kernel
theorem dX9_ring_48 : decode cX9_ring 48 = .ok (.invokevirtual 74, 3) := by decide +kernel
theorem dX9_ring_51 : decode cX9_ring 51 = .ok (.return_, 1) := by decide +kernel
theorem dX9_point_0 : decode cX9_point 0 = .ok (.iload_n 1, 1) := by decide +kernel
theorem dX9_point_1 : decode cX9_point 1 = .ok (.invokestatic 77, 3) := by decide +kernel
theorem dX9_point_4 : decode cX9_point 4 = .ok (.ifCond .eq 10, 3) := by decide +kernel
theorem dX9_point_7 : decode cX9_point 7 = .ok (.iload_n 2, 1) := by decide +kernel
theorem dX9_point_8 : decode cX9_point 8 = .ok (.invokestatic 77, 3) := by decide +kernel
theorem dX9_point_11 : decode cX9_point 11 = .ok (.ifCond .ne 13, 3) := by decide +kernel
theorem dX9_point_14 : decode cX9_point 14 = .ok (.new 44, 3) := by decide +kernel
theorem dX9_point_17 : decode cX9_point 17 = .ok (.dup, 1) := by decide +kernel
theorem dX9_point_18 : decode cX9_point 18 = .ok (.ldc 80, 2) := by decide +kernel
theorem dX9_point_20 : decode cX9_point 20 = .ok (.invokespecial 48, 3) := by decide +kernel
theorem dX9_point_23 : decode cX9_point 23 = .ok (.athrow, 1) := by decide +kernel
theorem dX9_point_24 : decode cX9_point 24 = .ok (.aload_n 0, 1) := by decide +kernel
theorem dX9_point_25 : decode cX9_point 25 = .ok (.getfield 10, 3) := by decide +kernel
theorem dX9_point_28 : decode cX9_point 28 = .ok (.invokevirtual 82, 3) := by decide +kernel
theorem dX9_point_31 : decode cX9_point 31 = .ok (.ifCond .ne 13, 3) := by decide +kernel
theorem dX9_point_34 : decode cX9_point 34 = .ok (.new 55, 3) := by decide +kernel
theorem dX9_point_37 : decode cX9_point 37 = .ok (.dup, 1) := by decide +kernel
theorem dX9_point_38 : decode cX9_point 38 = .ok (.ldc 86, 2) := by decide +kernel
theorem dX9_point_40 : decode cX9_point 40 = .ok (.invokespecial 59, 3) := by decide +kernel
theorem dX9_point_43 : decode cX9_point 43 = .ok (.athrow, 1) := by decide +kernel
theorem dX9_point_44 : decode cX9_point 44 = .ok (.aload_n 0, 1) := by decide +kernel
theorem dX9_point_45 : decode cX9_point 45 = .ok (.getfield 10, 3) := by decide +kernel
theorem dX9_point_48 : decode cX9_point 48 = .ok (.invokevirtual 88, 3) := by decide +kernel
theorem dX9_point_51 : decode cX9_point 51 = .ok (.sipush 4096, 3) := by decide +kernel
theorem dX9_point_54 : decode cX9_point 54 = .ok (.if_icmp .lt 13, 3) := by decide +kernel
theorem dX9_point_57 : decode cX9_point 57 = .ok (.new 60, 3) := by decide +kernel
theorem dX9_point_60 : decode cX9_point 60 = .ok (.dup, 1) := by decide +kernel
theorem dX9_point_61 : decode cX9_point 61 = .ok (.ldc 91, 2) := by decide +kernel
theorem dX9_point_63 : decode cX9_point 63 = .ok (.invokespecial 64, 3) := by decide +kernel
theorem dX9_point_66 : decode cX9_point 66 = .ok (.athrow, 1) := by decide +kernel
theorem dX9_point_67 : decode cX9_point 67 = .ok (.aload_n 0, 1) := by decide +kernel
theorem dX9_point_68 : decode cX9_point 68 = .ok (.getfield 10, 3) := by decide +kernel
theorem dX9_point_71 : decode cX9_point 71 = .ok (.iload_n 1, 1) := by decide +kernel
theorem dX9_point_72 : decode cX9_point 72 = .ok (.iload_n 2, 1) := by decide +kernel
theorem dX9_point_73 : decode cX9_point 73 = .ok (.invokevirtual 93, 3) := by decide +kernel
theorem dX9_point_76 : decode cX9_point 76 = .ok (.ireturn, 1) := by decide +kernel
theorem dX9_close_0 : decode cX9_close 0 = .ok (.aload_n 0, 1) := by decide +kernel
theorem dX9_close_1 : decode cX9_close 1 = .ok (.getfield 10, 3) := by decide +kernel
theorem dX9_close_4 : decode cX9_close 4 = .ok (.invokevirtual 97, 3) := by decide +kernel
theorem dX9_close_7 : decode cX9_close 7 = .ok (.ifCond .ne 13, 3) := by decide +kernel
theorem dX9_close_10 : decode cX9_close 10 = .ok (.new 55, 3) := by decide +kernel
theorem dX9_close_13 : decode cX9_close 13 = .ok (.dup, 1) := by decide +kernel
theorem dX9_close_14 : decode cX9_close 14 = .ok (.ldc 100, 2) := by decide +kernel
theorem dX9_close_16 : decode cX9_close 16 = .ok (.invokespecial 59, 3) := by decide +kernel
theorem dX9_close_19 : decode cX9_close 19 = .ok (.athrow, 1) := by decide +kernel
theorem dX9_close_20 : decode cX9_close 20 = .ok (.aload_n 0, 1) := by decide +kernel
theorem dX9_close_21 : decode cX9_close 21 = .ok (.getfield 10, 3) := by decide +kernel
theorem dX9_close_24 : decode cX9_close 24 = .ok (.invokevirtual 102, 3) := by decide +kernel
theorem dX9_close_27 : decode cX9_close 27 = .ok (.ireturn, 1) := by decide +kernel
theorem dX9_judge_0 : decode cX9_judge 0 = .ok (.aload_n 0, 1) := by decide +kernel
theorem dX9_judge_1 : decode cX9_judge 1 = .ok (.getfield 10, 3) := by decide +kernel
theorem dX9_judge_4 : decode cX9_judge 4 = .ok (.invokevirtual 105, 3) := by decide +kernel
theorem dX9_judge_7 : decode cX9_judge 7 = .ok (.ifCond .ne 13, 3) := by decide +kernel
theorem dX9_judge_10 : decode cX9_judge 10 = .ok (.new 55, 3) := by decide +kernel
theorem dX9_judge_13 : decode cX9_judge 13 = .ok (.dup, 1) := by decide +kernel
theorem dX9_judge_14 : decode cX9_judge 14 = .ok (.ldc 108, 2) := by decide +kernel
theorem dX9_judge_16 : decode cX9_judge 16 = .ok (.invokespecial 59, 3) := by decide +kernel
theorem dX9_judge_19 : decode cX9_judge 19 = .ok (.athrow, 1) := by decide +kernel
theorem dX9_judge_20 : decode cX9_judge 20 = .ok (.aload_n 0, 1) := by decide +kernel
theorem dX9_judge_21 : decode cX9_judge 21 = .ok (.getfield 40, 3) := by decide +kernel
theorem dX9_judge_24 : decode cX9_judge 24 = .ok (.ifCond .ne 45, 3) := by decide +kernel
theorem dX9_judge_27 : decode cX9_judge 27 = .ok (.aload_n 0, 1) := by decide +kernel
theorem dX9_judge_28 : decode cX9_judge 28 = .ok (.iconst 1, 1) := by decide +kernel
theorem dX9_judge_29 : decode cX9_judge 29 = .ok (.putfield 40, 3) := by decide +kernel
theorem dX9_judge_32 : decode cX9_judge 32 = .ok (.iconst 0, 1) := by decide +kernel
theorem dX9_judge_33 : decode cX9_judge 33 = .ok (.istore_n 1, 1) := by decide +kernel
theorem dX9_judge_34 : decode cX9_judge 34 = .ok (.iload_n 1, 1) := by decide +kernel
theorem dX9_judge_35 : decode cX9_judge 35 = .ok (.aload_n 0, 1) := by decide +kernel
theorem dX9_judge_36 : decode cX9_judge 36 = .ok (.getfield 10, 3) := by decide +kernel
theorem dX9_judge_39 : decode cX9_judge 39 = .ok (.invokevirtual 110, 3) := by decide +kernel
theorem dX9_judge_42 : decode cX9_judge 42 = .ok (.if_icmp .ge 27, 3) := by decide +kernel
theorem dX9_judge_45 : decode cX9_judge 45 = .ok (.aload_n 0, 1) := by decide +kernel
theorem dX9_judge_46 : decode cX9_judge 46 = .ok (.getfield 19, 3) := by decide +kernel
theorem dX9_judge_49 : decode cX9_judge 49 = .ok (.invokevirtual 113, 3) := by decide +kernel
theorem dX9_judge_52 : decode cX9_judge 52 = .ok (.ifCond .ne 17, 3) := by decide +kernel
theorem dX9_judge_55 : decode cX9_judge 55 = .ok (.aload_n 0, 1) := by decide +kernel
theorem dX9_judge_56 : decode cX9_judge 56 = .ok (.getfield 28, 3) := by decide +kernel
theorem dX9_judge_59 : decode cX9_judge 59 = .ok (.iload_n 1, 1) := by decide +kernel
theorem dX9_judge_60 : decode cX9_judge 60 = .ok (.invokevirtual 116, 3) := by decide +kernel
theorem dX9_judge_63 : decode cX9_judge 63 = .ok (.iinc 1 1, 3) := by decide +kernel
theorem dX9_judge_66 : decode cX9_judge 66 = .ok (.goto (-32), 3) := by decide +kernel
theorem dX9_judge_69 : decode cX9_judge 69 = .ok (.aload_n 0, 1) := by decide +kernel
theorem dX9_judge_70 : decode cX9_judge 70 = .ok (.getfield 19, 3) := by decide +kernel
theorem dX9_judge_73 : decode cX9_judge 73 = .ok (.invokevirtual 120, 3) := by decide +kernel
theorem dX9_judge_76 : decode cX9_judge 76 = .ok (.ireturn, 1) := by decide +kernel
theorem dX9_place_0 : decode cX9_place 0 = .ok (.iload_n 1, 1) := by decide +kernel
theorem dX9_place_1 : decode cX9_place 1 = .ok (.ifCond .lt 9, 3) := by decide +kernel
theorem dX9_place_4 : decode cX9_place 4 = .ok (.iload_n 1, 1) := by decide +kernel
theorem dX9_place_5 : decode cX9_place 5 = .ok (.bipush 7, 2) := by decide +kernel
theorem dX9_place_7 : decode cX9_place 7 = .ok (.if_icmp .lt 13, 3) := by decide +kernel
theorem dX9_place_10 : decode cX9_place 10 = .ok (.new 123, 3) := by decide +kernel
theorem dX9_place_13 : decode cX9_place 13 = .ok (.dup, 1) := by decide +kernel
theorem dX9_place_14 : decode cX9_place 14 = .ok (.ldc 125, 2) := by decide +kernel
theorem dX9_place_16 : decode cX9_place 16 = .ok (.invokespecial 127, 3) := by decide +kernel
theorem dX9_place_19 : decode cX9_place 19 = .ok (.athrow, 1) := by decide +kernel
theorem dX9_place_20 : decode cX9_place 20 = .ok (.aload_n 0, 1) := by decide +kernel
theorem dX9_place_21 : decode cX9_place 21 = .ok (.getfield 19, 3) := by decide +kernel
theorem dX9_place_24 : decode cX9_place 24 = .ok (.iload_n 1, 1) := by decide +kernel
theorem dX9_place_25 : decode cX9_place 25 = .ok (.invokevirtual 128, 3) := by decide +kernel
theorem dX9_place_28 : decode cX9_place 28 = .ok (.ireturn, 1) := by decide +kernel
theorem dX9_isCoordinate_0 : decode cX9_isCoordinate 0 = .ok (.iload_n 0, 1) := by decide +kernel
theorem dX9_isCoordinate_1 : decode cX9_isCoordinate 1 = .ok (.ldc 131, 2) := by decide +kernel
theorem dX9_isCoordinate_3 : decode cX9_isCoordinate 3 = .ok (.if_icmp .lt 13, 3) := by decide +kernel
theorem dX9_isCoordinate_6 : decode cX9_isCoordinate 6 = .ok (.iload_n 0, 1) := by decide +kernel
theorem dX9_isCoordinate_7 : decode cX9_isCoordinate 7 = .ok (.ldc 132, 2) := by decide +kernel
theorem dX9_isCoordinate_9 : decode cX9_isCoordinate 9 = .ok (.if_icmp .gt 7, 3) := by decide +kernel
theorem dX9_isCoordinate_12 : decode cX9_isCoordinate 12 = .ok (.iconst 1, 1) := by decide +kernel
theorem dX9_isCoordinate_13 : decode cX9_isCoordinate 13 = .ok (.goto 4, 3) := by decide +kernel
theorem dX9_isCoordinate_16 : decode cX9_isCoordinate 16 = .ok (.iconst 0, 1) := by decide +kernel
theorem dX9_isCoordinate_17 : decode cX9_isCoordinate 17 = .ok (.ireturn, 1) := by decide +kernel
end
section
theorem dX10_init_0 : decode cX10_init 0 = .ok (.aload_n 0, 1) := by decide +kernel
theorem dX10_init_1 : decode cX10_init 1 = .ok (.invokespecial 1, 3) := by decide +kernel
theorem dX10_init_4 : decode cX10_init 4 = .ok (.aload_n 0, 1) := by decide +kernel
theorem dX10_init_5 : decode cX10_init 5 = .ok (.sipush 2048, 3) := by decide +kernel
theorem dX10_init_8 : decode cX10_init 8 = .ok (.newarray .int, 2) := by decide +kernel
theorem dX10_init_10 : decode cX10_init 10 = .ok (.putfield 7, 3) := by decide +kernel
theorem dX10_init_13 : decode cX10_init 13 = .ok (.aload_n 0, 1) := by decide +kernel
theorem dX10_init_14 : decode cX10_init 14 = .ok (.sipush 2048, 3) := by decide +kernel
theorem dX10_init_17 : decode cX10_init 17 = .ok (.newarray .int, 2) := by decide +kernel
theorem dX10_init_19 : decode cX10_init 19 = .ok (.putfield 13, 3) := by decide +kernel
theorem dX10_init_22 : decode cX10_init 22 = .ok (.aload_n 0, 1) := by decide +kernel
theorem dX10_init_23 : decode cX10_init 23 = .ok (.sipush 2048, 3) := by decide +kernel
theorem dX10_init_26 : decode cX10_init 26 = .ok (.newarray .int, 2) := by decide +kernel
theorem dX10_init_28 : decode cX10_init 28 = .ok (.putfield 16, 3) := by decide +kernel
theorem dX10_init_31 : decode cX10_init 31 = .ok (.aload_n 0, 1) := by decide +kernel
theorem dX10_init_32 : decode cX10_init 32 = .ok (.sipush 2048, 3) := by decide +kernel
theorem dX10_init_35 : decode cX10_init 35 = .ok (.newarray .int, 2) := by decide +kernel
theorem dX10_init_37 : decode cX10_init 37 = .ok (.putfield 19, 3) := by decide +kernel
theorem dX10_init_40 : decode cX10_init 40 = .ok (.aload_n 0, 1) := by decide +kernel
theorem dX10_init_41 : decode cX10_init 41 = .ok (.sipush 2048, 3) := by decide +kernel
theorem dX10_init_44 : decode cX10_init 44 = .ok (.newarray .int, 2) := by decide +kernel
theorem dX10_init_46 : decode cX10_init 46 = .ok (.putfield 22, 3) := by decide +kernel
theorem dX10_init_49 : decode cX10_init 49 = .ok (.aload_n 0, 1) := by decide +kernel
theorem dX10_init_50 : decode cX10_init 50 = .ok (.sipush 2048, 3) := by decide +kernel
theorem dX10_init_53 : decode cX10_init 53 = .ok (.newarray .int, 2) := by decide +kernel
theorem dX10_init_55 : decode cX10_init 55 = .ok (.putfield 25, 3) := by decide +kernel
theorem dX10_init_58 : decode cX10_init 58 = .ok (.aload_n 0, 1) := by decide +kernel
theorem dX10_init_59 : decode cX10_init 59 = .ok (.sipush 2048, 3) := by decide +kernel
theorem dX10_init_62 : decode cX10_init 62 = .ok (.newarray .int, 2) := by decide +kernel
theorem dX10_init_64 : decode cX10_init 64 = .ok (.putfield 28, 3) := by decide +kernel
theorem dX10_init_67 : decode cX10_init 67 = .ok (.aload_n 0, 1) := by decide +kernel
theorem dX10_init_68 : decode cX10_init 68 = .ok (.sipush 4096, 3) := by decide +kernel
theorem dX10_init_71 : decode cX10_init 71 = .ok (.newarray .int, 2) := by decide +kernel
theorem dX10_init_73 : decode cX10_init 73 = .ok (.putfield 31, 3) := by decide +kernel
theorem dX10_init_76 : decode cX10_init 76 = .ok (.aload_n 0, 1) := by decide +kernel
theorem dX10_init_77 : decode cX10_init 77 = .ok (.sipush 4096, 3) := by decide +kernel
theorem dX10_init_80 : decode cX10_init 80 = .ok (.newarray .int, 2) := by decide +kernel
theorem dX10_init_82 : decode cX10_init 82 = .ok (.putfield 34, 3) := by decide +kernel
theorem dX10_init_85 : decode cX10_init 85 = .ok (.aload_n 0, 1) := by decide +kernel
theorem dX10_init_86 : decode cX10_init 86 = .ok (.sipush 4096, 3) := by decide +kernel
theorem dX10_init_89 : decode cX10_init 89 = .ok (.newarray .int, 2) := by decide +kernel
theorem dX10_init_91 : decode cX10_init 91 = .ok (.putfield 37, 3) := by decide +kernel
theorem dX10_init_94 : decode cX10_init 94 = .ok (.aload_n 0, 1) := by decide +kernel
theorem dX10_init_95 : decode cX10_init 95 = .ok (.sipush 4096, 3) := by decide +kernel
theorem dX10_init_98 : decode cX10_init 98 = .ok (.newarray .int, 2) := by decide +kernel
theorem dX10_init_100 : decode cX10_init 100 = .ok (.putfield 40, 3) := by decide +kernel
theorem dX10_init_103 : decode cX10_init 103 = .ok (.aload_n 0, 1) := by decide +kernel
theorem dX10_init_104 : decode cX10_init 104 = .ok (.bipush 50, 2) := by decide +kernel
theorem dX10_init_106 : decode cX10_init 106 = .ok (.newarray .int, 2) := by decide +kernel
theorem dX10_init_108 : decode cX10_init 108 = .ok (.putfield 43, 3) := by decide +kernel
theorem dX10_init_111 : decode cX10_init 111 = .ok (.aload_n 0, 1) := by decide +kernel
theorem dX10_init_112 : decode cX10_init 112 = .ok (.bipush 7, 2) := by decide +kernel
theorem dX10_init_114 : decode cX10_init 114 = .ok (.newarray .int, 2) := by decide +kernel
theorem dX10_init_116 : decode cX10_init 116 = .ok (.dup, 1) := by decide +kernel
theorem dX10_init_117 : decode cX10_init 117 = .ok (.iconst 0, 1) := by decide +kernel
theorem dX10_init_118 : decode cX10_init 118 = .ok (.iconst (-1), 1) := by decide +kernel
theorem dX10_init_119 : decode cX10_init 119 = .ok (.iastore, 1) := by decide +kernel
theorem dX10_init_120 : decode cX10_init 120 = .ok (.dup, 1) := by decide +kernel
theorem dX10_init_121 : decode cX10_init 121 = .ok (.iconst 1, 1) := by decide +kernel
theorem dX10_init_122 : decode cX10_init 122 = .ok (.iconst (-1), 1) := by decide +kernel
theorem dX10_init_123 : decode cX10_init 123 = .ok (.iastore, 1) := by decide +kernel
theorem dX10_init_124 : decode cX10_init 124 = .ok (.dup, 1) := by decide +kernel
theorem dX10_init_125 : decode cX10_init 125 = .ok (.iconst 2, 1) := by decide +kernel
theorem dX10_init_126 : decode cX10_init 126 = .ok (.iconst (-1), 1) := by decide +kernel
theorem dX10_init_127 : decode cX10_init 127 = .ok (.iastore, 1) := by decide +kernel
theorem dX10_init_128 : decode cX10_init 128 = .ok (.dup, 1) := by decide +kernel
theorem dX10_init_129 : decode cX10_init 129 = .ok (.iconst 3, 1) := by decide +kernel
theorem dX10_init_130 : decode cX10_init 130 = .ok (.iconst (-1), 1) := by decide +kernel
theorem dX10_init_131 : decode cX10_init 131 = .ok (.iastore, 1) := by decide +kernel
theorem dX10_init_132 : decode cX10_init 132 = .ok (.dup, 1) := by decide +kernel
theorem dX10_init_133 : decode cX10_init 133 = .ok (.iconst 4, 1) := by decide +kernel
theorem dX10_init_134 : decode cX10_init 134 = .ok (.iconst (-1), 1) := by decide +kernel
theorem dX10_init_135 : decode cX10_init 135 = .ok (.iastore, 1) := by decide +kernel
theorem dX10_init_136 : decode cX10_init 136 = .ok (.dup, 1) := by decide +kernel
theorem dX10_init_137 : decode cX10_init 137 = .ok (.iconst 5, 1) := by decide +kernel
theorem dX10_init_138 : decode cX10_init 138 = .ok (.iconst (-1), 1) := by decide +kernel
theorem dX10_init_139 : decode cX10_init 139 = .ok (.iastore, 1) := by decide +kernel
theorem dX10_init_140 : decode cX10_init 140 = .ok (.dup, 1) := by decide +kernel
theorem dX10_init_141 : decode cX10_init 141 = .ok (.bipush 6, 2) := by decide +kernel
theorem dX10_init_143 : decode cX10_init 143 = .ok (.iconst (-1), 1) := by decide +kernel
theorem dX10_init_144 : decode cX10_init 144 = .ok (.iastore, 1) := by decide +kernel
theorem dX10_init_145 : decode cX10_init 145 = .ok (.putfield 46, 3) := by decide +kernel
theorem dX10_init_148 : decode cX10_init 148 = .ok (.aload_n 0, 1) := by decide +kernel
theorem dX10_init_149 : decode cX10_init 149 = .ok (.sipush 4096, 3) := by decide +kernel
theorem dX10_init_152 : decode cX10_init 152 = .ok (.newarray .int, 2) := by decide +kernel
theorem dX10_init_154 : decode cX10_init 154 = .ok (.putfield 49, 3) := by decide +kernel
theorem dX10_init_157 : decode cX10_init 157 = .ok (.return_, 1) := by decide +kernel
theorem dX10_thrown_0 : decode cX10_thrown 0 = .ok (.aload_n 0, 1) := by decide +kernel
theorem dX10_thrown_1 : decode cX10_thrown 1 = .ok (.getfield 52, 3) := by decide +kernel
theorem dX10_thrown_4 : decode cX10_thrown 4 = .ok (.ireturn, 1) := by decide +kernel
theorem dX10_fail_0 : decode cX10_fail 0 = .ok (.aload_n 0, 1) := by decide +kernel
theorem dX10_fail_1 : decode cX10_fail 1 = .ok (.iload_n 1, 1) := by decide +kernel
theorem dX10_fail_2 : decode cX10_fail 2 = .ok (.putfield 52, 3) := by decide +kernel
theorem dX10_fail_5 : decode cX10_fail 5 = .ok (.iconst 0, 1) := by decide +kernel
theorem dX10_fail_6 : decode cX10_fail 6 = .ok (.ireturn, 1) := by decide +kernel
theorem dX10_within_0 : decode cX10_within 0 = .ok (.iload_n 0, 1) := by decide +kernel
theorem dX10_within_1 : decode cX10_within 1 = .ok (.iload_n 1, 1) := by decide +kernel
theorem dX10_within_2 : decode cX10_within 2 = .ok (.if_icmp .lt 12, 3) := by decide +kernel
theorem dX10_within_5 : decode cX10_within 5 = .ok (.iload_n 0, 1) := by decide +kernel
theorem dX10_within_6 : decode cX10_within 6 = .ok (.iload_n 2, 1) := by decide +kernel
theorem dX10_within_7 : decode cX10_within 7 = .ok (.if_icmp .gt 7, 3) := by decide +kernel
theorem dX10_within_10 : decode cX10_within 10 = .ok (.iconst 1, 1) := by decide +kernel
theorem dX10_within_11 : decode cX10_within 11 = .ok (.goto 4, 3) := by decide +kernel
theorem dX10_within_14 : decode cX10_within 14 = .ok (.iconst 0, 1) := by decide +kernel
theorem dX10_within_15 : decode cX10_within 15 = .ok (.ireturn, 1) := by decide +kernel
theorem dX10_noPlace_0 : decode cX10_noPlace 0 = .ok (.iconst 0, 1) := by decide +kernel
theorem dX10_noPlace_1 : decode cX10_noPlace 1 = .ok (.istore_n 1, 1) := by decide +kernel
theorem dX10_noPlace_2 : decode cX10_noPlace 2 = .ok (.iload_n 1, 1) := by decide +kernel
theorem dX10_noPlace_3 : decode cX10_noPlace 3 = .ok (.bipush 7, 2) := by decide +kernel
theorem dX10_noPlace_5 : decode cX10_noPlace 5 = .ok (.if_icmp .ge 16, 3) := by decide +kernel
theorem dX10_noPlace_8 : decode cX10_noPlace 8 = .ok (.aload_n 0, 1) := by decide +kernel
theorem dX10_noPlace_9 : decode cX10_noPlace 9 = .ok (.getfield 46, 3) := by decide +kernel
theorem dX10_noPlace_12 : decode cX10_noPlace 12 = .ok (.iload_n 1, 1) := by decide +kernel
theorem dX10_noPlace_13 : decode cX10_noPlace 13 = .ok (.iconst (-1), 1) := by decide +kernel
theorem dX10_noPlace_14 : decode cX10_noPlace 14 = .ok (.iastore, 1) := by decide +kernel
theorem dX10_noPlace_15 : decode cX10_noPlace 15 = .ok (.iinc 1 1, 3) := by decide +kernel
theorem dX10_noPlace_18 : decode cX10_noPlace 18 = .ok (.goto (-16), 3) := by decide +kernel
theorem dX10_noPlace_21 : decode cX10_noPlace 21 = .ok (.return_, 1) := by decide +kernel
theorem dX10_clear_0 : decode cX10_clear 0 = .ok (.aload_n 0, 1) := by decide +kernel
theorem dX10_clear_1 : decode cX10_clear 1 = .ok (.iconst 0, 1) := by decide +kernel
theorem dX10_clear_2 : decode cX10_clear 2 = .ok (.putfield 52, 3) := by decide +kernel
theorem dX10_clear_5 : decode cX10_clear 5 = .ok (.aload_n 0, 1) := by decide +kernel
theorem dX10_clear_6 : decode cX10_clear 6 = .ok (.getfield 56, 3) := by decide +kernel
theorem dX10_clear_9 : decode cX10_clear 9 = .ok (.istore_n 1, 1) := by decide +kernel
theorem dX10_clear_10 : decode cX10_clear 10 = .ok (.aload_n 0, 1) := by decide +kernel
theorem dX10_clear_11 : decode cX10_clear 11 = .ok (.iconst 0, 1) := by decide +kernel
theorem dX10_clear_12 : decode cX10_clear 12 = .ok (.putfield 59, 3) := by decide +kernel
theorem dX10_clear_15 : decode cX10_clear 15 = .ok (.aload_n 0, 1) := by decide +kernel
theorem dX10_clear_16 : decode cX10_clear 16 = .ok (.iconst 0, 1) := by decide +kernel
theorem dX10_clear_17 : decode cX10_clear 17 = .ok (.putfield 56, 3) := by decide +kernel
theorem dX10_clear_20 : decode cX10_clear 20 = .ok (.aload_n 0, 1) := by decide +kernel
theorem dX10_clear_21 : decode cX10_clear 21 = .ok (.iconst 0, 1) := by decide +kernel
theorem dX10_clear_22 : decode cX10_clear 22 = .ok (.putfield 62, 3) := by decide +kernel
theorem dX10_clear_25 : decode cX10_clear 25 = .ok (.aload_n 0, 1) := by decide +kernel
theorem dX10_clear_26 : decode cX10_clear 26 = .ok (.iconst 0, 1) := by decide +kernel
theorem dX10_clear_27 : decode cX10_clear 27 = .ok (.putfield 65, 3) := by decide +kernel
theorem dX10_clear_30 : decode cX10_clear 30 = .ok (.aload_n 0, 1) := by decide +kernel
theorem dX10_clear_31 : decode cX10_clear 31 = .ok (.iconst 0, 1) := by decide +kernel
theorem dX10_clear_32 : decode cX10_clear 32 = .ok (.putfield 68, 3) := by decide +kernel
theorem dX10_clear_35 : decode cX10_clear 35 = .ok (.aload_n 0, 1) := by decide +kernel
theorem dX10_clear_36 : decode cX10_clear 36 = .ok (.invokevirtual 71, 3) := by decide +kernel
theorem dX10_clear_39 : decode cX10_clear 39 = .ok (.iload_n 1, 1) := by decide +kernel
theorem dX10_clear_40 : decode cX10_clear 40 = .ok (.ireturn, 1) := by decide +kernel
theorem dX10_top_0 : decode cX10_top 0 = .ok (.aload_n 0, 1) := by decide +kernel
theorem dX10_top_1 : decode cX10_top 1 = .ok (.getfield 68, 3) := by decide +kernel
theorem dX10_top_4 : decode cX10_top 4 = .ok (.ifCond .le 17, 3) := by decide +kernel
theorem dX10_top_7 : decode cX10_top 7 = .ok (.aload_n 0, 1) := by decide +kernel
theorem dX10_top_8 : decode cX10_top 8 = .ok (.getfield 43, 3) := by decide +kernel
theorem dX10_top_11 : decode cX10_top 11 = .ok (.aload_n 0, 1) := by decide +kernel
theorem dX10_top_12 : decode cX10_top 12 = .ok (.getfield 68, 3) := by decide +kernel
theorem dX10_top_15 : decode cX10_top 15 = .ok (.iconst 1, 1) := by decide +kernel
theorem dX10_top_16 : decode cX10_top 16 = .ok (.isub, 1) := by decide +kernel
theorem dX10_top_17 : decode cX10_top 17 = .ok (.iaload, 1) := by decide +kernel
theorem dX10_top_18 : decode cX10_top 18 = .ok (.goto 4, 3) := by decide +kernel
theorem dX10_top_21 : decode cX10_top 21 = .ok (.iconst (-1), 1) := by decide +kernel
theorem dX10_top_22 : decode cX10_top 22 = .ok (.ireturn, 1) := by decide +kernel
theorem dX10_takes_0 : decode cX10_takes 0 = .ok (.aload_n 0, 1) := by decide +kernel
theorem dX10_takes_1 : decode cX10_takes 1 = .ok (.getfield 68, 3) := by decide +kernel
theorem dX10_takes_4 : decode cX10_takes 4 = .ok (.ifCond .ne 16, 3) := by decide +kernel
theorem dX10_takes_7 : decode cX10_takes 7 = .ok (.aload_n 0, 1) := by decide +kernel
theorem dX10_takes_8 : decode cX10_takes 8 = .ok (.getfield 59, 3) := by decide +kernel
theorem dX10_takes_11 : decode cX10_takes 11 = .ok (.ifCond .ne 7, 3) := by decide +kernel
theorem dX10_takes_14 : decode cX10_takes 14 = .ok (.iconst 1, 1) := by decide +kernel
theorem dX10_takes_15 : decode cX10_takes 15 = .ok (.goto 4, 3) := by decide +kernel
theorem dX10_takes_18 : decode cX10_takes 18 = .ok (.iconst 0, 1) := by decide +kernel
theorem dX10_takes_19 : decode cX10_takes 19 = .ok (.ireturn, 1) := by decide +kernel
theorem dX10_takes_20 : decode cX10_takes 20 = .ok (.aload_n 0, 1) := by decide +kernel
theorem dX10_takes_21 : decode cX10_takes 21 = .ok (.getfield 7, 3) := by decide +kernel
theorem dX10_takes_24 : decode cX10_takes 24 = .ok (.aload_n 0, 1) := by decide +kernel
theorem dX10_takes_25 : decode cX10_takes 25 = .ok (.invokevirtual 74, 3) := by decide +kernel
theorem dX10_takes_28 : decode cX10_takes 28 = .ok (.iaload, 1) := by decide +kernel
theorem dX10_takes_29 : decode cX10_takes 29 = .ok (.istore_n 2, 1) := by decide +kernel
theorem dX10_takes_30 : decode cX10_takes 30 = .ok (.aload_n 0, 1) := by decide +kernel
theorem dX10_takes_31 : decode cX10_takes 31 = .ok (.getfield 68, 3) := by decide +kernel
theorem dX10_takes_34 : decode cX10_takes 34 = .ok (.bipush 50, 2) := by decide +kernel
theorem dX10_takes_36 : decode cX10_takes 36 = .ok (.if_icmp .ge 25, 3) := by decide +kernel
theorem dX10_takes_39 : decode cX10_takes 39 = .ok (.iload_n 2, 1) := by decide +kernel
theorem dX10_takes_40 : decode cX10_takes 40 = .ok (.bipush 7, 2) := by decide +kernel
theorem dX10_takes_42 : decode cX10_takes 42 = .ok (.if_icmp .eq 15, 3) := by decide +kernel
theorem dX10_takes_45 : decode cX10_takes 45 = .ok (.iload_n 2, 1) := by decide +kernel
theorem dX10_takes_46 : decode cX10_takes 46 = .ok (.iconst 3, 1) := by decide +kernel
theorem dX10_takes_47 : decode cX10_takes 47 = .ok (.if_icmp .le 14, 3) := by decide +kernel
theorem dX10_takes_50 : decode cX10_takes 50 = .ok (.iload_n 1, 1) := by decide +kernel
theorem dX10_takes_51 : decode cX10_takes 51 = .ok (.iload_n 2, 1) := by decide +kernel
theorem dX10_takes_52 : decode cX10_takes 52 = .ok (.iconst 3, 1) := by decide +kernel
theorem dX10_takes_53 : decode cX10_takes 53 = .ok (.isub, 1) := by decide +kernel
theorem dX10_takes_54 : decode cX10_takes 54 = .ok (.if_icmp .ne 7, 3) := by decide +kernel
theorem dX10_takes_57 : decode cX10_takes 57 = .ok (.iconst 1, 1) := by decide +kernel
theorem dX10_takes_58 : decode cX10_takes 58 = .ok (.goto 4, 3) := by decide +kernel
theorem dX10_takes_61 : decode cX10_takes 61 = .ok (.iconst 0, 1) := by decide +kernel
theorem dX10_takes_62 : decode cX10_takes 62 = .ok (.ireturn, 1) := by decide +kernel
theorem dX10_open_0 : decode cX10_open 0 = .ok (.aload_n 0, 1) := by decide +kernel
theorem dX10_open_1 : decode cX10_open 1 = .ok (.iconst 0, 1) := by decide +kernel
theorem dX10_open_2 : decode cX10_open 2 = .ok (.putfield 52, 3) := by decide +kernel
theorem dX10_open_5 : decode cX10_open 5 = .ok (.iload_n 1, 1) := by decide +kernel
theorem dX10_open_6 : decode cX10_open 6 = .ok (.iconst 1, 1) := by decide +kernel
theorem dX10_open_7 : decode cX10_open 7 = .ok (.bipush 7, 2) := by decide +kernel
theorem dX10_open_9 : decode cX10_open 9 = .ok (.invokestatic 78, 3) := by decide +kernel
theorem dX10_open_12 : decode cX10_open 12 = .ok (.ifCond .ne 9, 3) := by decide +kernel
theorem dX10_open_15 : decode cX10_open 15 = .ok (.aload_n 0, 1) := by decide +kernel
theorem dX10_open_16 : decode cX10_open 16 = .ok (.iconst 1, 1) := by decide +kernel
theorem dX10_open_17 : decode cX10_open 17 = .ok (.invokevirtual 82, 3) := by decide +kernel
theorem dX10_open_20 : decode cX10_open 20 = .ok (.ireturn, 1) := by decide +kernel
theorem dX10_open_21 : decode cX10_open 21 = .ok (.aload_n 0, 1) := by decide +kernel
theorem dX10_open_22 : decode cX10_open 22 = .ok (.iload_n 1, 1) := by decide +kernel
theorem dX10_open_23 : decode cX10_open 23 = .ok (.invokevirtual 86, 3) := by decide +kernel
theorem dX10_open_26 : decode cX10_open 26 = .ok (.ifCond .ne 9, 3) := by decide +kernel
theorem dX10_open_29 : decode cX10_open 29 = .ok (.aload_n 0, 1) := by decide +kernel
theorem dX10_open_30 : decode cX10_open 30 = .ok (.iconst 2, 1) := by decide +kernel
theorem dX10_open_31 : decode cX10_open 31 = .ok (.invokevirtual 82, 3) := by decide +kernel
theorem dX10_open_34 : decode cX10_open 34 = .ok (.ireturn, 1) := by decide +kernel
theorem dX10_open_35 : decode cX10_open 35 = .ok (.aload_n 0, 1) := by decide +kernel
theorem dX10_open_36 : decode cX10_open 36 = .ok (.getfield 56, 3) := by decide +kernel
theorem dX10_open_39 : decode cX10_open 39 = .ok (.iconst 2, 1) := by decide +kernel
theorem dX10_open_40 : decode cX10_open 40 = .ok (.iadd, 1) := by decide +kernel
theorem dX10_open_41 : decode cX10_open 41 = .ok (.sipush 4096, 3) := by decide +kernel
theorem dX10_open_44 : decode cX10_open 44 = .ok (.if_icmp .le 9, 3) := by decide +kernel
theorem dX10_open_47 : decode cX10_open 47 = .ok (.aload_n 0, 1) := by decide +kernel
theorem dX10_open_48 : decode cX10_open 48 = .ok (.iconst 3, 1) := by decide +kernel
theorem dX10_open_49 : decode cX10_open 49 = .ok (.invokevirtual 82, 3) := by decide +kernel
theorem dX10_open_52 : decode cX10_open 52 = .ok (.ireturn, 1) := by decide +kernel
theorem dX10_open_53 : decode cX10_open 53 = .ok (.aload_n 0, 1) := by decide +kernel
theorem dX10_open_54 : decode cX10_open 54 = .ok (.dup, 1) := by decide +kernel
theorem dX10_open_55 : decode cX10_open 55 = .ok (.getfield 56, 3) := by decide +kernel
theorem dX10_open_58 : decode cX10_open 58 = .ok (.iconst 2, 1) := by decide +kernel
theorem dX10_open_59 : decode cX10_open 59 = .ok (.iadd, 1) := by decide +kernel
theorem dX10_open_60 : decode cX10_open 60 = .ok (.putfield 56, 3) := by decide +kernel
theorem dX10_open_63 : decode cX10_open 63 = .ok (.aload_n 0, 1) := by decide +kernel
theorem dX10_open_64 : decode cX10_open 64 = .ok (.getfield 59, 3) := by decide +kernel
theorem dX10_open_67 : decode cX10_open 67 = .ok (.istore_n 2, 1) := by decide +kernel
theorem dX10_open_68 : decode cX10_open 68 = .ok (.aload_n 0, 1) := by decide +kernel
theorem dX10_open_69 : decode cX10_open 69 = .ok (.dup, 1) := by decide +kernel
theorem dX10_open_70 : decode cX10_open 70 = .ok (.getfield 59, 3) := by decide +kernel
theorem dX10_open_73 : decode cX10_open 73 = .ok (.iconst 1, 1) := by decide +kernel
theorem dX10_open_74 : decode cX10_open 74 = .ok (.iadd, 1) := by decide +kernel
theorem dX10_open_75 : decode cX10_open 75 = .ok (.putfield 59, 3) := by decide +kernel
theorem dX10_open_78 : decode cX10_open 78 = .ok (.aload_n 0, 1) := by decide +kernel
theorem dX10_open_79 : decode cX10_open 79 = .ok (.getfield 7, 3) := by decide +kernel
theorem dX10_open_82 : decode cX10_open 82 = .ok (.iload_n 2, 1) := by decide +kernel
theorem dX10_open_83 : decode cX10_open 83 = .ok (.iload_n 1, 1) := by decide +kernel
theorem dX10_open_84 : decode cX10_open 84 = .ok (.iastore, 1) := by decide +kernel
theorem dX10_open_85 : decode cX10_open 85 = .ok (.aload_n 0, 1) := by decide +kernel
theorem dX10_open_86 : decode cX10_open 86 = .ok (.getfield 13, 3) := by decide +kernel
theorem dX10_open_89 : decode cX10_open 89 = .ok (.iload_n 2, 1) := by decide +kernel
theorem dX10_open_90 : decode cX10_open 90 = .ok (.aload_n 0, 1) := by decide +kernel
theorem dX10_open_91 : decode cX10_open 91 = .ok (.invokevirtual 74, 3) := by decide +kernel
theorem dX10_open_94 : decode cX10_open 94 = .ok (.iastore, 1) := by decide +kernel
theorem dX10_open_95 : decode cX10_open 95 = .ok (.aload_n 0, 1) := by decide +kernel
theorem dX10_open_96 : decode cX10_open 96 = .ok (.getfield 16, 3) := by decide +kernel
theorem dX10_open_99 : decode cX10_open 99 = .ok (.iload_n 2, 1) := by decide +kernel
theorem dX10_open_100 : decode cX10_open 100 = .ok (.iconst 0, 1) := by decide +kernel
theorem dX10_open_101 : decode cX10_open 101 = .ok (.iastore, 1) := by decide +kernel
theorem dX10_open_102 : decode cX10_open 102 = .ok (.iconst 0, 1) := by decide +kernel
theorem dX10_open_103 : decode cX10_open 103 = .ok (.istore_n 3, 1) := by decide +kernel
theorem dX10_open_104 : decode cX10_open 104 = .ok (.iload_n 3, 1) := by decide +kernel
theorem dX10_open_105 : decode cX10_open 105 = .ok (.iload_n 2, 1) := by decide +kernel
theorem dX10_open_106 : decode cX10_open 106 = .ok (.if_icmp .ge 43, 3) := by decide +kernel
theorem dX10_open_109 : decode cX10_open 109 = .ok (.aload_n 0, 1) := by decide +kernel
theorem dX10_open_110 : decode cX10_open 110 = .ok (.getfield 16, 3) := by decide +kernel
theorem dX10_open_113 : decode cX10_open 113 = .ok (.iload_n 2, 1) := by decide +kernel
theorem dX10_open_114 : decode cX10_open 114 = .ok (.dup2, 1) := by decide +kernel
theorem dX10_open_115 : decode cX10_open 115 = .ok (.iaload, 1) := by decide +kernel
theorem dX10_open_116 : decode cX10_open 116 = .ok (.aload_n 0, 1) := by decide +kernel
theorem dX10_open_117 : decode cX10_open 117 = .ok (.getfield 13, 3) := by decide +kernel
theorem dX10_open_120 : decode cX10_open 120 = .ok (.iload_n 3, 1) := by decide +kernel
theorem dX10_open_121 : decode cX10_open 121 = .ok (.iaload, 1) := by decide +kernel
theorem dX10_open_122 : decode cX10_open 122 = .ok (.aload_n 0, 1) := by decide +kernel
theorem dX10_open_123 : decode cX10_open 123 = .ok (.invokevirtual 74, 3) := by decide +kernel
theorem dX10_open_126 : decode cX10_open 126 = .ok (.if_icmp .ne 14, 3) := by decide +kernel
theorem dX10_open_129 : decode cX10_open 129 = .ok (.aload_n 0, 1) := by decide +kernel
theorem dX10_open_130 : decode cX10_open 130 = .ok (.invokevirtual 74, 3) := by decide +kernel
theorem dX10_open_133 : decode cX10_open 133 = .ok (.ifCond .lt 7, 3) := by decide +kernel
theorem dX10_open_136 : decode cX10_open 136 = .ok (.iconst 1, 1) := by decide +kernel
theorem dX10_open_137 : decode cX10_open 137 = .ok (.goto 4, 3) := by decide +kernel
theorem dX10_open_140 : decode cX10_open 140 = .ok (.iconst 0, 1) := by decide +kernel
theorem dX10_open_141 : decode cX10_open 141 = .ok (.iadd, 1) := by decide +kernel
theorem dX10_open_142 : decode cX10_open 142 = .ok (.iastore, 1) := by decide +kernel
theorem dX10_open_143 : decode cX10_open 143 = .ok (.iinc 3 1, 3) := by decide +kernel
theorem dX10_open_146 : decode cX10_open 146 = .ok (.goto (-42), 3) := by decide +kernel
theorem dX10_open_149 : decode cX10_open 149 = .ok (.aload_n 0, 1) := by decide +kernel
theorem dX10_open_150 : decode cX10_open 150 = .ok (.getfield 19, 3) := by decide +kernel
theorem dX10_open_153 : decode cX10_open 153 = .ok (.iload_n 2, 1) := by decide +kernel
theorem dX10_open_154 : decode cX10_open 154 = .ok (.aload_n 0, 1) := by decide +kernel
theorem dX10_open_155 : decode cX10_open 155 = .ok (.getfield 62, 3) := by decide +kernel
theorem dX10_open_158 : decode cX10_open 158 = .ok (.iastore, 1) := by decide +kernel
theorem dX10_open_159 : decode cX10_open 159 = .ok (.aload_n 0, 1) := by decide +kernel
theorem dX10_open_160 : decode cX10_open 160 = .ok (.getfield 22, 3) := by decide +kernel
theorem dX10_open_163 : decode cX10_open 163 = .ok (.iload_n 2, 1) := by decide +kernel
theorem dX10_open_164 : decode cX10_open 164 = .ok (.iconst 0, 1) := by decide +kernel
theorem dX10_open_165 : decode cX10_open 165 = .ok (.iastore, 1) := by decide +kernel
theorem dX10_open_166 : decode cX10_open 166 = .ok (.aload_n 0, 1) := by decide +kernel
theorem dX10_open_167 : decode cX10_open 167 = .ok (.getfield 25, 3) := by decide +kernel
theorem dX10_open_170 : decode cX10_open 170 = .ok (.iload_n 2, 1) := by decide +kernel
theorem dX10_open_171 : decode cX10_open 171 = .ok (.aload_n 0, 1) := by decide +kernel
theorem dX10_open_172 : decode cX10_open 172 = .ok (.getfield 65, 3) := by decide +kernel
theorem dX10_open_175 : decode cX10_open 175 = .ok (.iastore, 1) := by decide +kernel
theorem dX10_open_176 : decode cX10_open 176 = .ok (.aload_n 0, 1) := by decide +kernel
theorem dX10_open_177 : decode cX10_open 177 = .ok (.getfield 28, 3) := by decide +kernel
theorem dX10_open_180 : decode cX10_open 180 = .ok (.iload_n 2, 1) := by decide +kernel
theorem dX10_open_181 : decode cX10_open 181 = .ok (.iconst 0, 1) := by decide +kernel
theorem dX10_open_182 : decode cX10_open 182 = .ok (.iastore, 1) := by decide +kernel
theorem dX10_open_183 : decode cX10_open 183 = .ok (.aload_n 0, 1) := by decide +kernel
theorem dX10_open_184 : decode cX10_open 184 = .ok (.getfield 43, 3) := by decide +kernel
theorem dX10_open_187 : decode cX10_open 187 = .ok (.aload_n 0, 1) := by decide +kernel
theorem dX10_open_188 : decode cX10_open 188 = .ok (.getfield 68, 3) := by decide +kernel
theorem dX10_open_191 : decode cX10_open 191 = .ok (.iload_n 2, 1) := by decide +kernel
theorem dX10_open_192 : decode cX10_open 192 = .ok (.iastore, 1) := by decide +kernel
theorem dX10_open_193 : decode cX10_open 193 = .ok (.aload_n 0, 1) := by decide +kernel
theorem dX10_open_194 : decode cX10_open 194 = .ok (.dup, 1) := by decide +kernel
theorem dX10_open_195 : decode cX10_open 195 = .ok (.getfield 68, 3) := by decide +kernel
theorem dX10_open_198 : decode cX10_open 198 = .ok (.iconst 1, 1) := by decide +kernel
theorem dX10_open_199 : decode cX10_open 199 = .ok (.iadd, 1) := by decide +kernel
theorem dX10_open_200 : decode cX10_open 200 = .ok (.putfield 68, 3) := by decide +kernel
theorem dX10_open_203 : decode cX10_open 203 = .ok (.aload_n 0, 1) := by decide +kernel
theorem dX10_open_204 : decode cX10_open 204 = .ok (.getfield 68, 3) := by decide +kernel
theorem dX10_open_207 : decode cX10_open 207 = .ok (.ireturn, 1) := by decide +kernel
theorem dX10_ring_0 : decode cX10_ring 0 = .ok (.aload_n 0, 1) := by decide +kernel
theorem dX10_ring_1 : decode cX10_ring 1 = .ok (.iconst 0, 1) := by decide +kernel
theorem dX10_ring_2 : decode cX10_ring 2 = .ok (.putfield 52, 3) := by decide +kernel
theorem dX10_ring_5 : decode cX10_ring 5 = .ok (.aload_n 0, 1) := by decide +kernel
theorem dX10_ring_6 : decode cX10_ring 6 = .ok (.getfield 68, 3) := by decide +kernel
theorem dX10_ring_9 : decode cX10_ring 9 = .ok (.ifCond .eq 16, 3) := by decide +kernel
theorem dX10_ring_12 : decode cX10_ring 12 = .ok (.aload_n 0, 1) := by decide +kernel
theorem dX10_ring_13 : decode cX10_ring 13 = .ok (.getfield 7, 3) := by decide +kernel
theorem dX10_ring_16 : decode cX10_ring 16 = .ok (.aload_n 0, 1) := by decide +kernel
theorem dX10_ring_17 : decode cX10_ring 17 = .ok (.invokevirtual 74, 3) := by decide +kernel
theorem dX10_ring_20 : decode cX10_ring 20 = .ok (.iaload, 1) := by decide +kernel
theorem dX10_ring_21 : decode cX10_ring 21 = .ok (.iconst 3, 1) := by decide +kernel
theorem dX10_ring_22 : decode cX10_ring 22 = .ok (.if_icmp .eq 11, 3) := by decide +kernel
theorem dX10_ring_25 : decode cX10_ring 25 = .ok (.aload_n 0, 1) := by decide +kernel
theorem dX10_ring_26 : decode cX10_ring 26 = .ok (.iconst 1, 1) := by decide +kernel
theorem dX10_ring_27 : decode cX10_ring 27 = .ok (.putfield 52, 3) := by decide +kernel
theorem dX10_ring_30 : decode cX10_ring 30 = .ok (.goto 79, 3) := by decide +kernel
theorem dX10_ring_33 : decode cX10_ring 33 = .ok (.aload_n 0, 1) := by decide +kernel
theorem dX10_ring_34 : decode cX10_ring 34 = .ok (.getfield 56, 3) := by decide +kernel
theorem dX10_ring_37 : decode cX10_ring 37 = .ok (.iconst 1, 1) := by decide +kernel
theorem dX10_ring_38 : decode cX10_ring 38 = .ok (.iadd, 1) := by decide +kernel
theorem dX10_ring_39 : decode cX10_ring 39 = .ok (.sipush 4096, 3) := by decide +kernel
theorem dX10_ring_42 : decode cX10_ring 42 = .ok (.if_icmp .le 11, 3) := by decide +kernel
theorem dX10_ring_45 : decode cX10_ring 45 = .ok (.aload_n 0, 1) := by decide +kernel
theorem dX10_ring_46 : decode cX10_ring 46 = .ok (.iconst 2, 1) := by decide +kernel
theorem dX10_ring_47 : decode cX10_ring 47 = .ok (.putfield 52, 3) := by decide +kernel
theorem dX10_ring_50 : decode cX10_ring 50 = .ok (.goto 59, 3) := by decide +kernel
theorem dX10_ring_53 : decode cX10_ring 53 = .ok (.aload_n 0, 1) := by decide +kernel
theorem dX10_ring_54 : decode cX10_ring 54 = .ok (.dup, 1) := by decide +kernel
theorem dX10_ring_55 : decode cX10_ring 55 = .ok (.getfield 56, 3) := by decide +kernel
theorem dX10_ring_58 : decode cX10_ring 58 = .ok (.iconst 1, 1) := by decide +kernel
theorem dX10_ring_59 : decode cX10_ring 59 = .ok (.iadd, 1) := by decide +kernel
theorem dX10_ring_60 : decode cX10_ring 60 = .ok (.putfield 56, 3) := by decide +kernel
theorem dX10_ring_63 : decode cX10_ring 63 = .ok (.aload_n 0, 1) := by decide +kernel
theorem dX10_ring_64 : decode cX10_ring 64 = .ok (.getfield 31, 3) := by decide +kernel
theorem dX10_ring_67 : decode cX10_ring 67 = .ok (.aload_n 0, 1) := by decide +kernel
theorem dX10_ring_68 : decode cX10_ring 68 = .ok (.getfield 65, 3) := by decide +kernel
theorem dX10_ring_71 : decode cX10_ring 71 = .ok (.aload_n 0, 1) := by decide +kernel
theorem dX10_ring_72 : decode cX10_ring 72 = .ok (.getfield 62, 3) := by decide +kernel
theorem dX10_ring_75 : decode cX10_ring 75 = .ok (.iastore, 1) := by decide +kernel
theorem dX10_ring_76 : decode cX10_ring 76 = .ok (.aload_n 0, 1) := by decide +kernel
theorem dX10_ring_77 : decode cX10_ring 77 = .ok (.getfield 34, 3) := by decide +kernel
theorem dX10_ring_80 : decode cX10_ring 80 = .ok (.aload_n 0, 1) := by decide +kernel
theorem dX10_ring_81 : decode cX10_ring 81 = .ok (.getfield 65, 3) := by decide +kernel
theorem dX10_ring_84 : decode cX10_ring 84 = .ok (.iconst 0, 1) := by decide +kernel
theorem dX10_ring_85 : decode cX10_ring 85 = .ok (.iastore, 1) := by decide +kernel
theorem dX10_ring_86 : decode cX10_ring 86 = .ok (.aload_n 0, 1) := by decide +kernel
theorem dX10_ring_87 : decode cX10_ring 87 = .ok (.dup, 1) := by decide +kernel
theorem dX10_ring_88 : decode cX10_ring 88 = .ok (.getfield 65, 3) := by decide +kernel
theorem dX10_ring_91 : decode cX10_ring 91 = .ok (.iconst 1, 1) := by decide +kernel
theorem dX10_ring_92 : decode cX10_ring 92 = .ok (.iadd, 1) := by decide +kernel
theorem dX10_ring_93 : decode cX10_ring 93 = .ok (.putfield 65, 3) := by decide +kernel
theorem dX10_ring_96 : decode cX10_ring 96 = .ok (.aload_n 0, 1) := by decide +kernel
theorem dX10_ring_97 : decode cX10_ring 97 = .ok (.getfield 28, 3) := by decide +kernel
theorem dX10_ring_100 : decode cX10_ring 100 = .ok (.aload_n 0, 1) := by decide +kernel
theorem dX10_ring_101 : decode cX10_ring 101 = .ok (.invokevirtual 74, 3) := by decide +kernel
theorem dX10_ring_104 : decode cX10_ring 104 = .ok (.dup2, 1) := by decide +kernel
theorem dX10_ring_105 : decode cX10_ring 105 = .ok (.iaload, 1) := by decide +kernel
theorem dX10_ring_106 : decode cX10_ring 106 = .ok (.iconst 1, 1) := by decide +kernel
theorem dX10_ring_107 : decode cX10_ring 107 = .ok (.iadd, 1) := by decide +kernel
theorem dX10_ring_108 : decode cX10_ring 108 = .ok (.iastore, 1) := by decide +kernel
theorem dX10_ring_109 : decode cX10_ring 109 = .ok (.return_, 1) := by decide +kernel
theorem dX10_point_0 : decode cX10_point 0 = .ok (.aload_n 0, 1) := by decide +kernel
theorem dX10_point_1 : decode cX10_point 1 = .ok (.iconst 0, 1) := by decide +kernel
theorem dX10_point_2 : decode cX10_point 2 = .ok (.putfield 52, 3) := by decide +kernel
theorem dX10_point_5 : decode cX10_point 5 = .ok (.iload_n 1, 1) := by decide +kernel
theorem dX10_point_6 : decode cX10_point 6 = .ok (.ldc 90, 2) := by decide +kernel
theorem dX10_point_8 : decode cX10_point 8 = .ok (.ldc 91, 2) := by decide +kernel
theorem dX10_point_10 : decode cX10_point 10 = .ok (.invokestatic 78, 3) := by decide +kernel
theorem dX10_point_13 : decode cX10_point 13 = .ok (.ifCond .eq 14, 3) := by decide +kernel
theorem dX10_point_16 : decode cX10_point 16 = .ok (.iload_n 2, 1) := by decide +kernel
theorem dX10_point_17 : decode cX10_point 17 = .ok (.ldc 90, 2) := by decide +kernel
theorem dX10_point_19 : decode cX10_point 19 = .ok (.ldc 91, 2) := by decide +kernel
theorem dX10_point_21 : decode cX10_point 21 = .ok (.invokestatic 78, 3) := by decide +kernel
theorem dX10_point_24 : decode cX10_point 24 = .ok (.ifCond .ne 9, 3) := by decide +kernel
theorem dX10_point_27 : decode cX10_point 27 = .ok (.aload_n 0, 1) := by decide +kernel
theorem dX10_point_28 : decode cX10_point 28 = .ok (.iconst 1, 1) := by decide +kernel
theorem dX10_point_29 : decode cX10_point 29 = .ok (.invokevirtual 82, 3) := by decide +kernel
theorem dX10_point_32 : decode cX10_point 32 = .ok (.ireturn, 1) := by decide +kernel
theorem dX10_point_33 : decode cX10_point 33 = .ok (.aload_n 0, 1) := by decide +kernel
theorem dX10_point_34 : decode cX10_point 34 = .ok (.invokevirtual 74, 3) := by decide +kernel
theorem dX10_point_37 : decode cX10_point 37 = .ok (.istore_n 3, 1) := by decide +kernel
theorem dX10_point_38 : decode cX10_point 38 = .ok (.iload_n 3, 1) := by decide +kernel
theorem dX10_point_39 : decode cX10_point 39 = .ok (.ifCond .ge 7, 3) := by decide +kernel
theorem dX10_point_42 : decode cX10_point 42 = .ok (.iconst 0, 1) := by decide +kernel
theorem dX10_point_43 : decode cX10_point 43 = .ok (.goto 9, 3) := by decide +kernel
theorem dX10_point_46 : decode cX10_point 46 = .ok (.aload_n 0, 1) := by decide +kernel
theorem dX10_point_47 : decode cX10_point 47 = .ok (.getfield 7, 3) := by decide +kernel
theorem dX10_point_50 : decode cX10_point 50 = .ok (.iload_n 3, 1) := by decide +kernel
theorem dX10_point_51 : decode cX10_point 51 = .ok (.iaload, 1) := by decide +kernel
theorem dX10_point_52 : decode cX10_point 52 = .ok (.istore 4, 2) := by decide +kernel
theorem dX10_point_54 : decode cX10_point 54 = .ok (.iload 4, 2) := by decide +kernel
theorem dX10_point_56 : decode cX10_point 56 = .ok (.iconst 1, 1) := by decide +kernel
theorem dX10_point_57 : decode cX10_point 57 = .ok (.if_icmp .ne 12, 3) := by decide +kernel
theorem dX10_point_60 : decode cX10_point 60 = .ok (.aload_n 0, 1) := by decide +kernel
theorem dX10_point_61 : decode cX10_point 61 = .ok (.getfield 22, 3) := by decide +kernel
theorem dX10_point_64 : decode cX10_point 64 = .ok (.iload_n 3, 1) := by decide +kernel
theorem dX10_point_65 : decode cX10_point 65 = .ok (.iaload, 1) := by decide +kernel
theorem dX10_point_66 : decode cX10_point 66 = .ok (.ifCond .eq 24, 3) := by decide +kernel
theorem dX10_point_69 : decode cX10_point 69 = .ok (.iload 4, 2) := by decide +kernel
theorem dX10_point_71 : decode cX10_point 71 = .ok (.iconst 2, 1) := by decide +kernel
theorem dX10_point_72 : decode cX10_point 72 = .ok (.if_icmp .eq 18, 3) := by decide +kernel
theorem dX10_point_75 : decode cX10_point 75 = .ok (.iload 4, 2) := by decide +kernel
theorem dX10_point_77 : decode cX10_point 77 = .ok (.iconst 3, 1) := by decide +kernel
theorem dX10_point_78 : decode cX10_point 78 = .ok (.if_icmp .ne 16, 3) := by decide +kernel
theorem dX10_point_81 : decode cX10_point 81 = .ok (.aload_n 0, 1) := by decide +kernel
theorem dX10_point_82 : decode cX10_point 82 = .ok (.getfield 28, 3) := by decide +kernel
theorem dX10_point_85 : decode cX10_point 85 = .ok (.iload_n 3, 1) := by decide +kernel
theorem dX10_point_86 : decode cX10_point 86 = .ok (.iaload, 1) := by decide +kernel
theorem dX10_point_87 : decode cX10_point 87 = .ok (.ifCond .le 7, 3) := by decide +kernel
theorem dX10_point_90 : decode cX10_point 90 = .ok (.iconst 1, 1) := by decide +kernel
theorem dX10_point_91 : decode cX10_point 91 = .ok (.goto 4, 3) := by decide +kernel
theorem dX10_point_94 : decode cX10_point 94 = .ok (.iconst 0, 1) := by decide +kernel
theorem dX10_point_95 : decode cX10_point 95 = .ok (.istore 5, 2) := by decide +kernel
theorem dX10_point_97 : decode cX10_point 97 = .ok (.iload 5, 2) := by decide +kernel
theorem dX10_point_99 : decode cX10_point 99 = .ok (.ifCond .ne 9, 3) := by decide +kernel
theorem dX10_point_102 : decode cX10_point 102 = .ok (.aload_n 0, 1) := by decide +kernel
theorem dX10_point_103 : decode cX10_point 103 = .ok (.iconst 2, 1) := by decide +kernel
theorem dX10_point_104 : decode cX10_point 104 = .ok (.invokevirtual 82, 3) := by decide +kernel
theorem dX10_point_107 : decode cX10_point 107 = .ok (.ireturn, 1) := by decide +kernel
theorem dX10_point_108 : decode cX10_point 108 = .ok (.aload_n 0, 1) := by decide +kernel
theorem dX10_point_109 : decode cX10_point 109 = .ok (.getfield 62, 3) := by decide +kernel
theorem dX10_point_112 : decode cX10_point 112 = .ok (.sipush 4096, 3) := by decide +kernel
theorem dX10_point_115 : decode cX10_point 115 = .ok (.if_icmp .ne 9, 3) := by decide +kernel
theorem dX10_point_118 : decode cX10_point 118 = .ok (.aload_n 0, 1) := by decide +kernel
theorem dX10_point_119 : decode cX10_point 119 = .ok (.iconst 3, 1) := by decide +kernel
theorem dX10_point_120 : decode cX10_point 120 = .ok (.invokevirtual 82, 3) := by decide +kernel
theorem dX10_point_123 : decode cX10_point 123 = .ok (.ireturn, 1) := by decide +kernel
theorem dX10_point_124 : decode cX10_point 124 = .ok (.aload_n 0, 1) := by decide +kernel
theorem dX10_point_125 : decode cX10_point 125 = .ok (.getfield 37, 3) := by decide +kernel
theorem dX10_point_128 : decode cX10_point 128 = .ok (.aload_n 0, 1) := by decide +kernel
theorem dX10_point_129 : decode cX10_point 129 = .ok (.getfield 62, 3) := by decide +kernel
theorem dX10_point_132 : decode cX10_point 132 = .ok (.iload_n 1, 1) := by decide +kernel
theorem dX10_point_133 : decode cX10_point 133 = .ok (.iastore, 1) := by decide +kernel
theorem dX10_point_134 : decode cX10_point 134 = .ok (.aload_n 0, 1) := by decide +kernel
theorem dX10_point_135 : decode cX10_point 135 = .ok (.getfield 40, 3) := by decide +kernel
theorem dX10_point_138 : decode cX10_point 138 = .ok (.aload_n 0, 1) := by decide +kernel
theorem dX10_point_139 : decode cX10_point 139 = .ok (.getfield 62, 3) := by decide +kernel
theorem dX10_point_142 : decode cX10_point 142 = .ok (.iload_n 2, 1) := by decide +kernel
theorem dX10_point_143 : decode cX10_point 143 = .ok (.iastore, 1) := by decide +kernel
theorem dX10_point_144 : decode cX10_point 144 = .ok (.aload_n 0, 1) := by decide +kernel
theorem dX10_point_145 : decode cX10_point 145 = .ok (.dup, 1) := by decide +kernel
theorem dX10_point_146 : decode cX10_point 146 = .ok (.getfield 62, 3) := by decide +kernel
theorem dX10_point_149 : decode cX10_point 149 = .ok (.iconst 1, 1) := by decide +kernel
theorem dX10_point_150 : decode cX10_point 150 = .ok (.iadd, 1) := by decide +kernel
theorem dX10_point_151 : decode cX10_point 151 = .ok (.putfield 62, 3) := by decide +kernel
theorem dX10_point_154 : decode cX10_point 154 = .ok (.iload 4, 2) := by decide +kernel
theorem dX10_point_156 : decode cX10_point 156 = .ok (.iconst 3, 1) := by decide +kernel
theorem dX10_point_157 : decode cX10_point 157 = .ok (.if_icmp .ne 21, 3) := by decide +kernel
theorem dX10_point_160 : decode cX10_point 160 = .ok (.aload_n 0, 1) := by decide +kernel
theorem dX10_point_161 : decode cX10_point 161 = .ok (.getfield 34, 3) := by decide +kernel
theorem dX10_point_164 : decode cX10_point 164 = .ok (.aload_n 0, 1) := by decide +kernel
theorem dX10_point_165 : decode cX10_point 165 = .ok (.getfield 65, 3) := by decide +kernel
theorem dX10_point_168 : decode cX10_point 168 = .ok (.iconst 1, 1) := by decide +kernel
theorem dX10_point_169 : decode cX10_point 169 = .ok (.isub, 1) := by decide +kernel
theorem dX10_point_170 : decode cX10_point 170 = .ok (.dup2, 1) := by decide +kernel
theorem dX10_point_171 : decode cX10_point 171 = .ok (.iaload, 1) := by decide +kernel
theorem dX10_point_172 : decode cX10_point 172 = .ok (.iconst 1, 1) := by decide +kernel
theorem dX10_point_173 : decode cX10_point 173 = .ok (.iadd, 1) := by decide +kernel
theorem dX10_point_174 : decode cX10_point 174 = .ok (.iastore, 1) := by decide +kernel
theorem dX10_point_175 : decode cX10_point 175 = .ok (.goto 13, 3) := by decide +kernel
theorem dX10_point_178 : decode cX10_point 178 = .ok (.aload_n 0, 1) := by decide +kernel
theorem dX10_point_179 : decode cX10_point 179 = .ok (.getfield 22, 3) := by decide +kernel
theorem dX10_point_182 : decode cX10_point 182 = .ok (.iload_n 3, 1) := by decide +kernel
theorem dX10_point_183 : decode cX10_point 183 = .ok (.dup2, 1) := by decide +kernel
theorem dX10_point_184 : decode cX10_point 184 = .ok (.iaload, 1) := by decide +kernel
theorem dX10_point_185 : decode cX10_point 185 = .ok (.iconst 1, 1) := by decide +kernel
theorem dX10_point_186 : decode cX10_point 186 = .ok (.iadd, 1) := by decide +kernel
theorem dX10_point_187 : decode cX10_point 187 = .ok (.iastore, 1) := by decide +kernel
theorem dX10_point_188 : decode cX10_point 188 = .ok (.aload_n 0, 1) := by decide +kernel
theorem dX10_point_189 : decode cX10_point 189 = .ok (.getfield 62, 3) := by decide +kernel
theorem dX10_point_192 : decode cX10_point 192 = .ok (.ireturn, 1) := by decide +kernel
theorem dX10_close_0 : decode cX10_close 0 = .ok (.aload_n 0, 1) := by decide +kernel
theorem dX10_close_1 : decode cX10_close 1 = .ok (.iconst 0, 1) := by decide +kernel
theorem dX10_close_2 : decode cX10_close 2 = .ok (.putfield 52, 3) := by decide +kernel
theorem dX10_close_5 : decode cX10_close 5 = .ok (.aload_n 0, 1) := by decide +kernel
theorem dX10_close_6 : decode cX10_close 6 = .ok (.getfield 68, 3) := by decide +kernel
theorem dX10_close_9 : decode cX10_close 9 = .ok (.ifCond .ne 9, 3) := by decide +kernel
theorem dX10_close_12 : decode cX10_close 12 = .ok (.aload_n 0, 1) := by decide +kernel
theorem dX10_close_13 : decode cX10_close 13 = .ok (.iconst 1, 1) := by decide +kernel
theorem dX10_close_14 : decode cX10_close 14 = .ok (.invokevirtual 82, 3) := by decide +kernel
theorem dX10_close_17 : decode cX10_close 17 = .ok (.ireturn, 1) := by decide +kernel
theorem dX10_close_18 : decode cX10_close 18 = .ok (.aload_n 0, 1) := by decide +kernel
theorem dX10_close_19 : decode cX10_close 19 = .ok (.dup, 1) := by decide +kernel
theorem dX10_close_20 : decode cX10_close 20 = .ok (.getfield 68, 3) := by decide +kernel
theorem dX10_close_23 : decode cX10_close 23 = .ok (.iconst 1, 1) := by decide +kernel
theorem dX10_close_24 : decode cX10_close 24 = .ok (.isub, 1) := by decide +kernel
theorem dX10_close_25 : decode cX10_close 25 = .ok (.putfield 68, 3) := by decide +kernel
theorem dX10_close_28 : decode cX10_close 28 = .ok (.aload_n 0, 1) := by decide +kernel
theorem dX10_close_29 : decode cX10_close 29 = .ok (.getfield 68, 3) := by decide +kernel
theorem dX10_close_32 : decode cX10_close 32 = .ok (.ireturn, 1) := by decide +kernel
theorem dX10_place_0 : decode cX10_place 0 = .ok (.aload_n 0, 1) := by decide +kernel
theorem dX10_place_1 : decode cX10_place 1 = .ok (.iconst 0, 1) := by decide +kernel
theorem dX10_place_2 : decode cX10_place 2 = .ok (.putfield 52, 3) := by decide +kernel
theorem dX10_place_5 : decode cX10_place 5 = .ok (.iload_n 1, 1) := by decide +kernel
theorem dX10_place_6 : decode cX10_place 6 = .ok (.iconst 0, 1) := by decide +kernel
theorem dX10_place_7 : decode cX10_place 7 = .ok (.bipush 6, 2) := by decide +kernel
theorem dX10_place_9 : decode cX10_place 9 = .ok (.invokestatic 78, 3) := by decide +kernel
theorem dX10_place_12 : decode cX10_place 12 = .ok (.ifCond .eq 12, 3) := by decide +kernel
theorem dX10_place_15 : decode cX10_place 15 = .ok (.aload_n 0, 1) := by decide +kernel
theorem dX10_place_16 : decode cX10_place 16 = .ok (.getfield 46, 3) := by decide +kernel
theorem dX10_place_19 : decode cX10_place 19 = .ok (.iload_n 1, 1) := by decide +kernel
theorem dX10_place_20 : decode cX10_place 20 = .ok (.iaload, 1) := by decide +kernel
theorem dX10_place_21 : decode cX10_place 21 = .ok (.goto 8, 3) := by decide +kernel
theorem dX10_place_24 : decode cX10_place 24 = .ok (.aload_n 0, 1) := by decide +kernel
theorem dX10_place_25 : decode cX10_place 25 = .ok (.iconst 1, 1) := by decide +kernel
theorem dX10_place_26 : decode cX10_place 26 = .ok (.invokevirtual 82, 3) := by decide +kernel
theorem dX10_place_29 : decode cX10_place 29 = .ok (.ireturn, 1) := by decide +kernel
theorem dX10_sign_0 : decode cX10_sign 0 = .ok (.lload_n 0, 1) := by decide +kernel
theorem dX10_sign_1 : decode cX10_sign 1 = .ok (.lconst 0, 1) := by decide +kernel
theorem dX10_sign_2 : decode cX10_sign 2 = .ok (.lcmp, 1) := by decide +kernel
theorem dX10_sign_3 : decode cX10_sign 3 = .ok (.ifCond .le 7, 3) := by decide +kernel
theorem dX10_sign_6 : decode cX10_sign 6 = .ok (.iconst 1, 1) := by decide +kernel
theorem dX10_sign_7 : decode cX10_sign 7 = .ok (.goto 14, 3) := by decide +kernel
theorem dX10_sign_10 : decode cX10_sign 10 = .ok (.lload_n 0, 1) := by decide +kernel
theorem dX10_sign_11 : decode cX10_sign 11 = .ok (.lconst 0, 1) := by decide +kernel
theorem dX10_sign_12 : decode cX10_sign 12 = .ok (.lcmp, 1) := by decide +kernel
theorem dX10_sign_13 : decode cX10_sign 13 = .ok (.ifCond .ge 7, 3) := by decide +kernel
theorem dX10_sign_16 : decode cX10_sign 16 = .ok (.iconst (-1), 1) := by decide +kernel
theorem dX10_sign_17 : decode cX10_sign 17 = .ok (.goto 4, 3) := by decide +kernel
theorem dX10_sign_20 : decode cX10_sign 20 = .ok (.iconst 0, 1) := by decide +kernel
theorem dX10_sign_21 : decode cX10_sign 21 = .ok (.ireturn, 1) := by decide +kernel
theorem dX10_cross_0 : decode cX10_cross 0 = .ok (.iload_n 0, 1) := by decide +kernel
theorem dX10_cross_1 : decode cX10_cross 1 = .ok (.i2l, 1) := by decide +kernel
theorem dX10_cross_2 : decode cX10_cross 2 = .ok (.iload_n 3, 1) := by decide +kernel
theorem dX10_cross_3 : decode cX10_cross 3 = .ok (.i2l, 1) := by decide +kernel
theorem dX10_cross_4 : decode cX10_cross 4 = .ok (.lmul, 1) := by decide +kernel
theorem dX10_cross_5 : decode cX10_cross 5 = .ok (.iload_n 1, 1) := by decide +kernel
theorem dX10_cross_6 : decode cX10_cross 6 = .ok (.i2l, 1) := by decide +kernel
theorem dX10_cross_7 : decode cX10_cross 7 = .ok (.iload_n 2, 1) := by decide +kernel
theorem dX10_cross_8 : decode cX10_cross 8 = .ok (.i2l, 1) := by decide +kernel
theorem dX10_cross_9 : decode cX10_cross 9 = .ok (.lmul, 1) := by decide +kernel
theorem dX10_cross_10 : decode cX10_cross 10 = .ok (.lsub, 1) := by decide +kernel
theorem dX10_cross_11 : decode cX10_cross 11 = .ok (.invokestatic 92, 3) := by decide +kernel
theorem dX10_cross_14 : decode cX10_cross 14 = .ok (.ireturn, 1) := by decide +kernel
theorem dX10_side_0 : decode cX10_side 0 = .ok (.aload_n 0, 1) := by decide +kernel
theorem dX10_side_1 : decode cX10_side 1 = .ok (.getfield 37, 3) := by decide +kernel
theorem dX10_side_4 : decode cX10_side 4 = .ok (.iload_n 2, 1) := by decide +kernel
theorem dX10_side_5 : decode cX10_side 5 = .ok (.iaload, 1) := by decide +kernel
theorem dX10_side_6 : decode cX10_side 6 = .ok (.i2l, 1) := by decide +kernel
theorem dX10_side_7 : decode cX10_side 7 = .ok (.aload_n 0, 1) := by decide +kernel
theorem dX10_side_8 : decode cX10_side 8 = .ok (.getfield 37, 3) := by decide +kernel
theorem dX10_side_11 : decode cX10_side 11 = .ok (.iload_n 1, 1) := by decide +kernel
theorem dX10_side_12 : decode cX10_side 12 = .ok (.iaload, 1) := by decide +kernel
theorem dX10_side_13 : decode cX10_side 13 = .ok (.i2l, 1) := by decide +kernel
theorem dX10_side_14 : decode cX10_side 14 = .ok (.lsub, 1) := by decide +kernel
theorem dX10_side_15 : decode cX10_side 15 = .ok (.iload 4, 2) := by decide +kernel
theorem dX10_side_17 : decode cX10_side 17 = .ok (.i2l, 1) := by decide +kernel
theorem dX10_side_18 : decode cX10_side 18 = .ok (.aload_n 0, 1) := by decide +kernel
theorem dX10_side_19 : decode cX10_side 19 = .ok (.getfield 40, 3) := by decide +kernel
theorem dX10_side_22 : decode cX10_side 22 = .ok (.iload_n 1, 1) := by decide +kernel
theorem dX10_side_23 : decode cX10_side 23 = .ok (.iaload, 1) := by decide +kernel
theorem dX10_side_24 : decode cX10_side 24 = .ok (.i2l, 1) := by decide +kernel
theorem dX10_side_25 : decode cX10_side 25 = .ok (.lsub, 1) := by decide +kernel
theorem dX10_side_26 : decode cX10_side 26 = .ok (.lmul, 1) := by decide +kernel
theorem dX10_side_27 : decode cX10_side 27 = .ok (.aload_n 0, 1) := by decide +kernel
theorem dX10_side_28 : decode cX10_side 28 = .ok (.getfield 40, 3) := by decide +kernel
theorem dX10_side_31 : decode cX10_side 31 = .ok (.iload_n 2, 1) := by decide +kernel
theorem dX10_side_32 : decode cX10_side 32 = .ok (.iaload, 1) := by decide +kernel
theorem dX10_side_33 : decode cX10_side 33 = .ok (.i2l, 1) := by decide +kernel
theorem dX10_side_34 : decode cX10_side 34 = .ok (.aload_n 0, 1) := by decide +kernel
theorem dX10_side_35 : decode cX10_side 35 = .ok (.getfield 40, 3) := by decide +kernel
theorem dX10_side_38 : decode cX10_side 38 = .ok (.iload_n 1, 1) := by decide +kernel
theorem dX10_side_39 : decode cX10_side 39 = .ok (.iaload, 1) := by decide +kernel
theorem dX10_side_40 : decode cX10_side 40 = .ok (.i2l, 1) := by decide +kernel
theorem dX10_side_41 : decode cX10_side 41 = .ok (.lsub, 1) := by decide +kernel
theorem dX10_side_42 : decode cX10_side 42 = .ok (.iload_n 3, 1) := by decide +kernel
theorem dX10_side_43 : decode cX10_side 43 = .ok (.i2l, 1) := by decide +kernel
theorem dX10_side_44 : decode cX10_side 44 = .ok (.aload_n 0, 1) := by decide +kernel
theorem dX10_side_45 : decode cX10_side 45 = .ok (.getfield 37, 3) := by decide +kernel
theorem dX10_side_48 : decode cX10_side 48 = .ok (.iload_n 1, 1) := by decide +kernel
theorem dX10_side_49 : decode cX10_side 49 = .ok (.iaload, 1) := by decide +kernel
theorem dX10_side_50 : decode cX10_side 50 = .ok (.i2l, 1) := by decide +kernel
theorem dX10_side_51 : decode cX10_side 51 = .ok (.lsub, 1) := by decide +kernel
theorem dX10_side_52 : decode cX10_side 52 = .ok (.lmul, 1) := by decide +kernel
theorem dX10_side_53 : decode cX10_side 53 = .ok (.lsub, 1) := by decide +kernel
theorem dX10_side_54 : decode cX10_side 54 = .ok (.invokestatic 92, 3) := by decide +kernel
theorem dX10_side_57 : decode cX10_side 57 = .ok (.ireturn, 1) := by decide +kernel
theorem dX10_between_0 : decode cX10_between 0 = .ok (.iload_n 1, 1) := by decide +kernel
theorem dX10_between_1 : decode cX10_between 1 = .ok (.iload_n 2, 1) := by decide +kernel
theorem dX10_between_2 : decode cX10_between 2 = .ok (.if_icmp .ge 12, 3) := by decide +kernel
theorem dX10_between_5 : decode cX10_between 5 = .ok (.iload_n 0, 1) := by decide +kernel
theorem dX10_between_6 : decode cX10_between 6 = .ok (.iload_n 1, 1) := by decide +kernel
theorem dX10_between_7 : decode cX10_between 7 = .ok (.iload_n 2, 1) := by decide +kernel
theorem dX10_between_8 : decode cX10_between 8 = .ok (.invokestatic 78, 3) := by decide +kernel
theorem dX10_between_11 : decode cX10_between 11 = .ok (.goto 9, 3) := by decide +kernel
theorem dX10_between_14 : decode cX10_between 14 = .ok (.iload_n 0, 1) := by decide +kernel
theorem dX10_between_15 : decode cX10_between 15 = .ok (.iload_n 2, 1) := by decide +kernel
theorem dX10_between_16 : decode cX10_between 16 = .ok (.iload_n 1, 1) := by decide +kernel
theorem dX10_between_17 : decode cX10_between 17 = .ok (.invokestatic 78, 3) := by decide +kernel
theorem dX10_between_20 : decode cX10_between 20 = .ok (.ireturn, 1) := by decide +kernel
theorem dX10_isOn_0 : decode cX10_isOn 0 = .ok (.aload_n 0, 1) := by decide +kernel
theorem dX10_isOn_1 : decode cX10_isOn 1 = .ok (.iload_n 3, 1) := by decide +kernel
theorem dX10_isOn_2 : decode cX10_isOn 2 = .ok (.iload_n 3, 1) := by decide +kernel
theorem dX10_isOn_3 : decode cX10_isOn 3 = .ok (.iconst 1, 1) := by decide +kernel
theorem dX10_isOn_4 : decode cX10_isOn 4 = .ok (.iadd, 1) := by decide +kernel
theorem dX10_isOn_5 : decode cX10_isOn 5 = .ok (.iload_n 1, 1) := by decide +kernel
theorem dX10_isOn_6 : decode cX10_isOn 6 = .ok (.iload_n 2, 1) := by decide +kernel
theorem dX10_isOn_7 : decode cX10_isOn 7 = .ok (.invokevirtual 96, 3) := by decide +kernel
theorem dX10_isOn_10 : decode cX10_isOn 10 = .ok (.ifCond .ne 49, 3) := by decide +kernel
theorem dX10_isOn_13 : decode cX10_isOn 13 = .ok (.iload_n 1, 1) := by decide +kernel
theorem dX10_isOn_14 : decode cX10_isOn 14 = .ok (.aload_n 0, 1) := by decide +kernel
theorem dX10_isOn_15 : decode cX10_isOn 15 = .ok (.getfield 37, 3) := by decide +kernel
theorem dX10_isOn_18 : decode cX10_isOn 18 = .ok (.iload_n 3, 1) := by decide +kernel
theorem dX10_isOn_19 : decode cX10_isOn 19 = .ok (.iaload, 1) := by decide +kernel
theorem dX10_isOn_20 : decode cX10_isOn 20 = .ok (.aload_n 0, 1) := by decide +kernel
theorem dX10_isOn_21 : decode cX10_isOn 21 = .ok (.getfield 37, 3) := by decide +kernel
theorem dX10_isOn_24 : decode cX10_isOn 24 = .ok (.iload_n 3, 1) := by decide +kernel
theorem dX10_isOn_25 : decode cX10_isOn 25 = .ok (.iconst 1, 1) := by decide +kernel
theorem dX10_isOn_26 : decode cX10_isOn 26 = .ok (.iadd, 1) := by decide +kernel
theorem dX10_isOn_27 : decode cX10_isOn 27 = .ok (.iaload, 1) := by decide +kernel
theorem dX10_isOn_28 : decode cX10_isOn 28 = .ok (.invokestatic 100, 3) := by decide +kernel
theorem dX10_isOn_31 : decode cX10_isOn 31 = .ok (.ifCond .eq 28, 3) := by decide +kernel
theorem dX10_isOn_34 : decode cX10_isOn 34 = .ok (.iload_n 2, 1) := by decide +kernel
theorem dX10_isOn_35 : decode cX10_isOn 35 = .ok (.aload_n 0, 1) := by decide +kernel
theorem dX10_isOn_36 : decode cX10_isOn 36 = .ok (.getfield 40, 3) := by decide +kernel
theorem dX10_isOn_39 : decode cX10_isOn 39 = .ok (.iload_n 3, 1) := by decide +kernel
theorem dX10_isOn_40 : decode cX10_isOn 40 = .ok (.iaload, 1) := by decide +kernel
theorem dX10_isOn_41 : decode cX10_isOn 41 = .ok (.aload_n 0, 1) := by decide +kernel
theorem dX10_isOn_42 : decode cX10_isOn 42 = .ok (.getfield 40, 3) := by decide +kernel
theorem dX10_isOn_45 : decode cX10_isOn 45 = .ok (.iload_n 3, 1) := by decide +kernel
theorem dX10_isOn_46 : decode cX10_isOn 46 = .ok (.iconst 1, 1) := by decide +kernel
theorem dX10_isOn_47 : decode cX10_isOn 47 = .ok (.iadd, 1) := by decide +kernel
theorem dX10_isOn_48 : decode cX10_isOn 48 = .ok (.iaload, 1) := by decide +kernel
theorem dX10_isOn_49 : decode cX10_isOn 49 = .ok (.invokestatic 100, 3) := by decide +kernel
theorem dX10_isOn_52 : decode cX10_isOn 52 = .ok (.ifCond .eq 7, 3) := by decide +kernel
theorem dX10_isOn_55 : decode cX10_isOn 55 = .ok (.iconst 1, 1) := by decide +kernel
theorem dX10_isOn_56 : decode cX10_isOn 56 = .ok (.goto 4, 3) := by decide +kernel
theorem dX10_isOn_59 : decode cX10_isOn 59 = .ok (.iconst 0, 1) := by decide +kernel
theorem dX10_isOn_60 : decode cX10_isOn 60 = .ok (.ireturn, 1) := by decide +kernel
theorem dX10_same_0 : decode cX10_same 0 = .ok (.aload_n 0, 1) := by decide +kernel
theorem dX10_same_1 : decode cX10_same 1 = .ok (.getfield 37, 3) := by decide +kernel
theorem dX10_same_4 : decode cX10_same 4 = .ok (.iload_n 1, 1) := by decide +kernel
theorem dX10_same_5 : decode cX10_same 5 = .ok (.iaload, 1) := by decide +kernel
theorem dX10_same_6 : decode cX10_same 6 = .ok (.aload_n 0, 1) := by decide +kernel
theorem dX10_same_7 : decode cX10_same 7 = .ok (.getfield 37, 3) := by decide +kernel
theorem dX10_same_10 : decode cX10_same 10 = .ok (.iload_n 2, 1) := by decide +kernel
theorem dX10_same_11 : decode cX10_same 11 = .ok (.iaload, 1) := by decide +kernel
theorem dX10_same_12 : decode cX10_same 12 = .ok (.if_icmp .ne 22, 3) := by decide +kernel
theorem dX10_same_15 : decode cX10_same 15 = .ok (.aload_n 0, 1) := by decide +kernel
theorem dX10_same_16 : decode cX10_same 16 = .ok (.getfield 40, 3) := by decide +kernel
theorem dX10_same_19 : decode cX10_same 19 = .ok (.iload_n 1, 1) := by decide +kernel
theorem dX10_same_20 : decode cX10_same 20 = .ok (.iaload, 1) := by decide +kernel
theorem dX10_same_21 : decode cX10_same 21 = .ok (.aload_n 0, 1) := by decide +kernel
theorem dX10_same_22 : decode cX10_same 22 = .ok (.getfield 40, 3) := by decide +kernel
theorem dX10_same_25 : decode cX10_same 25 = .ok (.iload_n 2, 1) := by decide +kernel
theorem dX10_same_26 : decode cX10_same 26 = .ok (.iaload, 1) := by decide +kernel
theorem dX10_same_27 : decode cX10_same 27 = .ok (.if_icmp .ne 7, 3) := by decide +kernel
theorem dX10_same_30 : decode cX10_same 30 = .ok (.iconst 1, 1) := by decide +kernel
theorem dX10_same_31 : decode cX10_same 31 = .ok (.goto 4, 3) := by decide +kernel
theorem dX10_same_34 : decode cX10_same 34 = .ok (.iconst 0, 1) := by decide +kernel
theorem dX10_same_35 : decode cX10_same 35 = .ok (.ireturn, 1) := by decide +kernel
theorem dX10_isSegment_0 : decode cX10_isSegment 0 = .ok (.aload_n 0, 1) := by decide +kernel
theorem dX10_isSegment_1 : decode cX10_isSegment 1 = .ok (.iload_n 1, 1) := by decide +kernel
theorem dX10_isSegment_2 : decode cX10_isSegment 2 = .ok (.iload_n 1, 1) := by decide +kernel
theorem dX10_isSegment_3 : decode cX10_isSegment 3 = .ok (.iconst 1, 1) := by decide +kernel
theorem dX10_isSegment_4 : decode cX10_isSegment 4 = .ok (.iadd, 1) := by decide +kernel
theorem dX10_isSegment_5 : decode cX10_isSegment 5 = .ok (.invokevirtual 103, 3) := by decide +kernel
theorem dX10_isSegment_8 : decode cX10_isSegment 8 = .ok (.ifCond .ne 7, 3) := by decide +kernel
theorem dX10_isSegment_11 : decode cX10_isSegment 11 = .ok (.iconst 1, 1) := by decide +kernel
theorem dX10_isSegment_12 : decode cX10_isSegment 12 = .ok (.goto 4, 3) := by decide +kernel
theorem dX10_isSegment_15 : decode cX10_isSegment 15 = .ok (.iconst 0, 1) := by decide +kernel
theorem dX10_isSegment_16 : decode cX10_isSegment 16 = .ok (.ireturn, 1) := by decide +kernel
theorem dX10_more_0 : decode cX10_more 0 = .ok (.iload_n 1, 1) := by decide +kernel
theorem dX10_more_1 : decode cX10_more 1 = .ok (.iload_n 2, 1) := by decide +kernel
theorem dX10_more_2 : decode cX10_more 2 = .ok (.if_icmp .le 7, 3) := by decide +kernel
theorem dX10_more_5 : decode cX10_more 5 = .ok (.iload_n 1, 1) := by decide +kernel
theorem dX10_more_6 : decode cX10_more 6 = .ok (.goto 4, 3) := by decide +kernel
theorem dX10_more_9 : decode cX10_more 9 = .ok (.iload_n 2, 1) := by decide +kernel
theorem dX10_more_10 : decode cX10_more 10 = .ok (.ireturn, 1) := by decide +kernel
theorem dX10_less_0 : decode cX10_less 0 = .ok (.iload_n 1, 1) := by decide +kernel
theorem dX10_less_1 : decode cX10_less 1 = .ok (.iload_n 2, 1) := by decide +kernel
theorem dX10_less_2 : decode cX10_less 2 = .ok (.if_icmp .ge 7, 3) := by decide +kernel
theorem dX10_less_5 : decode cX10_less 5 = .ok (.iload_n 1, 1) := by decide +kernel
theorem dX10_less_6 : decode cX10_less 6 = .ok (.goto 4, 3) := by decide +kernel
theorem dX10_less_9 : decode cX10_less 9 = .ok (.iload_n 2, 1) := by decide +kernel
theorem dX10_less_10 : decode cX10_less 10 = .ok (.ireturn, 1) := by decide +kernel
theorem dX10_along_0 : decode cX10_along 0 = .ok (.aload_n 0, 1) := by decide +kernel
theorem dX10_along_1 : decode cX10_along 1 = .ok (.aload_n 0, 1) := by decide +kernel
theorem dX10_along_2 : decode cX10_along 2 = .ok (.aload_n 0, 1) := by decide +kernel
theorem dX10_along_3 : decode cX10_along 3 = .ok (.getfield 37, 3) := by decide +kernel
theorem dX10_along_6 : decode cX10_along 6 = .ok (.iload_n 1, 1) := by decide +kernel
theorem dX10_along_7 : decode cX10_along 7 = .ok (.iaload, 1) := by decide +kernel
theorem dX10_along_8 : decode cX10_along 8 = .ok (.aload_n 0, 1) := by decide +kernel
theorem dX10_along_9 : decode cX10_along 9 = .ok (.getfield 37, 3) := by decide +kernel
theorem dX10_along_12 : decode cX10_along 12 = .ok (.iload_n 1, 1) := by decide +kernel
theorem dX10_along_13 : decode cX10_along 13 = .ok (.iconst 1, 1) := by decide +kernel
theorem dX10_along_14 : decode cX10_along 14 = .ok (.iadd, 1) := by decide +kernel
theorem dX10_along_15 : decode cX10_along 15 = .ok (.iaload, 1) := by decide +kernel
theorem dX10_along_16 : decode cX10_along 16 = .ok (.invokevirtual 107, 3) := by decide +kernel
theorem dX10_along_19 : decode cX10_along 19 = .ok (.aload_n 0, 1) := by decide +kernel
theorem dX10_along_20 : decode cX10_along 20 = .ok (.aload_n 0, 1) := by decide +kernel
theorem dX10_along_21 : decode cX10_along 21 = .ok (.getfield 37, 3) := by decide +kernel
theorem dX10_along_24 : decode cX10_along 24 = .ok (.iload_n 2, 1) := by decide +kernel
theorem dX10_along_25 : decode cX10_along 25 = .ok (.iaload, 1) := by decide +kernel
theorem dX10_along_26 : decode cX10_along 26 = .ok (.aload_n 0, 1) := by decide +kernel
theorem dX10_along_27 : decode cX10_along 27 = .ok (.getfield 37, 3) := by decide +kernel
theorem dX10_along_30 : decode cX10_along 30 = .ok (.iload_n 2, 1) := by decide +kernel
theorem dX10_along_31 : decode cX10_along 31 = .ok (.iconst 1, 1) := by decide +kernel
theorem dX10_along_32 : decode cX10_along 32 = .ok (.iadd, 1) := by decide +kernel
theorem dX10_along_33 : decode cX10_along 33 = .ok (.iaload, 1) := by decide +kernel
theorem dX10_along_34 : decode cX10_along 34 = .ok (.invokevirtual 107, 3) := by decide +kernel
theorem dX10_along_37 : decode cX10_along 37 = .ok (.invokevirtual 111, 3) := by decide +kernel
theorem dX10_along_40 : decode cX10_along 40 = .ok (.istore_n 3, 1) := by decide +kernel
theorem dX10_along_41 : decode cX10_along 41 = .ok (.aload_n 0, 1) := by decide +kernel
theorem dX10_along_42 : decode cX10_along 42 = .ok (.aload_n 0, 1) := by decide +kernel
theorem dX10_along_43 : decode cX10_along 43 = .ok (.aload_n 0, 1) := by decide +kernel
theorem dX10_along_44 : decode cX10_along 44 = .ok (.getfield 37, 3) := by decide +kernel
theorem dX10_along_47 : decode cX10_along 47 = .ok (.iload_n 1, 1) := by decide +kernel
theorem dX10_along_48 : decode cX10_along 48 = .ok (.iaload, 1) := by decide +kernel
theorem dX10_along_49 : decode cX10_along 49 = .ok (.aload_n 0, 1) := by decide +kernel
theorem dX10_along_50 : decode cX10_along 50 = .ok (.getfield 37, 3) := by decide +kernel
theorem dX10_along_53 : decode cX10_along 53 = .ok (.iload_n 1, 1) := by decide +kernel
theorem dX10_along_54 : decode cX10_along 54 = .ok (.iconst 1, 1) := by decide +kernel
theorem dX10_along_55 : decode cX10_along 55 = .ok (.iadd, 1) := by decide +kernel
theorem dX10_along_56 : decode cX10_along 56 = .ok (.iaload, 1) := by decide +kernel
theorem dX10_along_57 : decode cX10_along 57 = .ok (.invokevirtual 111, 3) := by decide +kernel
theorem dX10_along_60 : decode cX10_along 60 = .ok (.aload_n 0, 1) := by decide +kernel
theorem dX10_along_61 : decode cX10_along 61 = .ok (.aload_n 0, 1) := by decide +kernel
theorem dX10_along_62 : decode cX10_along 62 = .ok (.getfield 37, 3) := by decide +kernel
theorem dX10_along_65 : decode cX10_along 65 = .ok (.iload_n 2, 1) := by decide +kernel
theorem dX10_along_66 : decode cX10_along 66 = .ok (.iaload, 1) := by decide +kernel
theorem dX10_along_67 : decode cX10_along 67 = .ok (.aload_n 0, 1) := by decide +kernel
theorem dX10_along_68 : decode cX10_along 68 = .ok (.getfield 37, 3) := by decide +kernel
theorem dX10_along_71 : decode cX10_along 71 = .ok (.iload_n 2, 1) := by decide +kernel
theorem dX10_along_72 : decode cX10_along 72 = .ok (.iconst 1, 1) := by decide +kernel
theorem dX10_along_73 : decode cX10_along 73 = .ok (.iadd, 1) := by decide +kernel
theorem dX10_along_74 : decode cX10_along 74 = .ok (.iaload, 1) := by decide +kernel
theorem dX10_along_75 : decode cX10_along 75 = .ok (.invokevirtual 111, 3) := by decide +kernel
theorem dX10_along_78 : decode cX10_along 78 = .ok (.invokevirtual 107, 3) := by decide +kernel
theorem dX10_along_81 : decode cX10_along 81 = .ok (.istore 4, 2) := by decide +kernel
theorem dX10_along_83 : decode cX10_along 83 = .ok (.aload_n 0, 1) := by decide +kernel
theorem dX10_along_84 : decode cX10_along 84 = .ok (.aload_n 0, 1) := by decide +kernel
theorem dX10_along_85 : decode cX10_along 85 = .ok (.aload_n 0, 1) := by decide +kernel
theorem dX10_along_86 : decode cX10_along 86 = .ok (.getfield 40, 3) := by decide +kernel
theorem dX10_along_89 : decode cX10_along 89 = .ok (.iload_n 1, 1) := by decide +kernel
theorem dX10_along_90 : decode cX10_along 90 = .ok (.iaload, 1) := by decide +kernel
theorem dX10_along_91 : decode cX10_along 91 = .ok (.aload_n 0, 1) := by decide +kernel
theorem dX10_along_92 : decode cX10_along 92 = .ok (.getfield 40, 3) := by decide +kernel
theorem dX10_along_95 : decode cX10_along 95 = .ok (.iload_n 1, 1) := by decide +kernel
theorem dX10_along_96 : decode cX10_along 96 = .ok (.iconst 1, 1) := by decide +kernel
theorem dX10_along_97 : decode cX10_along 97 = .ok (.iadd, 1) := by decide +kernel
theorem dX10_along_98 : decode cX10_along 98 = .ok (.iaload, 1) := by decide +kernel
theorem dX10_along_99 : decode cX10_along 99 = .ok (.invokevirtual 107, 3) := by decide +kernel
theorem dX10_along_102 : decode cX10_along 102 = .ok (.aload_n 0, 1) := by decide +kernel
theorem dX10_along_103 : decode cX10_along 103 = .ok (.aload_n 0, 1) := by decide +kernel
theorem dX10_along_104 : decode cX10_along 104 = .ok (.getfield 40, 3) := by decide +kernel
theorem dX10_along_107 : decode cX10_along 107 = .ok (.iload_n 2, 1) := by decide +kernel
theorem dX10_along_108 : decode cX10_along 108 = .ok (.iaload, 1) := by decide +kernel
theorem dX10_along_109 : decode cX10_along 109 = .ok (.aload_n 0, 1) := by decide +kernel
theorem dX10_along_110 : decode cX10_along 110 = .ok (.getfield 40, 3) := by decide +kernel
theorem dX10_along_113 : decode cX10_along 113 = .ok (.iload_n 2, 1) := by decide +kernel
theorem dX10_along_114 : decode cX10_along 114 = .ok (.iconst 1, 1) := by decide +kernel
theorem dX10_along_115 : decode cX10_along 115 = .ok (.iadd, 1) := by decide +kernel
theorem dX10_along_116 : decode cX10_along 116 = .ok (.iaload, 1) := by decide +kernel
theorem dX10_along_117 : decode cX10_along 117 = .ok (.invokevirtual 107, 3) := by decide +kernel
theorem dX10_along_120 : decode cX10_along 120 = .ok (.invokevirtual 111, 3) := by decide +kernel
theorem dX10_along_123 : decode cX10_along 123 = .ok (.istore 5, 2) := by decide +kernel
theorem dX10_along_125 : decode cX10_along 125 = .ok (.aload_n 0, 1) := by decide +kernel
theorem dX10_along_126 : decode cX10_along 126 = .ok (.aload_n 0, 1) := by decide +kernel
theorem dX10_along_127 : decode cX10_along 127 = .ok (.aload_n 0, 1) := by decide +kernel
theorem dX10_along_128 : decode cX10_along 128 = .ok (.getfield 40, 3) := by decide +kernel
theorem dX10_along_131 : decode cX10_along 131 = .ok (.iload_n 1, 1) := by decide +kernel
theorem dX10_along_132 : decode cX10_along 132 = .ok (.iaload, 1) := by decide +kernel
theorem dX10_along_133 : decode cX10_along 133 = .ok (.aload_n 0, 1) := by decide +kernel
theorem dX10_along_134 : decode cX10_along 134 = .ok (.getfield 40, 3) := by decide +kernel
theorem dX10_along_137 : decode cX10_along 137 = .ok (.iload_n 1, 1) := by decide +kernel
theorem dX10_along_138 : decode cX10_along 138 = .ok (.iconst 1, 1) := by decide +kernel
theorem dX10_along_139 : decode cX10_along 139 = .ok (.iadd, 1) := by decide +kernel
theorem dX10_along_140 : decode cX10_along 140 = .ok (.iaload, 1) := by decide +kernel
theorem dX10_along_141 : decode cX10_along 141 = .ok (.invokevirtual 111, 3) := by decide +kernel
theorem dX10_along_144 : decode cX10_along 144 = .ok (.aload_n 0, 1) := by decide +kernel
theorem dX10_along_145 : decode cX10_along 145 = .ok (.aload_n 0, 1) := by decide +kernel
theorem dX10_along_146 : decode cX10_along 146 = .ok (.getfield 40, 3) := by decide +kernel
theorem dX10_along_149 : decode cX10_along 149 = .ok (.iload_n 2, 1) := by decide +kernel
theorem dX10_along_150 : decode cX10_along 150 = .ok (.iaload, 1) := by decide +kernel
theorem dX10_along_151 : decode cX10_along 151 = .ok (.aload_n 0, 1) := by decide +kernel
theorem dX10_along_152 : decode cX10_along 152 = .ok (.getfield 40, 3) := by decide +kernel
theorem dX10_along_155 : decode cX10_along 155 = .ok (.iload_n 2, 1) := by decide +kernel
theorem dX10_along_156 : decode cX10_along 156 = .ok (.iconst 1, 1) := by decide +kernel
theorem dX10_along_157 : decode cX10_along 157 = .ok (.iadd, 1) := by decide +kernel
theorem dX10_along_158 : decode cX10_along 158 = .ok (.iaload, 1) := by decide +kernel
theorem dX10_along_159 : decode cX10_along 159 = .ok (.invokevirtual 111, 3) := by decide +kernel
theorem dX10_along_162 : decode cX10_along 162 = .ok (.invokevirtual 107, 3) := by decide +kernel
theorem dX10_along_165 : decode cX10_along 165 = .ok (.istore 6, 2) := by decide +kernel
theorem dX10_along_167 : decode cX10_along 167 = .ok (.aload_n 0, 1) := by decide +kernel
theorem dX10_along_168 : decode cX10_along 168 = .ok (.iload_n 3, 1) := by decide +kernel
theorem dX10_along_169 : decode cX10_along 169 = .ok (.putfield 114, 3) := by decide +kernel
theorem dX10_along_172 : decode cX10_along 172 = .ok (.aload_n 0, 1) := by decide +kernel
theorem dX10_along_173 : decode cX10_along 173 = .ok (.iload 5, 2) := by decide +kernel
theorem dX10_along_175 : decode cX10_along 175 = .ok (.putfield 117, 3) := by decide +kernel
theorem dX10_along_178 : decode cX10_along 178 = .ok (.iload_n 3, 1) := by decide +kernel
theorem dX10_along_179 : decode cX10_along 179 = .ok (.iload 4, 2) := by decide +kernel
theorem dX10_along_181 : decode cX10_along 181 = .ok (.if_icmp .gt 10, 3) := by decide +kernel
theorem dX10_along_184 : decode cX10_along 184 = .ok (.iload 5, 2) := by decide +kernel
theorem dX10_along_186 : decode cX10_along 186 = .ok (.iload 6, 2) := by decide +kernel
theorem dX10_along_188 : decode cX10_along 188 = .ok (.if_icmp .le 5, 3) := by decide +kernel
theorem dX10_along_191 : decode cX10_along 191 = .ok (.iconst 0, 1) := by decide +kernel
theorem dX10_along_192 : decode cX10_along 192 = .ok (.ireturn, 1) := by decide +kernel
theorem dX10_along_193 : decode cX10_along 193 = .ok (.iload_n 3, 1) := by decide +kernel
theorem dX10_along_194 : decode cX10_along 194 = .ok (.iload 4, 2) := by decide +kernel
theorem dX10_along_196 : decode cX10_along 196 = .ok (.if_icmp .ne 14, 3) := by decide +kernel
theorem dX10_along_199 : decode cX10_along 199 = .ok (.iload 5, 2) := by decide +kernel
theorem dX10_along_201 : decode cX10_along 201 = .ok (.iload 6, 2) := by decide +kernel
theorem dX10_along_203 : decode cX10_along 203 = .ok (.if_icmp .ne 7, 3) := by decide +kernel
theorem dX10_along_206 : decode cX10_along 206 = .ok (.iconst 1, 1) := by decide +kernel
theorem dX10_along_207 : decode cX10_along 207 = .ok (.goto 4, 3) := by decide +kernel
theorem dX10_along_210 : decode cX10_along 210 = .ok (.iconst 2, 1) := by decide +kernel
theorem dX10_along_211 : decode cX10_along 211 = .ok (.ireturn, 1) := by decide +kernel
theorem dX10_meets_0 : decode cX10_meets 0 = .ok (.aload_n 0, 1) := by decide +kernel
theorem dX10_meets_1 : decode cX10_meets 1 = .ok (.aload_n 0, 1) := by decide +kernel
theorem dX10_meets_2 : decode cX10_meets 2 = .ok (.getfield 37, 3) := by decide +kernel
theorem dX10_meets_5 : decode cX10_meets 5 = .ok (.iload_n 1, 1) := by decide +kernel
theorem dX10_meets_6 : decode cX10_meets 6 = .ok (.iaload, 1) := by decide +kernel
theorem dX10_meets_7 : decode cX10_meets 7 = .ok (.aload_n 0, 1) := by decide +kernel
theorem dX10_meets_8 : decode cX10_meets 8 = .ok (.getfield 40, 3) := by decide +kernel
theorem dX10_meets_11 : decode cX10_meets 11 = .ok (.iload_n 1, 1) := by decide +kernel
theorem dX10_meets_12 : decode cX10_meets 12 = .ok (.iaload, 1) := by decide +kernel
theorem dX10_meets_13 : decode cX10_meets 13 = .ok (.iload_n 2, 1) := by decide +kernel
theorem dX10_meets_14 : decode cX10_meets 14 = .ok (.invokevirtual 120, 3) := by decide +kernel
theorem dX10_meets_17 : decode cX10_meets 17 = .ok (.ifCond .ne 5, 3) := by decide +kernel
theorem dX10_meets_20 : decode cX10_meets 20 = .ok (.iconst 0, 1) := by decide +kernel
theorem dX10_meets_21 : decode cX10_meets 21 = .ok (.ireturn, 1) := by decide +kernel
theorem dX10_meets_22 : decode cX10_meets 22 = .ok (.aload_n 0, 1) := by decide +kernel
theorem dX10_meets_23 : decode cX10_meets 23 = .ok (.aload_n 0, 1) := by decide +kernel
theorem dX10_meets_24 : decode cX10_meets 24 = .ok (.getfield 37, 3) := by decide +kernel
theorem dX10_meets_27 : decode cX10_meets 27 = .ok (.iload_n 1, 1) := by decide +kernel
theorem dX10_meets_28 : decode cX10_meets 28 = .ok (.iaload, 1) := by decide +kernel
theorem dX10_meets_29 : decode cX10_meets 29 = .ok (.putfield 114, 3) := by decide +kernel
theorem dX10_meets_32 : decode cX10_meets 32 = .ok (.aload_n 0, 1) := by decide +kernel
theorem dX10_meets_33 : decode cX10_meets 33 = .ok (.aload_n 0, 1) := by decide +kernel
theorem dX10_meets_34 : decode cX10_meets 34 = .ok (.getfield 40, 3) := by decide +kernel
theorem dX10_meets_37 : decode cX10_meets 37 = .ok (.iload_n 1, 1) := by decide +kernel
theorem dX10_meets_38 : decode cX10_meets 38 = .ok (.iaload, 1) := by decide +kernel
theorem dX10_meets_39 : decode cX10_meets 39 = .ok (.putfield 117, 3) := by decide +kernel
theorem dX10_meets_42 : decode cX10_meets 42 = .ok (.iconst 1, 1) := by decide +kernel
theorem dX10_meets_43 : decode cX10_meets 43 = .ok (.ireturn, 1) := by decide +kernel
theorem dX10_meet_0 : decode cX10_meet 0 = .ok (.aload_n 0, 1) := by decide +kernel
theorem dX10_meet_1 : decode cX10_meet 1 = .ok (.iload_n 1, 1) := by decide +kernel
theorem dX10_meet_2 : decode cX10_meet 2 = .ok (.iload_n 1, 1) := by decide +kernel
theorem dX10_meet_3 : decode cX10_meet 3 = .ok (.iconst 1, 1) := by decide +kernel
theorem dX10_meet_4 : decode cX10_meet 4 = .ok (.iadd, 1) := by decide +kernel
theorem dX10_meet_5 : decode cX10_meet 5 = .ok (.aload_n 0, 1) := by decide +kernel
theorem dX10_meet_6 : decode cX10_meet 6 = .ok (.getfield 37, 3) := by decide +kernel
theorem dX10_meet_9 : decode cX10_meet 9 = .ok (.iload_n 2, 1) := by decide +kernel
theorem dX10_meet_10 : decode cX10_meet 10 = .ok (.iaload, 1) := by decide +kernel
theorem dX10_meet_11 : decode cX10_meet 11 = .ok (.aload_n 0, 1) := by decide +kernel
theorem dX10_meet_12 : decode cX10_meet 12 = .ok (.getfield 40, 3) := by decide +kernel
theorem dX10_meet_15 : decode cX10_meet 15 = .ok (.iload_n 2, 1) := by decide +kernel
theorem dX10_meet_16 : decode cX10_meet 16 = .ok (.iaload, 1) := by decide +kernel
theorem dX10_meet_17 : decode cX10_meet 17 = .ok (.invokevirtual 96, 3) := by decide +kernel
theorem dX10_meet_20 : decode cX10_meet 20 = .ok (.istore_n 3, 1) := by decide +kernel
theorem dX10_meet_21 : decode cX10_meet 21 = .ok (.aload_n 0, 1) := by decide +kernel
theorem dX10_meet_22 : decode cX10_meet 22 = .ok (.iload_n 1, 1) := by decide +kernel
theorem dX10_meet_23 : decode cX10_meet 23 = .ok (.iload_n 1, 1) := by decide +kernel
theorem dX10_meet_24 : decode cX10_meet 24 = .ok (.iconst 1, 1) := by decide +kernel
theorem dX10_meet_25 : decode cX10_meet 25 = .ok (.iadd, 1) := by decide +kernel
theorem dX10_meet_26 : decode cX10_meet 26 = .ok (.aload_n 0, 1) := by decide +kernel
theorem dX10_meet_27 : decode cX10_meet 27 = .ok (.getfield 37, 3) := by decide +kernel
theorem dX10_meet_30 : decode cX10_meet 30 = .ok (.iload_n 2, 1) := by decide +kernel
theorem dX10_meet_31 : decode cX10_meet 31 = .ok (.iconst 1, 1) := by decide +kernel
theorem dX10_meet_32 : decode cX10_meet 32 = .ok (.iadd, 1) := by decide +kernel
theorem dX10_meet_33 : decode cX10_meet 33 = .ok (.iaload, 1) := by decide +kernel
theorem dX10_meet_34 : decode cX10_meet 34 = .ok (.aload_n 0, 1) := by decide +kernel
theorem dX10_meet_35 : decode cX10_meet 35 = .ok (.getfield 40, 3) := by decide +kernel
theorem dX10_meet_38 : decode cX10_meet 38 = .ok (.iload_n 2, 1) := by decide +kernel
theorem dX10_meet_39 : decode cX10_meet 39 = .ok (.iconst 1, 1) := by decide +kernel
theorem dX10_meet_40 : decode cX10_meet 40 = .ok (.iadd, 1) := by decide +kernel
theorem dX10_meet_41 : decode cX10_meet 41 = .ok (.iaload, 1) := by decide +kernel
theorem dX10_meet_42 : decode cX10_meet 42 = .ok (.invokevirtual 96, 3) := by decide +kernel
theorem dX10_meet_45 : decode cX10_meet 45 = .ok (.istore 4, 2) := by decide +kernel
theorem dX10_meet_47 : decode cX10_meet 47 = .ok (.iload_n 3, 1) := by decide +kernel
theorem dX10_meet_48 : decode cX10_meet 48 = .ok (.ifCond .ne 29, 3) := by decide +kernel
theorem dX10_meet_51 : decode cX10_meet 51 = .ok (.iload 4, 2) := by decide +kernel
theorem dX10_meet_53 : decode cX10_meet 53 = .ok (.ifCond .ne 24, 3) := by decide +kernel
theorem dX10_meet_56 : decode cX10_meet 56 = .ok (.aload_n 0, 1) := by decide +kernel
theorem dX10_meet_57 : decode cX10_meet 57 = .ok (.iload_n 1, 1) := by decide +kernel
theorem dX10_meet_58 : decode cX10_meet 58 = .ok (.iload_n 2, 1) := by decide +kernel
theorem dX10_meet_59 : decode cX10_meet 59 = .ok (.invokevirtual 123, 3) := by decide +kernel
theorem dX10_meet_62 : decode cX10_meet 62 = .ok (.istore 5, 2) := by decide +kernel
theorem dX10_meet_64 : decode cX10_meet 64 = .ok (.iload 5, 2) := by decide +kernel
theorem dX10_meet_66 : decode cX10_meet 66 = .ok (.iconst 2, 1) := by decide +kernel
theorem dX10_meet_67 : decode cX10_meet 67 = .ok (.if_icmp .ne 7, 3) := by decide +kernel
theorem dX10_meet_70 : decode cX10_meet 70 = .ok (.iconst 3, 1) := by decide +kernel
theorem dX10_meet_71 : decode cX10_meet 71 = .ok (.goto 5, 3) := by decide +kernel
theorem dX10_meet_74 : decode cX10_meet 74 = .ok (.iload 5, 2) := by decide +kernel
theorem dX10_meet_76 : decode cX10_meet 76 = .ok (.ireturn, 1) := by decide +kernel
theorem dX10_meet_77 : decode cX10_meet 77 = .ok (.iload_n 3, 1) := by decide +kernel
theorem dX10_meet_78 : decode cX10_meet 78 = .ok (.iload 4, 2) := by decide +kernel
theorem dX10_meet_80 : decode cX10_meet 80 = .ok (.imul, 1) := by decide +kernel
theorem dX10_meet_81 : decode cX10_meet 81 = .ok (.ifCond .ge 53, 3) := by decide +kernel
theorem dX10_meet_84 : decode cX10_meet 84 = .ok (.aload_n 0, 1) := by decide +kernel
theorem dX10_meet_85 : decode cX10_meet 85 = .ok (.iload_n 2, 1) := by decide +kernel
theorem dX10_meet_86 : decode cX10_meet 86 = .ok (.iload_n 2, 1) := by decide +kernel
theorem dX10_meet_87 : decode cX10_meet 87 = .ok (.iconst 1, 1) := by decide +kernel
theorem dX10_meet_88 : decode cX10_meet 88 = .ok (.iadd, 1) := by decide +kernel
theorem dX10_meet_89 : decode cX10_meet 89 = .ok (.aload_n 0, 1) := by decide +kernel
theorem dX10_meet_90 : decode cX10_meet 90 = .ok (.getfield 37, 3) := by decide +kernel
theorem dX10_meet_93 : decode cX10_meet 93 = .ok (.iload_n 1, 1) := by decide +kernel
theorem dX10_meet_94 : decode cX10_meet 94 = .ok (.iaload, 1) := by decide +kernel
theorem dX10_meet_95 : decode cX10_meet 95 = .ok (.aload_n 0, 1) := by decide +kernel
theorem dX10_meet_96 : decode cX10_meet 96 = .ok (.getfield 40, 3) := by decide +kernel
theorem dX10_meet_99 : decode cX10_meet 99 = .ok (.iload_n 1, 1) := by decide +kernel
theorem dX10_meet_100 : decode cX10_meet 100 = .ok (.iaload, 1) := by decide +kernel
theorem dX10_meet_101 : decode cX10_meet 101 = .ok (.invokevirtual 96, 3) := by decide +kernel
theorem dX10_meet_104 : decode cX10_meet 104 = .ok (.aload_n 0, 1) := by decide +kernel
theorem dX10_meet_105 : decode cX10_meet 105 = .ok (.iload_n 2, 1) := by decide +kernel
theorem dX10_meet_106 : decode cX10_meet 106 = .ok (.iload_n 2, 1) := by decide +kernel
theorem dX10_meet_107 : decode cX10_meet 107 = .ok (.iconst 1, 1) := by decide +kernel
theorem dX10_meet_108 : decode cX10_meet 108 = .ok (.iadd, 1) := by decide +kernel
theorem dX10_meet_109 : decode cX10_meet 109 = .ok (.aload_n 0, 1) := by decide +kernel
theorem dX10_meet_110 : decode cX10_meet 110 = .ok (.getfield 37, 3) := by decide +kernel
theorem dX10_meet_113 : decode cX10_meet 113 = .ok (.iload_n 1, 1) := by decide +kernel
theorem dX10_meet_114 : decode cX10_meet 114 = .ok (.iconst 1, 1) := by decide +kernel
theorem dX10_meet_115 : decode cX10_meet 115 = .ok (.iadd, 1) := by decide +kernel
theorem dX10_meet_116 : decode cX10_meet 116 = .ok (.iaload, 1) := by decide +kernel
theorem dX10_meet_117 : decode cX10_meet 117 = .ok (.aload_n 0, 1) := by decide +kernel
theorem dX10_meet_118 : decode cX10_meet 118 = .ok (.getfield 40, 3) := by decide +kernel
theorem dX10_meet_121 : decode cX10_meet 121 = .ok (.iload_n 1, 1) := by decide +kernel
theorem dX10_meet_122 : decode cX10_meet 122 = .ok (.iconst 1, 1) := by decide +kernel
theorem dX10_meet_123 : decode cX10_meet 123 = .ok (.iadd, 1) := by decide +kernel
theorem dX10_meet_124 : decode cX10_meet 124 = .ok (.iaload, 1) := by decide +kernel
theorem dX10_meet_125 : decode cX10_meet 125 = .ok (.invokevirtual 96, 3) := by decide +kernel
theorem dX10_meet_128 : decode cX10_meet 128 = .ok (.imul, 1) := by decide +kernel
theorem dX10_meet_129 : decode cX10_meet 129 = .ok (.ifCond .ge 5, 3) := by decide +kernel
theorem dX10_meet_132 : decode cX10_meet 132 = .ok (.iconst 2, 1) := by decide +kernel
theorem dX10_meet_133 : decode cX10_meet 133 = .ok (.ireturn, 1) := by decide +kernel
theorem dX10_meet_134 : decode cX10_meet 134 = .ok (.aload_n 0, 1) := by decide +kernel
theorem dX10_meet_135 : decode cX10_meet 135 = .ok (.iload_n 1, 1) := by decide +kernel
theorem dX10_meet_136 : decode cX10_meet 136 = .ok (.iload_n 2, 1) := by decide +kernel
theorem dX10_meet_137 : decode cX10_meet 137 = .ok (.invokevirtual 126, 3) := by decide +kernel
theorem dX10_meet_140 : decode cX10_meet 140 = .ok (.ifCond .ne 34, 3) := by decide +kernel
theorem dX10_meet_143 : decode cX10_meet 143 = .ok (.aload_n 0, 1) := by decide +kernel
theorem dX10_meet_144 : decode cX10_meet 144 = .ok (.iload_n 1, 1) := by decide +kernel
theorem dX10_meet_145 : decode cX10_meet 145 = .ok (.iconst 1, 1) := by decide +kernel
theorem dX10_meet_146 : decode cX10_meet 146 = .ok (.iadd, 1) := by decide +kernel
theorem dX10_meet_147 : decode cX10_meet 147 = .ok (.iload_n 2, 1) := by decide +kernel
theorem dX10_meet_148 : decode cX10_meet 148 = .ok (.invokevirtual 126, 3) := by decide +kernel
theorem dX10_meet_151 : decode cX10_meet 151 = .ok (.ifCond .ne 23, 3) := by decide +kernel
theorem dX10_meet_154 : decode cX10_meet 154 = .ok (.aload_n 0, 1) := by decide +kernel
theorem dX10_meet_155 : decode cX10_meet 155 = .ok (.iload_n 2, 1) := by decide +kernel
theorem dX10_meet_156 : decode cX10_meet 156 = .ok (.iload_n 1, 1) := by decide +kernel
theorem dX10_meet_157 : decode cX10_meet 157 = .ok (.invokevirtual 126, 3) := by decide +kernel
theorem dX10_meet_160 : decode cX10_meet 160 = .ok (.ifCond .ne 14, 3) := by decide +kernel
theorem dX10_meet_163 : decode cX10_meet 163 = .ok (.aload_n 0, 1) := by decide +kernel
theorem dX10_meet_164 : decode cX10_meet 164 = .ok (.iload_n 2, 1) := by decide +kernel
theorem dX10_meet_165 : decode cX10_meet 165 = .ok (.iconst 1, 1) := by decide +kernel
theorem dX10_meet_166 : decode cX10_meet 166 = .ok (.iadd, 1) := by decide +kernel
theorem dX10_meet_167 : decode cX10_meet 167 = .ok (.iload_n 1, 1) := by decide +kernel
theorem dX10_meet_168 : decode cX10_meet 168 = .ok (.invokevirtual 126, 3) := by decide +kernel
theorem dX10_meet_171 : decode cX10_meet 171 = .ok (.ifCond .eq 7, 3) := by decide +kernel
theorem dX10_meet_174 : decode cX10_meet 174 = .ok (.iconst 1, 1) := by decide +kernel
theorem dX10_meet_175 : decode cX10_meet 175 = .ok (.goto 4, 3) := by decide +kernel
theorem dX10_meet_178 : decode cX10_meet 178 = .ok (.iconst 0, 1) := by decide +kernel
theorem dX10_meet_179 : decode cX10_meet 179 = .ok (.ireturn, 1) := by decide +kernel
theorem dX10_end_0 : decode cX10_end 0 = .ok (.aload_n 0, 1) := by decide +kernel
theorem dX10_end_1 : decode cX10_end 1 = .ok (.getfield 31, 3) := by decide +kernel
theorem dX10_end_4 : decode cX10_end 4 = .ok (.iload_n 1, 1) := by decide +kernel
theorem dX10_end_5 : decode cX10_end 5 = .ok (.iaload, 1) := by decide +kernel
theorem dX10_end_6 : decode cX10_end 6 = .ok (.aload_n 0, 1) := by decide +kernel
theorem dX10_end_7 : decode cX10_end 7 = .ok (.getfield 34, 3) := by decide +kernel
theorem dX10_end_10 : decode cX10_end 10 = .ok (.iload_n 1, 1) := by decide +kernel
theorem dX10_end_11 : decode cX10_end 11 = .ok (.iaload, 1) := by decide +kernel
theorem dX10_end_12 : decode cX10_end 12 = .ok (.iadd, 1) := by decide +kernel
theorem dX10_end_13 : decode cX10_end 13 = .ok (.iconst 1, 1) := by decide +kernel
theorem dX10_end_14 : decode cX10_end 14 = .ok (.isub, 1) := by decide +kernel
theorem dX10_end_15 : decode cX10_end 15 = .ok (.ireturn, 1) := by decide +kernel
theorem dX10_next_0 : decode cX10_next 0 = .ok (.iload_n 2, 1) := by decide +kernel
theorem dX10_next_1 : decode cX10_next 1 = .ok (.iconst 1, 1) := by decide +kernel
theorem dX10_next_2 : decode cX10_next 2 = .ok (.iadd, 1) := by decide +kernel
theorem dX10_next_3 : decode cX10_next 3 = .ok (.istore_n 3, 1) := by decide +kernel
theorem dX10_next_4 : decode cX10_next 4 = .ok (.iconst 0, 1) := by decide +kernel
theorem dX10_next_5 : decode cX10_next 5 = .ok (.istore 4, 2) := by decide +kernel
theorem dX10_next_7 : decode cX10_next 7 = .ok (.iload 4, 2) := by decide +kernel
theorem dX10_next_9 : decode cX10_next 9 = .ok (.aload_n 0, 1) := by decide +kernel
theorem dX10_next_10 : decode cX10_next 10 = .ok (.getfield 34, 3) := by decide +kernel
theorem dX10_next_13 : decode cX10_next 13 = .ok (.iload_n 1, 1) := by decide +kernel
theorem dX10_next_14 : decode cX10_next 14 = .ok (.iaload, 1) := by decide +kernel
theorem dX10_next_15 : decode cX10_next 15 = .ok (.if_icmp .ge 42, 3) := by decide +kernel
theorem dX10_next_18 : decode cX10_next 18 = .ok (.iload_n 3, 1) := by decide +kernel
theorem dX10_next_19 : decode cX10_next 19 = .ok (.aload_n 0, 1) := by decide +kernel
theorem dX10_next_20 : decode cX10_next 20 = .ok (.iload_n 1, 1) := by decide +kernel
theorem dX10_next_21 : decode cX10_next 21 = .ok (.invokevirtual 129, 3) := by decide +kernel
theorem dX10_next_24 : decode cX10_next 24 = .ok (.if_icmp .lt 12, 3) := by decide +kernel
theorem dX10_next_27 : decode cX10_next 27 = .ok (.aload_n 0, 1) := by decide +kernel
theorem dX10_next_28 : decode cX10_next 28 = .ok (.getfield 31, 3) := by decide +kernel
theorem dX10_next_31 : decode cX10_next 31 = .ok (.iload_n 1, 1) := by decide +kernel
theorem dX10_next_32 : decode cX10_next 32 = .ok (.iaload, 1) := by decide +kernel
theorem dX10_next_33 : decode cX10_next 33 = .ok (.goto 4, 3) := by decide +kernel
theorem dX10_next_36 : decode cX10_next 36 = .ok (.iload_n 3, 1) := by decide +kernel
theorem dX10_next_37 : decode cX10_next 37 = .ok (.istore_n 3, 1) := by decide +kernel
theorem dX10_next_38 : decode cX10_next 38 = .ok (.aload_n 0, 1) := by decide +kernel
theorem dX10_next_39 : decode cX10_next 39 = .ok (.iload_n 3, 1) := by decide +kernel
theorem dX10_next_40 : decode cX10_next 40 = .ok (.invokevirtual 132, 3) := by decide +kernel
theorem dX10_next_43 : decode cX10_next 43 = .ok (.ifCond .eq 5, 3) := by decide +kernel
theorem dX10_next_46 : decode cX10_next 46 = .ok (.iload_n 3, 1) := by decide +kernel
theorem dX10_next_47 : decode cX10_next 47 = .ok (.ireturn, 1) := by decide +kernel
theorem dX10_next_48 : decode cX10_next 48 = .ok (.iinc 3 1, 3) := by decide +kernel
theorem dX10_next_51 : decode cX10_next 51 = .ok (.iinc 4 1, 3) := by decide +kernel
theorem dX10_next_54 : decode cX10_next 54 = .ok (.goto (-47), 3) := by decide +kernel
theorem dX10_next_57 : decode cX10_next 57 = .ok (.iload_n 2, 1) := by decide +kernel
theorem dX10_next_58 : decode cX10_next 58 = .ok (.ireturn, 1) := by decide +kernel
theorem dX10_isOnRing_0 : decode cX10_isOnRing 0 = .ok (.iconst 0, 1) := by decide +kernel
theorem dX10_isOnRing_1 : decode cX10_isOnRing 1 = .ok (.istore 4, 2) := by decide +kernel
theorem dX10_isOnRing_3 : decode cX10_isOnRing 3 = .ok (.aload_n 0, 1) := by decide +kernel
theorem dX10_isOnRing_4 : decode cX10_isOnRing 4 = .ok (.getfield 31, 3) := by decide +kernel
theorem dX10_isOnRing_7 : decode cX10_isOnRing 7 = .ok (.iload_n 3, 1) := by decide +kernel
theorem dX10_isOnRing_8 : decode cX10_isOnRing 8 = .ok (.iaload, 1) := by decide +kernel
theorem dX10_isOnRing_9 : decode cX10_isOnRing 9 = .ok (.istore 5, 2) := by decide +kernel
theorem dX10_isOnRing_11 : decode cX10_isOnRing 11 = .ok (.iload 5, 2) := by decide +kernel
theorem dX10_isOnRing_13 : decode cX10_isOnRing 13 = .ok (.aload_n 0, 1) := by decide +kernel
theorem dX10_isOnRing_14 : decode cX10_isOnRing 14 = .ok (.iload_n 3, 1) := by decide +kernel
theorem dX10_isOnRing_15 : decode cX10_isOnRing 15 = .ok (.invokevirtual 129, 3) := by decide +kernel
theorem dX10_isOnRing_18 : decode cX10_isOnRing 18 = .ok (.if_icmp .ge 41, 3) := by decide +kernel
theorem dX10_isOnRing_21 : decode cX10_isOnRing 21 = .ok (.iload 4, 2) := by decide +kernel
theorem dX10_isOnRing_23 : decode cX10_isOnRing 23 = .ok (.ifCond .ne 36, 3) := by decide +kernel
theorem dX10_isOnRing_26 : decode cX10_isOnRing 26 = .ok (.aload_n 0, 1) := by decide +kernel
theorem dX10_isOnRing_27 : decode cX10_isOnRing 27 = .ok (.iload 5, 2) := by decide +kernel
theorem dX10_isOnRing_29 : decode cX10_isOnRing 29 = .ok (.invokevirtual 132, 3) := by decide +kernel
theorem dX10_isOnRing_32 : decode cX10_isOnRing 32 = .ok (.ifCond .eq 18, 3) := by decide +kernel
theorem dX10_isOnRing_35 : decode cX10_isOnRing 35 = .ok (.aload_n 0, 1) := by decide +kernel
theorem dX10_isOnRing_36 : decode cX10_isOnRing 36 = .ok (.iload_n 1, 1) := by decide +kernel
theorem dX10_isOnRing_37 : decode cX10_isOnRing 37 = .ok (.iload_n 2, 1) := by decide +kernel
theorem dX10_isOnRing_38 : decode cX10_isOnRing 38 = .ok (.iload 5, 2) := by decide +kernel
theorem dX10_isOnRing_40 : decode cX10_isOnRing 40 = .ok (.invokevirtual 120, 3) := by decide +kernel
theorem dX10_isOnRing_43 : decode cX10_isOnRing 43 = .ok (.ifCond .eq 7, 3) := by decide +kernel
theorem dX10_isOnRing_46 : decode cX10_isOnRing 46 = .ok (.iconst 1, 1) := by decide +kernel
theorem dX10_isOnRing_47 : decode cX10_isOnRing 47 = .ok (.goto 4, 3) := by decide +kernel
theorem dX10_isOnRing_50 : decode cX10_isOnRing 50 = .ok (.iconst 0, 1) := by decide +kernel
theorem dX10_isOnRing_51 : decode cX10_isOnRing 51 = .ok (.istore 4, 2) := by decide +kernel
theorem dX10_isOnRing_53 : decode cX10_isOnRing 53 = .ok (.iinc 5 1, 3) := by decide +kernel
theorem dX10_isOnRing_56 : decode cX10_isOnRing 56 = .ok (.goto (-45), 3) := by decide +kernel
theorem dX10_isOnRing_59 : decode cX10_isOnRing 59 = .ok (.iload 4, 2) := by decide +kernel
theorem dX10_isOnRing_61 : decode cX10_isOnRing 61 = .ok (.ireturn, 1) := by decide +kernel
theorem dX10_odd_0 : decode cX10_odd 0 = .ok (.iconst 0, 1) := by decide +kernel
theorem dX10_odd_1 : decode cX10_odd 1 = .ok (.istore 6, 2) := by decide +kernel
theorem dX10_odd_3 : decode cX10_odd 3 = .ok (.aload_n 0, 1) := by decide +kernel
theorem dX10_odd_4 : decode cX10_odd 4 = .ok (.getfield 31, 3) := by decide +kernel
theorem dX10_odd_7 : decode cX10_odd 7 = .ok (.iload_n 1, 1) := by decide +kernel
theorem dX10_odd_8 : decode cX10_odd 8 = .ok (.iaload, 1) := by decide +kernel
theorem dX10_odd_9 : decode cX10_odd 9 = .ok (.istore 7, 2) := by decide +kernel
theorem dX10_odd_11 : decode cX10_odd 11 = .ok (.iload 7, 2) := by decide +kernel
theorem dX10_odd_13 : decode cX10_odd 13 = .ok (.aload_n 0, 1) := by decide +kernel
theorem dX10_odd_14 : decode cX10_odd 14 = .ok (.iload_n 1, 1) := by decide +kernel
theorem dX10_odd_15 : decode cX10_odd 15 = .ok (.invokevirtual 129, 3) := by decide +kernel
theorem dX10_odd_18 : decode cX10_odd 18 = .ok (.if_icmp .ge 186, 3) := by decide +kernel
theorem dX10_odd_21 : decode cX10_odd 21 = .ok (.aload_n 0, 1) := by decide +kernel
theorem dX10_odd_22 : decode cX10_odd 22 = .ok (.getfield 40, 3) := by decide +kernel
theorem dX10_odd_25 : decode cX10_odd 25 = .ok (.iload 7, 2) := by decide +kernel
theorem dX10_odd_27 : decode cX10_odd 27 = .ok (.iaload, 1) := by decide +kernel
theorem dX10_odd_28 : decode cX10_odd 28 = .ok (.iload_n 3, 1) := by decide +kernel
theorem dX10_odd_29 : decode cX10_odd 29 = .ok (.if_icmp .gt 19, 3) := by decide +kernel
theorem dX10_odd_32 : decode cX10_odd 32 = .ok (.aload_n 0, 1) := by decide +kernel
theorem dX10_odd_33 : decode cX10_odd 33 = .ok (.getfield 40, 3) := by decide +kernel
theorem dX10_odd_36 : decode cX10_odd 36 = .ok (.iload 7, 2) := by decide +kernel
theorem dX10_odd_38 : decode cX10_odd 38 = .ok (.iaload, 1) := by decide +kernel
theorem dX10_odd_39 : decode cX10_odd 39 = .ok (.iload_n 3, 1) := by decide +kernel
theorem dX10_odd_40 : decode cX10_odd 40 = .ok (.if_icmp .ne 12, 3) := by decide +kernel
theorem dX10_odd_43 : decode cX10_odd 43 = .ok (.iload 5, 2) := by decide +kernel
theorem dX10_odd_45 : decode cX10_odd 45 = .ok (.ifCond .ge 7, 3) := by decide +kernel
theorem dX10_odd_48 : decode cX10_odd 48 = .ok (.iconst 1, 1) := by decide +kernel
theorem dX10_odd_49 : decode cX10_odd 49 = .ok (.goto 4, 3) := by decide +kernel
theorem dX10_odd_52 : decode cX10_odd 52 = .ok (.iconst 0, 1) := by decide +kernel
theorem dX10_odd_53 : decode cX10_odd 53 = .ok (.istore 8, 2) := by decide +kernel
theorem dX10_odd_55 : decode cX10_odd 55 = .ok (.aload_n 0, 1) := by decide +kernel
theorem dX10_odd_56 : decode cX10_odd 56 = .ok (.getfield 40, 3) := by decide +kernel
theorem dX10_odd_59 : decode cX10_odd 59 = .ok (.iload 7, 2) := by decide +kernel
theorem dX10_odd_61 : decode cX10_odd 61 = .ok (.iconst 1, 1) := by decide +kernel
theorem dX10_odd_62 : decode cX10_odd 62 = .ok (.iadd, 1) := by decide +kernel
theorem dX10_odd_63 : decode cX10_odd 63 = .ok (.iaload, 1) := by decide +kernel
theorem dX10_odd_64 : decode cX10_odd 64 = .ok (.iload_n 3, 1) := by decide +kernel
theorem dX10_odd_65 : decode cX10_odd 65 = .ok (.if_icmp .gt 21, 3) := by decide +kernel
theorem dX10_odd_68 : decode cX10_odd 68 = .ok (.aload_n 0, 1) := by decide +kernel
theorem dX10_odd_69 : decode cX10_odd 69 = .ok (.getfield 40, 3) := by decide +kernel
theorem dX10_odd_72 : decode cX10_odd 72 = .ok (.iload 7, 2) := by decide +kernel
theorem dX10_odd_74 : decode cX10_odd 74 = .ok (.iconst 1, 1) := by decide +kernel
theorem dX10_odd_75 : decode cX10_odd 75 = .ok (.iadd, 1) := by decide +kernel
theorem dX10_odd_76 : decode cX10_odd 76 = .ok (.iaload, 1) := by decide +kernel
theorem dX10_odd_77 : decode cX10_odd 77 = .ok (.iload_n 3, 1) := by decide +kernel
theorem dX10_odd_78 : decode cX10_odd 78 = .ok (.if_icmp .ne 12, 3) := by decide +kernel
theorem dX10_odd_81 : decode cX10_odd 81 = .ok (.iload 5, 2) := by decide +kernel
theorem dX10_odd_83 : decode cX10_odd 83 = .ok (.ifCond .ge 7, 3) := by decide +kernel
theorem dX10_odd_86 : decode cX10_odd 86 = .ok (.iconst 1, 1) := by decide +kernel
theorem dX10_odd_87 : decode cX10_odd 87 = .ok (.goto 4, 3) := by decide +kernel
theorem dX10_odd_90 : decode cX10_odd 90 = .ok (.iconst 0, 1) := by decide +kernel
theorem dX10_odd_91 : decode cX10_odd 91 = .ok (.istore 9, 2) := by decide +kernel
theorem dX10_odd_93 : decode cX10_odd 93 = .ok (.iload 8, 2) := by decide +kernel
theorem dX10_odd_95 : decode cX10_odd 95 = .ok (.iload 9, 2) := by decide +kernel
theorem dX10_odd_97 : decode cX10_odd 97 = .ok (.if_icmp .eq 101, 3) := by decide +kernel
theorem dX10_odd_100 : decode cX10_odd 100 = .ok (.aload_n 0, 1) := by decide +kernel
theorem dX10_odd_101 : decode cX10_odd 101 = .ok (.iload 7, 2) := by decide +kernel
theorem dX10_odd_103 : decode cX10_odd 103 = .ok (.iload 7, 2) := by decide +kernel
theorem dX10_odd_105 : decode cX10_odd 105 = .ok (.iconst 1, 1) := by decide +kernel
theorem dX10_odd_106 : decode cX10_odd 106 = .ok (.iadd, 1) := by decide +kernel
theorem dX10_odd_107 : decode cX10_odd 107 = .ok (.iload_n 2, 1) := by decide +kernel
theorem dX10_odd_108 : decode cX10_odd 108 = .ok (.iload_n 3, 1) := by decide +kernel
theorem dX10_odd_109 : decode cX10_odd 109 = .ok (.invokevirtual 96, 3) := by decide +kernel
theorem dX10_odd_112 : decode cX10_odd 112 = .ok (.istore 10, 2) := by decide +kernel
theorem dX10_odd_114 : decode cX10_odd 114 = .ok (.iload 10, 2) := by decide +kernel
theorem dX10_odd_116 : decode cX10_odd 116 = .ok (.ifCond .ne 55, 3) := by decide +kernel
theorem dX10_odd_119 : decode cX10_odd 119 = .ok (.aload_n 0, 1) := by decide +kernel
theorem dX10_odd_120 : decode cX10_odd 120 = .ok (.getfield 37, 3) := by decide +kernel
theorem dX10_odd_123 : decode cX10_odd 123 = .ok (.iload 7, 2) := by decide +kernel
theorem dX10_odd_125 : decode cX10_odd 125 = .ok (.iconst 1, 1) := by decide +kernel
theorem dX10_odd_126 : decode cX10_odd 126 = .ok (.iadd, 1) := by decide +kernel
theorem dX10_odd_127 : decode cX10_odd 127 = .ok (.iaload, 1) := by decide +kernel
theorem dX10_odd_128 : decode cX10_odd 128 = .ok (.i2l, 1) := by decide +kernel
theorem dX10_odd_129 : decode cX10_odd 129 = .ok (.aload_n 0, 1) := by decide +kernel
theorem dX10_odd_130 : decode cX10_odd 130 = .ok (.getfield 37, 3) := by decide +kernel
theorem dX10_odd_133 : decode cX10_odd 133 = .ok (.iload 7, 2) := by decide +kernel
theorem dX10_odd_135 : decode cX10_odd 135 = .ok (.iaload, 1) := by decide +kernel
theorem dX10_odd_136 : decode cX10_odd 136 = .ok (.i2l, 1) := by decide +kernel
theorem dX10_odd_137 : decode cX10_odd 137 = .ok (.lsub, 1) := by decide +kernel
theorem dX10_odd_138 : decode cX10_odd 138 = .ok (.iload 5, 2) := by decide +kernel
theorem dX10_odd_140 : decode cX10_odd 140 = .ok (.i2l, 1) := by decide +kernel
theorem dX10_odd_141 : decode cX10_odd 141 = .ok (.lmul, 1) := by decide +kernel
theorem dX10_odd_142 : decode cX10_odd 142 = .ok (.aload_n 0, 1) := by decide +kernel
theorem dX10_odd_143 : decode cX10_odd 143 = .ok (.getfield 40, 3) := by decide +kernel
theorem dX10_odd_146 : decode cX10_odd 146 = .ok (.iload 7, 2) := by decide +kernel
theorem dX10_odd_148 : decode cX10_odd 148 = .ok (.iconst 1, 1) := by decide +kernel
theorem dX10_odd_149 : decode cX10_odd 149 = .ok (.iadd, 1) := by decide +kernel
theorem dX10_odd_150 : decode cX10_odd 150 = .ok (.iaload, 1) := by decide +kernel
theorem dX10_odd_151 : decode cX10_odd 151 = .ok (.i2l, 1) := by decide +kernel
theorem dX10_odd_152 : decode cX10_odd 152 = .ok (.aload_n 0, 1) := by decide +kernel
theorem dX10_odd_153 : decode cX10_odd 153 = .ok (.getfield 40, 3) := by decide +kernel
theorem dX10_odd_156 : decode cX10_odd 156 = .ok (.iload 7, 2) := by decide +kernel
theorem dX10_odd_158 : decode cX10_odd 158 = .ok (.iaload, 1) := by decide +kernel
theorem dX10_odd_159 : decode cX10_odd 159 = .ok (.i2l, 1) := by decide +kernel
theorem dX10_odd_160 : decode cX10_odd 160 = .ok (.lsub, 1) := by decide +kernel
theorem dX10_odd_161 : decode cX10_odd 161 = .ok (.iload 4, 2) := by decide +kernel
theorem dX10_odd_163 : decode cX10_odd 163 = .ok (.i2l, 1) := by decide +kernel
theorem dX10_odd_164 : decode cX10_odd 164 = .ok (.lmul, 1) := by decide +kernel
theorem dX10_odd_165 : decode cX10_odd 165 = .ok (.lsub, 1) := by decide +kernel
theorem dX10_odd_166 : decode cX10_odd 166 = .ok (.invokestatic 92, 3) := by decide +kernel
theorem dX10_odd_169 : decode cX10_odd 169 = .ok (.istore 10, 2) := by decide +kernel
theorem dX10_odd_171 : decode cX10_odd 171 = .ok (.iload 10, 2) := by decide +kernel
theorem dX10_odd_173 : decode cX10_odd 173 = .ok (.ifCond .le 7, 3) := by decide +kernel
theorem dX10_odd_176 : decode cX10_odd 176 = .ok (.iconst 1, 1) := by decide +kernel
theorem dX10_odd_177 : decode cX10_odd 177 = .ok (.goto 4, 3) := by decide +kernel
theorem dX10_odd_180 : decode cX10_odd 180 = .ok (.iconst 0, 1) := by decide +kernel
theorem dX10_odd_181 : decode cX10_odd 181 = .ok (.iload 9, 2) := by decide +kernel
theorem dX10_odd_183 : decode cX10_odd 183 = .ok (.if_icmp .ne 15, 3) := by decide +kernel
theorem dX10_odd_186 : decode cX10_odd 186 = .ok (.iload 6, 2) := by decide +kernel
theorem dX10_odd_188 : decode cX10_odd 188 = .ok (.ifCond .ne 7, 3) := by decide +kernel
theorem dX10_odd_191 : decode cX10_odd 191 = .ok (.iconst 1, 1) := by decide +kernel
theorem dX10_odd_192 : decode cX10_odd 192 = .ok (.goto 4, 3) := by decide +kernel
theorem dX10_odd_195 : decode cX10_odd 195 = .ok (.iconst 0, 1) := by decide +kernel
theorem dX10_odd_196 : decode cX10_odd 196 = .ok (.istore 6, 2) := by decide +kernel
theorem dX10_odd_198 : decode cX10_odd 198 = .ok (.iinc 7 1, 3) := by decide +kernel
theorem dX10_odd_201 : decode cX10_odd 201 = .ok (.goto (-190), 3) := by decide +kernel
theorem dX10_odd_204 : decode cX10_odd 204 = .ok (.iload 6, 2) := by decide +kernel
theorem dX10_odd_206 : decode cX10_odd 206 = .ok (.ireturn, 1) := by decide +kernel
theorem dX10_liesIn_0 : decode cX10_liesIn 0 = .ok (.iconst (-1), 1) := by decide +kernel
theorem dX10_liesIn_1 : decode cX10_liesIn 1 = .ok (.istore_n 3, 1) := by decide +kernel
theorem dX10_liesIn_2 : decode cX10_liesIn 2 = .ok (.aload_n 0, 1) := by decide +kernel
theorem dX10_liesIn_3 : decode cX10_liesIn 3 = .ok (.getfield 31, 3) := by decide +kernel
theorem dX10_liesIn_6 : decode cX10_liesIn 6 = .ok (.iload_n 1, 1) := by decide +kernel
theorem dX10_liesIn_7 : decode cX10_liesIn 7 = .ok (.iaload, 1) := by decide +kernel
theorem dX10_liesIn_8 : decode cX10_liesIn 8 = .ok (.istore 4, 2) := by decide +kernel
theorem dX10_liesIn_10 : decode cX10_liesIn 10 = .ok (.iload 4, 2) := by decide +kernel
theorem dX10_liesIn_12 : decode cX10_liesIn 12 = .ok (.aload_n 0, 1) := by decide +kernel
theorem dX10_liesIn_13 : decode cX10_liesIn 13 = .ok (.iload_n 1, 1) := by decide +kernel
theorem dX10_liesIn_14 : decode cX10_liesIn 14 = .ok (.invokevirtual 129, 3) := by decide +kernel
theorem dX10_liesIn_17 : decode cX10_liesIn 17 = .ok (.if_icmp .ge 73, 3) := by decide +kernel
theorem dX10_liesIn_20 : decode cX10_liesIn 20 = .ok (.aload_n 0, 1) := by decide +kernel
theorem dX10_liesIn_21 : decode cX10_liesIn 21 = .ok (.iload 4, 2) := by decide +kernel
theorem dX10_liesIn_23 : decode cX10_liesIn 23 = .ok (.invokevirtual 132, 3) := by decide +kernel
theorem dX10_liesIn_26 : decode cX10_liesIn 26 = .ok (.ifCond .eq 58, 3) := by decide +kernel
theorem dX10_liesIn_29 : decode cX10_liesIn 29 = .ok (.aload_n 0, 1) := by decide +kernel
theorem dX10_liesIn_30 : decode cX10_liesIn 30 = .ok (.aload_n 0, 1) := by decide +kernel
theorem dX10_liesIn_31 : decode cX10_liesIn 31 = .ok (.getfield 37, 3) := by decide +kernel
theorem dX10_liesIn_34 : decode cX10_liesIn 34 = .ok (.iload 4, 2) := by decide +kernel
theorem dX10_liesIn_36 : decode cX10_liesIn 36 = .ok (.iaload, 1) := by decide +kernel
theorem dX10_liesIn_37 : decode cX10_liesIn 37 = .ok (.aload_n 0, 1) := by decide +kernel
theorem dX10_liesIn_38 : decode cX10_liesIn 38 = .ok (.getfield 40, 3) := by decide +kernel
theorem dX10_liesIn_41 : decode cX10_liesIn 41 = .ok (.iload 4, 2) := by decide +kernel
theorem dX10_liesIn_43 : decode cX10_liesIn 43 = .ok (.iaload, 1) := by decide +kernel
theorem dX10_liesIn_44 : decode cX10_liesIn 44 = .ok (.iload_n 2, 1) := by decide +kernel
theorem dX10_liesIn_45 : decode cX10_liesIn 45 = .ok (.invokevirtual 135, 3) := by decide +kernel
theorem dX10_liesIn_48 : decode cX10_liesIn 48 = .ok (.ifCond .ne 25, 3) := by decide +kernel
theorem dX10_liesIn_51 : decode cX10_liesIn 51 = .ok (.aload_n 0, 1) := by decide +kernel
theorem dX10_liesIn_52 : decode cX10_liesIn 52 = .ok (.iload_n 2, 1) := by decide +kernel
theorem dX10_liesIn_53 : decode cX10_liesIn 53 = .ok (.aload_n 0, 1) := by decide +kernel
theorem dX10_liesIn_54 : decode cX10_liesIn 54 = .ok (.getfield 37, 3) := by decide +kernel
theorem dX10_liesIn_57 : decode cX10_liesIn 57 = .ok (.iload 4, 2) := by decide +kernel
theorem dX10_liesIn_59 : decode cX10_liesIn 59 = .ok (.iaload, 1) := by decide +kernel
theorem dX10_liesIn_60 : decode cX10_liesIn 60 = .ok (.aload_n 0, 1) := by decide +kernel
theorem dX10_liesIn_61 : decode cX10_liesIn 61 = .ok (.getfield 40, 3) := by decide +kernel
theorem dX10_liesIn_64 : decode cX10_liesIn 64 = .ok (.iload 4, 2) := by decide +kernel
theorem dX10_liesIn_66 : decode cX10_liesIn 66 = .ok (.iaload, 1) := by decide +kernel
theorem dX10_liesIn_67 : decode cX10_liesIn 67 = .ok (.iconst 0, 1) := by decide +kernel
theorem dX10_liesIn_68 : decode cX10_liesIn 68 = .ok (.iconst 0, 1) := by decide +kernel
theorem dX10_liesIn_69 : decode cX10_liesIn 69 = .ok (.invokevirtual 138, 3) := by decide +kernel
theorem dX10_liesIn_72 : decode cX10_liesIn 72 = .ok (.ireturn, 1) := by decide +kernel
theorem dX10_liesIn_73 : decode cX10_liesIn 73 = .ok (.iload_n 3, 1) := by decide +kernel
theorem dX10_liesIn_74 : decode cX10_liesIn 74 = .ok (.ifCond .ge 8, 3) := by decide +kernel
theorem dX10_liesIn_77 : decode cX10_liesIn 77 = .ok (.iload 4, 2) := by decide +kernel
theorem dX10_liesIn_79 : decode cX10_liesIn 79 = .ok (.goto 4, 3) := by decide +kernel
theorem dX10_liesIn_82 : decode cX10_liesIn 82 = .ok (.iload_n 3, 1) := by decide +kernel
theorem dX10_liesIn_83 : decode cX10_liesIn 83 = .ok (.istore_n 3, 1) := by decide +kernel
theorem dX10_liesIn_84 : decode cX10_liesIn 84 = .ok (.iinc 4 1, 3) := by decide +kernel
theorem dX10_liesIn_87 : decode cX10_liesIn 87 = .ok (.goto (-77), 3) := by decide +kernel
theorem dX10_liesIn_90 : decode cX10_liesIn 90 = .ok (.aload_n 0, 1) := by decide +kernel
theorem dX10_liesIn_91 : decode cX10_liesIn 91 = .ok (.iload_n 2, 1) := by decide +kernel
theorem dX10_liesIn_92 : decode cX10_liesIn 92 = .ok (.aload_n 0, 1) := by decide +kernel
theorem dX10_liesIn_93 : decode cX10_liesIn 93 = .ok (.getfield 37, 3) := by decide +kernel
theorem dX10_liesIn_96 : decode cX10_liesIn 96 = .ok (.iload_n 3, 1) := by decide +kernel
theorem dX10_liesIn_97 : decode cX10_liesIn 97 = .ok (.iaload, 1) := by decide +kernel
theorem dX10_liesIn_98 : decode cX10_liesIn 98 = .ok (.aload_n 0, 1) := by decide +kernel
theorem dX10_liesIn_99 : decode cX10_liesIn 99 = .ok (.getfield 40, 3) := by decide +kernel
theorem dX10_liesIn_102 : decode cX10_liesIn 102 = .ok (.iload_n 3, 1) := by decide +kernel
theorem dX10_liesIn_103 : decode cX10_liesIn 103 = .ok (.iaload, 1) := by decide +kernel
theorem dX10_liesIn_104 : decode cX10_liesIn 104 = .ok (.aload_n 0, 1) := by decide +kernel
theorem dX10_liesIn_105 : decode cX10_liesIn 105 = .ok (.getfield 37, 3) := by decide +kernel
theorem dX10_liesIn_108 : decode cX10_liesIn 108 = .ok (.iload_n 3, 1) := by decide +kernel
theorem dX10_liesIn_109 : decode cX10_liesIn 109 = .ok (.iconst 1, 1) := by decide +kernel
theorem dX10_liesIn_110 : decode cX10_liesIn 110 = .ok (.iadd, 1) := by decide +kernel
theorem dX10_liesIn_111 : decode cX10_liesIn 111 = .ok (.iaload, 1) := by decide +kernel
theorem dX10_liesIn_112 : decode cX10_liesIn 112 = .ok (.aload_n 0, 1) := by decide +kernel
theorem dX10_liesIn_113 : decode cX10_liesIn 113 = .ok (.getfield 37, 3) := by decide +kernel
theorem dX10_liesIn_116 : decode cX10_liesIn 116 = .ok (.iload_n 3, 1) := by decide +kernel
theorem dX10_liesIn_117 : decode cX10_liesIn 117 = .ok (.iaload, 1) := by decide +kernel
theorem dX10_liesIn_118 : decode cX10_liesIn 118 = .ok (.isub, 1) := by decide +kernel
theorem dX10_liesIn_119 : decode cX10_liesIn 119 = .ok (.aload_n 0, 1) := by decide +kernel
theorem dX10_liesIn_120 : decode cX10_liesIn 120 = .ok (.getfield 40, 3) := by decide +kernel
theorem dX10_liesIn_123 : decode cX10_liesIn 123 = .ok (.iload_n 3, 1) := by decide +kernel
theorem dX10_liesIn_124 : decode cX10_liesIn 124 = .ok (.iconst 1, 1) := by decide +kernel
theorem dX10_liesIn_125 : decode cX10_liesIn 125 = .ok (.iadd, 1) := by decide +kernel
theorem dX10_liesIn_126 : decode cX10_liesIn 126 = .ok (.iaload, 1) := by decide +kernel
theorem dX10_liesIn_127 : decode cX10_liesIn 127 = .ok (.aload_n 0, 1) := by decide +kernel
theorem dX10_liesIn_128 : decode cX10_liesIn 128 = .ok (.getfield 40, 3) := by decide +kernel
theorem dX10_liesIn_131 : decode cX10_liesIn 131 = .ok (.iload_n 3, 1) := by decide +kernel
theorem dX10_liesIn_132 : decode cX10_liesIn 132 = .ok (.iaload, 1) := by decide +kernel
theorem dX10_liesIn_133 : decode cX10_liesIn 133 = .ok (.isub, 1) := by decide +kernel
theorem dX10_liesIn_134 : decode cX10_liesIn 134 = .ok (.invokevirtual 138, 3) := by decide +kernel
theorem dX10_liesIn_137 : decode cX10_liesIn 137 = .ok (.ireturn, 1) := by decide +kernel
theorem dX10_isLeft_0 : decode cX10_isLeft 0 = .ok (.iload_n 2, 1) := by decide +kernel
theorem dX10_isLeft_1 : decode cX10_isLeft 1 = .ok (.iload_n 3, 1) := by decide +kernel
theorem dX10_isLeft_2 : decode cX10_isLeft 2 = .ok (.iload 4, 2) := by decide +kernel
theorem dX10_isLeft_4 : decode cX10_isLeft 4 = .ok (.iload 5, 2) := by decide +kernel
theorem dX10_isLeft_6 : decode cX10_isLeft 6 = .ok (.invokestatic 142, 3) := by decide +kernel
theorem dX10_isLeft_9 : decode cX10_isLeft 9 = .ok (.istore 6, 2) := by decide +kernel
theorem dX10_isLeft_11 : decode cX10_isLeft 11 = .ok (.iload_n 2, 1) := by decide +kernel
theorem dX10_isLeft_12 : decode cX10_isLeft 12 = .ok (.iload_n 3, 1) := by decide +kernel
theorem dX10_isLeft_13 : decode cX10_isLeft 13 = .ok (.iload_n 0, 1) := by decide +kernel
theorem dX10_isLeft_14 : decode cX10_isLeft 14 = .ok (.iload_n 1, 1) := by decide +kernel
theorem dX10_isLeft_15 : decode cX10_isLeft 15 = .ok (.invokestatic 142, 3) := by decide +kernel
theorem dX10_isLeft_18 : decode cX10_isLeft 18 = .ok (.istore 7, 2) := by decide +kernel
theorem dX10_isLeft_20 : decode cX10_isLeft 20 = .ok (.iload_n 0, 1) := by decide +kernel
theorem dX10_isLeft_21 : decode cX10_isLeft 21 = .ok (.iload_n 1, 1) := by decide +kernel
theorem dX10_isLeft_22 : decode cX10_isLeft 22 = .ok (.iload 4, 2) := by decide +kernel
theorem dX10_isLeft_24 : decode cX10_isLeft 24 = .ok (.iload 5, 2) := by decide +kernel
theorem dX10_isLeft_26 : decode cX10_isLeft 26 = .ok (.invokestatic 142, 3) := by decide +kernel
theorem dX10_isLeft_29 : decode cX10_isLeft 29 = .ok (.istore 8, 2) := by decide +kernel
theorem dX10_isLeft_31 : decode cX10_isLeft 31 = .ok (.iload 6, 2) := by decide +kernel
theorem dX10_isLeft_33 : decode cX10_isLeft 33 = .ok (.ifCond .le 19, 3) := by decide +kernel
theorem dX10_isLeft_36 : decode cX10_isLeft 36 = .ok (.iload 7, 2) := by decide +kernel
theorem dX10_isLeft_38 : decode cX10_isLeft 38 = .ok (.ifCond .le 12, 3) := by decide +kernel
theorem dX10_isLeft_41 : decode cX10_isLeft 41 = .ok (.iload 8, 2) := by decide +kernel
theorem dX10_isLeft_43 : decode cX10_isLeft 43 = .ok (.ifCond .le 7, 3) := by decide +kernel
theorem dX10_isLeft_46 : decode cX10_isLeft 46 = .ok (.iconst 1, 1) := by decide +kernel
theorem dX10_isLeft_47 : decode cX10_isLeft 47 = .ok (.goto 4, 3) := by decide +kernel
theorem dX10_isLeft_50 : decode cX10_isLeft 50 = .ok (.iconst 0, 1) := by decide +kernel
theorem dX10_isLeft_51 : decode cX10_isLeft 51 = .ok (.ireturn, 1) := by decide +kernel
theorem dX10_isLeft_52 : decode cX10_isLeft 52 = .ok (.iload 6, 2) := by decide +kernel
theorem dX10_isLeft_54 : decode cX10_isLeft 54 = .ok (.ifCond .ge 19, 3) := by decide +kernel
theorem dX10_isLeft_57 : decode cX10_isLeft 57 = .ok (.iload 7, 2) := by decide +kernel
theorem dX10_isLeft_59 : decode cX10_isLeft 59 = .ok (.ifCond .gt 8, 3) := by decide +kernel
theorem dX10_isLeft_62 : decode cX10_isLeft 62 = .ok (.iload 8, 2) := by decide +kernel
theorem dX10_isLeft_64 : decode cX10_isLeft 64 = .ok (.ifCond .le 7, 3) := by decide +kernel
theorem dX10_isLeft_67 : decode cX10_isLeft 67 = .ok (.iconst 1, 1) := by decide +kernel
theorem dX10_isLeft_68 : decode cX10_isLeft 68 = .ok (.goto 4, 3) := by decide +kernel
theorem dX10_isLeft_71 : decode cX10_isLeft 71 = .ok (.iconst 0, 1) := by decide +kernel
theorem dX10_isLeft_72 : decode cX10_isLeft 72 = .ok (.ireturn, 1) := by decide +kernel
theorem dX10_isLeft_73 : decode cX10_isLeft 73 = .ok (.iload_n 2, 1) := by decide +kernel
theorem dX10_isLeft_74 : decode cX10_isLeft 74 = .ok (.i2l, 1) := by decide +kernel
theorem dX10_isLeft_75 : decode cX10_isLeft 75 = .ok (.invokestatic 92, 3) := by decide +kernel
theorem dX10_isLeft_78 : decode cX10_isLeft 78 = .ok (.iload 4, 2) := by decide +kernel
theorem dX10_isLeft_80 : decode cX10_isLeft 80 = .ok (.i2l, 1) := by decide +kernel
theorem dX10_isLeft_81 : decode cX10_isLeft 81 = .ok (.invokestatic 92, 3) := by decide +kernel
theorem dX10_isLeft_84 : decode cX10_isLeft 84 = .ok (.if_icmp .ne 17, 3) := by decide +kernel
theorem dX10_isLeft_87 : decode cX10_isLeft 87 = .ok (.iload_n 3, 1) := by decide +kernel
theorem dX10_isLeft_88 : decode cX10_isLeft 88 = .ok (.i2l, 1) := by decide +kernel
theorem dX10_isLeft_89 : decode cX10_isLeft 89 = .ok (.invokestatic 92, 3) := by decide +kernel
theorem dX10_isLeft_92 : decode cX10_isLeft 92 = .ok (.iload 5, 2) := by decide +kernel
theorem dX10_isLeft_94 : decode cX10_isLeft 94 = .ok (.i2l, 1) := by decide +kernel
theorem dX10_isLeft_95 : decode cX10_isLeft 95 = .ok (.invokestatic 92, 3) := by decide +kernel
theorem dX10_isLeft_98 : decode cX10_isLeft 98 = .ok (.if_icmp .eq 7, 3) := by decide +kernel
theorem dX10_isLeft_101 : decode cX10_isLeft 101 = .ok (.iconst 1, 1) := by decide +kernel
theorem dX10_isLeft_102 : decode cX10_isLeft 102 = .ok (.goto 4, 3) := by decide +kernel
theorem dX10_isLeft_105 : decode cX10_isLeft 105 = .ok (.iconst 0, 1) := by decide +kernel
theorem dX10_isLeft_106 : decode cX10_isLeft 106 = .ok (.istore 9, 2) := by decide +kernel
theorem dX10_isLeft_108 : decode cX10_isLeft 108 = .ok (.iload 9, 2) := by decide +kernel
theorem dX10_isLeft_110 : decode cX10_isLeft 110 = .ok (.ifCond .eq 12, 3) := by decide +kernel
theorem dX10_isLeft_113 : decode cX10_isLeft 113 = .ok (.iload 7, 2) := by decide +kernel
theorem dX10_isLeft_115 : decode cX10_isLeft 115 = .ok (.ifCond .le 7, 3) := by decide +kernel
theorem dX10_isLeft_118 : decode cX10_isLeft 118 = .ok (.iconst 1, 1) := by decide +kernel
theorem dX10_isLeft_119 : decode cX10_isLeft 119 = .ok (.goto 4, 3) := by decide +kernel
theorem dX10_isLeft_122 : decode cX10_isLeft 122 = .ok (.iconst 0, 1) := by decide +kernel
theorem dX10_isLeft_123 : decode cX10_isLeft 123 = .ok (.ireturn, 1) := by decide +kernel
theorem dX10_ways_0 : decode cX10_ways 0 = .ok (.aload_n 0, 1) := by decide +kernel
theorem dX10_ways_1 : decode cX10_ways 1 = .ok (.aload_n 0, 1) := by decide +kernel
theorem dX10_ways_2 : decode cX10_ways 2 = .ok (.getfield 37, 3) := by decide +kernel
theorem dX10_ways_5 : decode cX10_ways 5 = .ok (.iload_n 2, 1) := by decide +kernel
theorem dX10_ways_6 : decode cX10_ways 6 = .ok (.iaload, 1) := by decide +kernel
theorem dX10_ways_7 : decode cX10_ways 7 = .ok (.aload_n 0, 1) := by decide +kernel
theorem dX10_ways_8 : decode cX10_ways 8 = .ok (.getfield 114, 3) := by decide +kernel
theorem dX10_ways_11 : decode cX10_ways 11 = .ok (.isub, 1) := by decide +kernel
theorem dX10_ways_12 : decode cX10_ways 12 = .ok (.putfield 145, 3) := by decide +kernel
theorem dX10_ways_15 : decode cX10_ways 15 = .ok (.aload_n 0, 1) := by decide +kernel
theorem dX10_ways_16 : decode cX10_ways 16 = .ok (.aload_n 0, 1) := by decide +kernel
theorem dX10_ways_17 : decode cX10_ways 17 = .ok (.getfield 40, 3) := by decide +kernel
theorem dX10_ways_20 : decode cX10_ways 20 = .ok (.iload_n 2, 1) := by decide +kernel
theorem dX10_ways_21 : decode cX10_ways 21 = .ok (.iaload, 1) := by decide +kernel
theorem dX10_ways_22 : decode cX10_ways 22 = .ok (.aload_n 0, 1) := by decide +kernel
theorem dX10_ways_23 : decode cX10_ways 23 = .ok (.getfield 117, 3) := by decide +kernel
theorem dX10_ways_26 : decode cX10_ways 26 = .ok (.isub, 1) := by decide +kernel
theorem dX10_ways_27 : decode cX10_ways 27 = .ok (.putfield 148, 3) := by decide +kernel
theorem dX10_ways_30 : decode cX10_ways 30 = .ok (.aload_n 0, 1) := by decide +kernel
theorem dX10_ways_31 : decode cX10_ways 31 = .ok (.getfield 37, 3) := by decide +kernel
theorem dX10_ways_34 : decode cX10_ways 34 = .ok (.iload_n 2, 1) := by decide +kernel
theorem dX10_ways_35 : decode cX10_ways 35 = .ok (.iconst 1, 1) := by decide +kernel
theorem dX10_ways_36 : decode cX10_ways 36 = .ok (.iadd, 1) := by decide +kernel
theorem dX10_ways_37 : decode cX10_ways 37 = .ok (.iaload, 1) := by decide +kernel
theorem dX10_ways_38 : decode cX10_ways 38 = .ok (.aload_n 0, 1) := by decide +kernel
theorem dX10_ways_39 : decode cX10_ways 39 = .ok (.getfield 114, 3) := by decide +kernel
theorem dX10_ways_42 : decode cX10_ways 42 = .ok (.if_icmp .ne 22, 3) := by decide +kernel
theorem dX10_ways_45 : decode cX10_ways 45 = .ok (.aload_n 0, 1) := by decide +kernel
theorem dX10_ways_46 : decode cX10_ways 46 = .ok (.getfield 40, 3) := by decide +kernel
theorem dX10_ways_49 : decode cX10_ways 49 = .ok (.iload_n 2, 1) := by decide +kernel
theorem dX10_ways_50 : decode cX10_ways 50 = .ok (.iconst 1, 1) := by decide +kernel
theorem dX10_ways_51 : decode cX10_ways 51 = .ok (.iadd, 1) := by decide +kernel
theorem dX10_ways_52 : decode cX10_ways 52 = .ok (.iaload, 1) := by decide +kernel
theorem dX10_ways_53 : decode cX10_ways 53 = .ok (.aload_n 0, 1) := by decide +kernel
theorem dX10_ways_54 : decode cX10_ways 54 = .ok (.getfield 117, 3) := by decide +kernel
theorem dX10_ways_57 : decode cX10_ways 57 = .ok (.if_icmp .ne 7, 3) := by decide +kernel
theorem dX10_ways_60 : decode cX10_ways 60 = .ok (.iconst 1, 1) := by decide +kernel
theorem dX10_ways_61 : decode cX10_ways 61 = .ok (.goto 4, 3) := by decide +kernel
theorem dX10_ways_64 : decode cX10_ways 64 = .ok (.iconst 0, 1) := by decide +kernel
theorem dX10_ways_65 : decode cX10_ways 65 = .ok (.istore_n 3, 1) := by decide +kernel
theorem dX10_ways_66 : decode cX10_ways 66 = .ok (.iload_n 3, 1) := by decide +kernel
theorem dX10_ways_67 : decode cX10_ways 67 = .ok (.ifCond .eq 12, 3) := by decide +kernel
theorem dX10_ways_70 : decode cX10_ways 70 = .ok (.aload_n 0, 1) := by decide +kernel
theorem dX10_ways_71 : decode cX10_ways 71 = .ok (.iload_n 1, 1) := by decide +kernel
theorem dX10_ways_72 : decode cX10_ways 72 = .ok (.iload_n 2, 1) := by decide +kernel
theorem dX10_ways_73 : decode cX10_ways 73 = .ok (.invokevirtual 151, 3) := by decide +kernel
theorem dX10_ways_76 : decode cX10_ways 76 = .ok (.goto 4, 3) := by decide +kernel
theorem dX10_ways_79 : decode cX10_ways 79 = .ok (.iload_n 2, 1) := by decide +kernel
theorem dX10_ways_80 : decode cX10_ways 80 = .ok (.istore 4, 2) := by decide +kernel
theorem dX10_ways_82 : decode cX10_ways 82 = .ok (.aload_n 0, 1) := by decide +kernel
theorem dX10_ways_83 : decode cX10_ways 83 = .ok (.aload_n 0, 1) := by decide +kernel
theorem dX10_ways_84 : decode cX10_ways 84 = .ok (.getfield 37, 3) := by decide +kernel
theorem dX10_ways_87 : decode cX10_ways 87 = .ok (.iload 4, 2) := by decide +kernel
theorem dX10_ways_89 : decode cX10_ways 89 = .ok (.iconst 1, 1) := by decide +kernel
theorem dX10_ways_90 : decode cX10_ways 90 = .ok (.iadd, 1) := by decide +kernel
theorem dX10_ways_91 : decode cX10_ways 91 = .ok (.iaload, 1) := by decide +kernel
theorem dX10_ways_92 : decode cX10_ways 92 = .ok (.aload_n 0, 1) := by decide +kernel
theorem dX10_ways_93 : decode cX10_ways 93 = .ok (.getfield 114, 3) := by decide +kernel
theorem dX10_ways_96 : decode cX10_ways 96 = .ok (.isub, 1) := by decide +kernel
theorem dX10_ways_97 : decode cX10_ways 97 = .ok (.putfield 154, 3) := by decide +kernel
theorem dX10_ways_100 : decode cX10_ways 100 = .ok (.aload_n 0, 1) := by decide +kernel
theorem dX10_ways_101 : decode cX10_ways 101 = .ok (.aload_n 0, 1) := by decide +kernel
theorem dX10_ways_102 : decode cX10_ways 102 = .ok (.getfield 40, 3) := by decide +kernel
theorem dX10_ways_105 : decode cX10_ways 105 = .ok (.iload 4, 2) := by decide +kernel
theorem dX10_ways_107 : decode cX10_ways 107 = .ok (.iconst 1, 1) := by decide +kernel
theorem dX10_ways_108 : decode cX10_ways 108 = .ok (.iadd, 1) := by decide +kernel
theorem dX10_ways_109 : decode cX10_ways 109 = .ok (.iaload, 1) := by decide +kernel
theorem dX10_ways_110 : decode cX10_ways 110 = .ok (.aload_n 0, 1) := by decide +kernel
theorem dX10_ways_111 : decode cX10_ways 111 = .ok (.getfield 117, 3) := by decide +kernel
theorem dX10_ways_114 : decode cX10_ways 114 = .ok (.isub, 1) := by decide +kernel
theorem dX10_ways_115 : decode cX10_ways 115 = .ok (.putfield 157, 3) := by decide +kernel
theorem dX10_ways_118 : decode cX10_ways 118 = .ok (.return_, 1) := by decide +kernel
theorem dX10_crosses_0 : decode cX10_crosses 0 = .ok (.aload_n 0, 1) := by decide +kernel
theorem dX10_crosses_1 : decode cX10_crosses 1 = .ok (.iload_n 3, 1) := by decide +kernel
theorem dX10_crosses_2 : decode cX10_crosses 2 = .ok (.iload 4, 2) := by decide +kernel
theorem dX10_crosses_4 : decode cX10_crosses 4 = .ok (.invokevirtual 160, 3) := by decide +kernel
theorem dX10_crosses_7 : decode cX10_crosses 7 = .ok (.aload_n 0, 1) := by decide +kernel
theorem dX10_crosses_8 : decode cX10_crosses 8 = .ok (.getfield 145, 3) := by decide +kernel
theorem dX10_crosses_11 : decode cX10_crosses 11 = .ok (.istore 5, 2) := by decide +kernel
theorem dX10_crosses_13 : decode cX10_crosses 13 = .ok (.aload_n 0, 1) := by decide +kernel
theorem dX10_crosses_14 : decode cX10_crosses 14 = .ok (.getfield 148, 3) := by decide +kernel
theorem dX10_crosses_17 : decode cX10_crosses 17 = .ok (.istore 6, 2) := by decide +kernel
theorem dX10_crosses_19 : decode cX10_crosses 19 = .ok (.aload_n 0, 1) := by decide +kernel
theorem dX10_crosses_20 : decode cX10_crosses 20 = .ok (.getfield 154, 3) := by decide +kernel
theorem dX10_crosses_23 : decode cX10_crosses 23 = .ok (.istore 7, 2) := by decide +kernel
theorem dX10_crosses_25 : decode cX10_crosses 25 = .ok (.aload_n 0, 1) := by decide +kernel
theorem dX10_crosses_26 : decode cX10_crosses 26 = .ok (.getfield 157, 3) := by decide +kernel
theorem dX10_crosses_29 : decode cX10_crosses 29 = .ok (.istore 8, 2) := by decide +kernel
theorem dX10_crosses_31 : decode cX10_crosses 31 = .ok (.aload_n 0, 1) := by decide +kernel
theorem dX10_crosses_32 : decode cX10_crosses 32 = .ok (.iload_n 1, 1) := by decide +kernel
theorem dX10_crosses_33 : decode cX10_crosses 33 = .ok (.iload_n 2, 1) := by decide +kernel
theorem dX10_crosses_34 : decode cX10_crosses 34 = .ok (.invokevirtual 160, 3) := by decide +kernel
theorem dX10_crosses_37 : decode cX10_crosses 37 = .ok (.iload 5, 2) := by decide +kernel
theorem dX10_crosses_39 : decode cX10_crosses 39 = .ok (.iload 6, 2) := by decide +kernel
theorem dX10_crosses_41 : decode cX10_crosses 41 = .ok (.aload_n 0, 1) := by decide +kernel
theorem dX10_crosses_42 : decode cX10_crosses 42 = .ok (.getfield 154, 3) := by decide +kernel
theorem dX10_crosses_45 : decode cX10_crosses 45 = .ok (.aload_n 0, 1) := by decide +kernel
theorem dX10_crosses_46 : decode cX10_crosses 46 = .ok (.getfield 157, 3) := by decide +kernel
theorem dX10_crosses_49 : decode cX10_crosses 49 = .ok (.aload_n 0, 1) := by decide +kernel
theorem dX10_crosses_50 : decode cX10_crosses 50 = .ok (.getfield 145, 3) := by decide +kernel
theorem dX10_crosses_53 : decode cX10_crosses 53 = .ok (.aload_n 0, 1) := by decide +kernel
theorem dX10_crosses_54 : decode cX10_crosses 54 = .ok (.getfield 148, 3) := by decide +kernel
theorem dX10_crosses_57 : decode cX10_crosses 57 = .ok (.invokestatic 164, 3) := by decide +kernel
theorem dX10_crosses_60 : decode cX10_crosses 60 = .ok (.iload 7, 2) := by decide +kernel
theorem dX10_crosses_62 : decode cX10_crosses 62 = .ok (.iload 8, 2) := by decide +kernel
theorem dX10_crosses_64 : decode cX10_crosses 64 = .ok (.aload_n 0, 1) := by decide +kernel
theorem dX10_crosses_65 : decode cX10_crosses 65 = .ok (.getfield 154, 3) := by decide +kernel
theorem dX10_crosses_68 : decode cX10_crosses 68 = .ok (.aload_n 0, 1) := by decide +kernel
theorem dX10_crosses_69 : decode cX10_crosses 69 = .ok (.getfield 157, 3) := by decide +kernel
theorem dX10_crosses_72 : decode cX10_crosses 72 = .ok (.aload_n 0, 1) := by decide +kernel
theorem dX10_crosses_73 : decode cX10_crosses 73 = .ok (.getfield 145, 3) := by decide +kernel
theorem dX10_crosses_76 : decode cX10_crosses 76 = .ok (.aload_n 0, 1) := by decide +kernel
theorem dX10_crosses_77 : decode cX10_crosses 77 = .ok (.getfield 148, 3) := by decide +kernel
theorem dX10_crosses_80 : decode cX10_crosses 80 = .ok (.invokestatic 164, 3) := by decide +kernel
theorem dX10_crosses_83 : decode cX10_crosses 83 = .ok (.if_icmp .eq 7, 3) := by decide +kernel
theorem dX10_crosses_86 : decode cX10_crosses 86 = .ok (.iconst 1, 1) := by decide +kernel
theorem dX10_crosses_87 : decode cX10_crosses 87 = .ok (.goto 4, 3) := by decide +kernel
theorem dX10_crosses_90 : decode cX10_crosses 90 = .ok (.iconst 0, 1) := by decide +kernel
theorem dX10_crosses_91 : decode cX10_crosses 91 = .ok (.ireturn, 1) := by decide +kernel
theorem dX10_begins_0 : decode cX10_begins 0 = .ok (.aload_n 0, 1) := by decide +kernel
theorem dX10_begins_1 : decode cX10_begins 1 = .ok (.getfield 37, 3) := by decide +kernel
theorem dX10_begins_4 : decode cX10_begins 4 = .ok (.iload_n 1, 1) := by decide +kernel
theorem dX10_begins_5 : decode cX10_begins 5 = .ok (.iaload, 1) := by decide +kernel
theorem dX10_begins_6 : decode cX10_begins 6 = .ok (.aload_n 0, 1) := by decide +kernel
theorem dX10_begins_7 : decode cX10_begins 7 = .ok (.getfield 114, 3) := by decide +kernel
theorem dX10_begins_10 : decode cX10_begins 10 = .ok (.if_icmp .ne 20, 3) := by decide +kernel
theorem dX10_begins_13 : decode cX10_begins 13 = .ok (.aload_n 0, 1) := by decide +kernel
theorem dX10_begins_14 : decode cX10_begins 14 = .ok (.getfield 40, 3) := by decide +kernel
theorem dX10_begins_17 : decode cX10_begins 17 = .ok (.iload_n 1, 1) := by decide +kernel
theorem dX10_begins_18 : decode cX10_begins 18 = .ok (.iaload, 1) := by decide +kernel
theorem dX10_begins_19 : decode cX10_begins 19 = .ok (.aload_n 0, 1) := by decide +kernel
theorem dX10_begins_20 : decode cX10_begins 20 = .ok (.getfield 117, 3) := by decide +kernel
theorem dX10_begins_23 : decode cX10_begins 23 = .ok (.if_icmp .ne 7, 3) := by decide +kernel
theorem dX10_begins_26 : decode cX10_begins 26 = .ok (.iconst 1, 1) := by decide +kernel
theorem dX10_begins_27 : decode cX10_begins 27 = .ok (.goto 4, 3) := by decide +kernel
theorem dX10_begins_30 : decode cX10_begins 30 = .ok (.iconst 0, 1) := by decide +kernel
theorem dX10_begins_31 : decode cX10_begins 31 = .ok (.ireturn, 1) := by decide +kernel
theorem dX10_told_0 : decode cX10_told 0 = .ok (.aload_n 0, 1) := by decide +kernel
theorem dX10_told_1 : decode cX10_told 1 = .ok (.getfield 46, 3) := by decide +kernel
theorem dX10_told_4 : decode cX10_told 4 = .ok (.iconst 0, 1) := by decide +kernel
theorem dX10_told_5 : decode cX10_told 5 = .ok (.iload_n 2, 1) := by decide +kernel
theorem dX10_told_6 : decode cX10_told 6 = .ok (.iastore, 1) := by decide +kernel
theorem dX10_told_7 : decode cX10_told 7 = .ok (.aload_n 0, 1) := by decide +kernel
theorem dX10_told_8 : decode cX10_told 8 = .ok (.getfield 46, 3) := by decide +kernel
theorem dX10_told_11 : decode cX10_told 11 = .ok (.iconst 1, 1) := by decide +kernel
theorem dX10_told_12 : decode cX10_told 12 = .ok (.iload_n 3, 1) := by decide +kernel
theorem dX10_told_13 : decode cX10_told 13 = .ok (.iastore, 1) := by decide +kernel
theorem dX10_told_14 : decode cX10_told 14 = .ok (.aload_n 0, 1) := by decide +kernel
theorem dX10_told_15 : decode cX10_told 15 = .ok (.getfield 46, 3) := by decide +kernel
theorem dX10_told_18 : decode cX10_told 18 = .ok (.iconst 2, 1) := by decide +kernel
theorem dX10_told_19 : decode cX10_told 19 = .ok (.iload 4, 2) := by decide +kernel
theorem dX10_told_21 : decode cX10_told 21 = .ok (.iastore, 1) := by decide +kernel
theorem dX10_told_22 : decode cX10_told 22 = .ok (.aload_n 0, 1) := by decide +kernel
theorem dX10_told_23 : decode cX10_told 23 = .ok (.getfield 46, 3) := by decide +kernel
theorem dX10_told_26 : decode cX10_told 26 = .ok (.iconst 3, 1) := by decide +kernel
theorem dX10_told_27 : decode cX10_told 27 = .ok (.iload 5, 2) := by decide +kernel
theorem dX10_told_29 : decode cX10_told 29 = .ok (.iastore, 1) := by decide +kernel
theorem dX10_told_30 : decode cX10_told 30 = .ok (.iload_n 1, 1) := by decide +kernel
theorem dX10_told_31 : decode cX10_told 31 = .ok (.ireturn, 1) := by decide +kernel
theorem dX10_other_0 : decode cX10_other 0 = .ok (.aload_n 0, 1) := by decide +kernel
theorem dX10_other_1 : decode cX10_other 1 = .ok (.getfield 46, 3) := by decide +kernel
theorem dX10_other_4 : decode cX10_other 4 = .ok (.iconst 4, 1) := by decide +kernel
theorem dX10_other_5 : decode cX10_other 5 = .ok (.iload_n 1, 1) := by decide +kernel
theorem dX10_other_6 : decode cX10_other 6 = .ok (.iastore, 1) := by decide +kernel
theorem dX10_other_7 : decode cX10_other 7 = .ok (.aload_n 0, 1) := by decide +kernel
theorem dX10_other_8 : decode cX10_other 8 = .ok (.getfield 46, 3) := by decide +kernel
theorem dX10_other_11 : decode cX10_other 11 = .ok (.iconst 5, 1) := by decide +kernel
theorem dX10_other_12 : decode cX10_other 12 = .ok (.iload_n 2, 1) := by decide +kernel
theorem dX10_other_13 : decode cX10_other 13 = .ok (.iastore, 1) := by decide +kernel
theorem dX10_other_14 : decode cX10_other 14 = .ok (.aload_n 0, 1) := by decide +kernel
theorem dX10_other_15 : decode cX10_other 15 = .ok (.getfield 46, 3) := by decide +kernel
theorem dX10_other_18 : decode cX10_other 18 = .ok (.bipush 6, 2) := by decide +kernel
theorem dX10_other_20 : decode cX10_other 20 = .ok (.iload_n 3, 1) := by decide +kernel
theorem dX10_other_21 : decode cX10_other 21 = .ok (.iastore, 1) := by decide +kernel
theorem dX10_other_22 : decode cX10_other 22 = .ok (.return_, 1) := by decide +kernel
theorem dX10_pair_0 : decode cX10_pair 0 = .ok (.aload_n 0, 1) := by decide +kernel
theorem dX10_pair_1 : decode cX10_pair 1 = .ok (.iload_n 2, 1) := by decide +kernel
theorem dX10_pair_2 : decode cX10_pair 2 = .ok (.iload 4, 2) := by decide +kernel
theorem dX10_pair_4 : decode cX10_pair 4 = .ok (.invokevirtual 168, 3) := by decide +kernel
theorem dX10_pair_7 : decode cX10_pair 7 = .ok (.istore 5, 2) := by decide +kernel
theorem dX10_pair_9 : decode cX10_pair 9 = .ok (.iload 5, 2) := by decide +kernel
theorem dX10_pair_11 : decode cX10_pair 11 = .ok (.iconst 1, 1) := by decide +kernel
theorem dX10_pair_12 : decode cX10_pair 12 = .ok (.if_icmp .le 15, 3) := by decide +kernel
theorem dX10_pair_15 : decode cX10_pair 15 = .ok (.iload 5, 2) := by decide +kernel
theorem dX10_pair_17 : decode cX10_pair 17 = .ok (.iconst 3, 1) := by decide +kernel
theorem dX10_pair_18 : decode cX10_pair 18 = .ok (.if_icmp .ne 7, 3) := by decide +kernel
theorem dX10_pair_21 : decode cX10_pair 21 = .ok (.iconst 3, 1) := by decide +kernel
theorem dX10_pair_22 : decode cX10_pair 22 = .ok (.goto 4, 3) := by decide +kernel
theorem dX10_pair_25 : decode cX10_pair 25 = .ok (.iconst 4, 1) := by decide +kernel
theorem dX10_pair_26 : decode cX10_pair 26 = .ok (.ireturn, 1) := by decide +kernel
theorem dX10_pair_27 : decode cX10_pair 27 = .ok (.iload 5, 2) := by decide +kernel
theorem dX10_pair_29 : decode cX10_pair 29 = .ok (.ifCond .ne 5, 3) := by decide +kernel
theorem dX10_pair_32 : decode cX10_pair 32 = .ok (.iconst 0, 1) := by decide +kernel
theorem dX10_pair_33 : decode cX10_pair 33 = .ok (.ireturn, 1) := by decide +kernel
theorem dX10_pair_34 : decode cX10_pair 34 = .ok (.iload_n 1, 1) := by decide +kernel
theorem dX10_pair_35 : decode cX10_pair 35 = .ok (.iload_n 3, 1) := by decide +kernel
theorem dX10_pair_36 : decode cX10_pair 36 = .ok (.if_icmp .eq 38, 3) := by decide +kernel
theorem dX10_pair_39 : decode cX10_pair 39 = .ok (.aload_n 0, 1) := by decide +kernel
theorem dX10_pair_40 : decode cX10_pair 40 = .ok (.iload_n 2, 1) := by decide +kernel
theorem dX10_pair_41 : decode cX10_pair 41 = .ok (.invokevirtual 171, 3) := by decide +kernel
theorem dX10_pair_44 : decode cX10_pair 44 = .ok (.ifCond .ne 28, 3) := by decide +kernel
theorem dX10_pair_47 : decode cX10_pair 47 = .ok (.aload_n 0, 1) := by decide +kernel
theorem dX10_pair_48 : decode cX10_pair 48 = .ok (.iload 4, 2) := by decide +kernel
theorem dX10_pair_50 : decode cX10_pair 50 = .ok (.invokevirtual 171, 3) := by decide +kernel
theorem dX10_pair_53 : decode cX10_pair 53 = .ok (.ifCond .ne 19, 3) := by decide +kernel
theorem dX10_pair_56 : decode cX10_pair 56 = .ok (.aload_n 0, 1) := by decide +kernel
theorem dX10_pair_57 : decode cX10_pair 57 = .ok (.iload_n 1, 1) := by decide +kernel
theorem dX10_pair_58 : decode cX10_pair 58 = .ok (.iload_n 2, 1) := by decide +kernel
theorem dX10_pair_59 : decode cX10_pair 59 = .ok (.iload_n 3, 1) := by decide +kernel
theorem dX10_pair_60 : decode cX10_pair 60 = .ok (.iload 4, 2) := by decide +kernel
theorem dX10_pair_62 : decode cX10_pair 62 = .ok (.invokevirtual 174, 3) := by decide +kernel
theorem dX10_pair_65 : decode cX10_pair 65 = .ok (.ifCond .eq 7, 3) := by decide +kernel
theorem dX10_pair_68 : decode cX10_pair 68 = .ok (.iconst 4, 1) := by decide +kernel
theorem dX10_pair_69 : decode cX10_pair 69 = .ok (.goto 4, 3) := by decide +kernel
theorem dX10_pair_72 : decode cX10_pair 72 = .ok (.iconst 0, 1) := by decide +kernel
theorem dX10_pair_73 : decode cX10_pair 73 = .ok (.ireturn, 1) := by decide +kernel
theorem dX10_pair_74 : decode cX10_pair 74 = .ok (.aload_n 0, 1) := by decide +kernel
theorem dX10_pair_75 : decode cX10_pair 75 = .ok (.iload_n 1, 1) := by decide +kernel
theorem dX10_pair_76 : decode cX10_pair 76 = .ok (.iload_n 2, 1) := by decide +kernel
theorem dX10_pair_77 : decode cX10_pair 77 = .ok (.invokevirtual 151, 3) := by decide +kernel
theorem dX10_pair_80 : decode cX10_pair 80 = .ok (.iload 4, 2) := by decide +kernel
theorem dX10_pair_82 : decode cX10_pair 82 = .ok (.if_icmp .ne 12, 3) := by decide +kernel
theorem dX10_pair_85 : decode cX10_pair 85 = .ok (.aload_n 0, 1) := by decide +kernel
theorem dX10_pair_86 : decode cX10_pair 86 = .ok (.iload 4, 2) := by decide +kernel
theorem dX10_pair_88 : decode cX10_pair 88 = .ok (.invokevirtual 171, 3) := by decide +kernel
theorem dX10_pair_91 : decode cX10_pair 91 = .ok (.ifCond .ne 22, 3) := by decide +kernel
theorem dX10_pair_94 : decode cX10_pair 94 = .ok (.aload_n 0, 1) := by decide +kernel
theorem dX10_pair_95 : decode cX10_pair 95 = .ok (.iload_n 1, 1) := by decide +kernel
theorem dX10_pair_96 : decode cX10_pair 96 = .ok (.iload 4, 2) := by decide +kernel
theorem dX10_pair_98 : decode cX10_pair 98 = .ok (.invokevirtual 151, 3) := by decide +kernel
theorem dX10_pair_101 : decode cX10_pair 101 = .ok (.iload_n 2, 1) := by decide +kernel
theorem dX10_pair_102 : decode cX10_pair 102 = .ok (.if_icmp .ne 15, 3) := by decide +kernel
theorem dX10_pair_105 : decode cX10_pair 105 = .ok (.aload_n 0, 1) := by decide +kernel
theorem dX10_pair_106 : decode cX10_pair 106 = .ok (.iload_n 2, 1) := by decide +kernel
theorem dX10_pair_107 : decode cX10_pair 107 = .ok (.invokevirtual 171, 3) := by decide +kernel
theorem dX10_pair_110 : decode cX10_pair 110 = .ok (.ifCond .eq 7, 3) := by decide +kernel
theorem dX10_pair_113 : decode cX10_pair 113 = .ok (.iconst 1, 1) := by decide +kernel
theorem dX10_pair_114 : decode cX10_pair 114 = .ok (.goto 4, 3) := by decide +kernel
theorem dX10_pair_117 : decode cX10_pair 117 = .ok (.iconst 0, 1) := by decide +kernel
theorem dX10_pair_118 : decode cX10_pair 118 = .ok (.istore 6, 2) := by decide +kernel
theorem dX10_pair_120 : decode cX10_pair 120 = .ok (.iload 6, 2) := by decide +kernel
theorem dX10_pair_122 : decode cX10_pair 122 = .ok (.ifCond .eq 7, 3) := by decide +kernel
theorem dX10_pair_125 : decode cX10_pair 125 = .ok (.iconst 0, 1) := by decide +kernel
theorem dX10_pair_126 : decode cX10_pair 126 = .ok (.goto 4, 3) := by decide +kernel
theorem dX10_pair_129 : decode cX10_pair 129 = .ok (.iconst 5, 1) := by decide +kernel
theorem dX10_pair_130 : decode cX10_pair 130 = .ok (.ireturn, 1) := by decide +kernel
theorem dX10_isFew_0 : decode cX10_isFew 0 = .ok (.iconst 0, 1) := by decide +kernel
theorem dX10_isFew_1 : decode cX10_isFew 1 = .ok (.istore 4, 2) := by decide +kernel
theorem dX10_isFew_3 : decode cX10_isFew 3 = .ok (.iconst 0, 1) := by decide +kernel
theorem dX10_isFew_4 : decode cX10_isFew 4 = .ok (.istore 5, 2) := by decide +kernel
theorem dX10_isFew_6 : decode cX10_isFew 6 = .ok (.iload 5, 2) := by decide +kernel
theorem dX10_isFew_8 : decode cX10_isFew 8 = .ok (.iload_n 2, 1) := by decide +kernel
theorem dX10_isFew_9 : decode cX10_isFew 9 = .ok (.if_icmp .ge 78, 3) := by decide +kernel
theorem dX10_isFew_12 : decode cX10_isFew 12 = .ok (.iconst 1, 1) := by decide +kernel
theorem dX10_isFew_13 : decode cX10_isFew 13 = .ok (.istore 6, 2) := by decide +kernel
theorem dX10_isFew_15 : decode cX10_isFew 15 = .ok (.iconst 0, 1) := by decide +kernel
theorem dX10_isFew_16 : decode cX10_isFew 16 = .ok (.istore 7, 2) := by decide +kernel
theorem dX10_isFew_18 : decode cX10_isFew 18 = .ok (.iload 7, 2) := by decide +kernel
theorem dX10_isFew_20 : decode cX10_isFew 20 = .ok (.iload 5, 2) := by decide +kernel
theorem dX10_isFew_22 : decode cX10_isFew 22 = .ok (.if_icmp .ge 36, 3) := by decide +kernel
theorem dX10_isFew_25 : decode cX10_isFew 25 = .ok (.iload 6, 2) := by decide +kernel
theorem dX10_isFew_27 : decode cX10_isFew 27 = .ok (.ifCond .eq 22, 3) := by decide +kernel
theorem dX10_isFew_30 : decode cX10_isFew 30 = .ok (.aload_n 0, 1) := by decide +kernel
theorem dX10_isFew_31 : decode cX10_isFew 31 = .ok (.iload_n 1, 1) := by decide +kernel
theorem dX10_isFew_32 : decode cX10_isFew 32 = .ok (.iload 7, 2) := by decide +kernel
theorem dX10_isFew_34 : decode cX10_isFew 34 = .ok (.iadd, 1) := by decide +kernel
theorem dX10_isFew_35 : decode cX10_isFew 35 = .ok (.iload_n 1, 1) := by decide +kernel
theorem dX10_isFew_36 : decode cX10_isFew 36 = .ok (.iload 5, 2) := by decide +kernel
theorem dX10_isFew_38 : decode cX10_isFew 38 = .ok (.iadd, 1) := by decide +kernel
theorem dX10_isFew_39 : decode cX10_isFew 39 = .ok (.invokevirtual 103, 3) := by decide +kernel
theorem dX10_isFew_42 : decode cX10_isFew 42 = .ok (.ifCond .ne 7, 3) := by decide +kernel
theorem dX10_isFew_45 : decode cX10_isFew 45 = .ok (.iconst 1, 1) := by decide +kernel
theorem dX10_isFew_46 : decode cX10_isFew 46 = .ok (.goto 4, 3) := by decide +kernel
theorem dX10_isFew_49 : decode cX10_isFew 49 = .ok (.iconst 0, 1) := by decide +kernel
theorem dX10_isFew_50 : decode cX10_isFew 50 = .ok (.istore 6, 2) := by decide +kernel
theorem dX10_isFew_52 : decode cX10_isFew 52 = .ok (.iinc 7 1, 3) := by decide +kernel
theorem dX10_isFew_55 : decode cX10_isFew 55 = .ok (.goto (-37), 3) := by decide +kernel
theorem dX10_isFew_58 : decode cX10_isFew 58 = .ok (.iload 4, 2) := by decide +kernel
theorem dX10_isFew_60 : decode cX10_isFew 60 = .ok (.iload 6, 2) := by decide +kernel
theorem dX10_isFew_62 : decode cX10_isFew 62 = .ok (.ifCond .eq 7, 3) := by decide +kernel
theorem dX10_isFew_65 : decode cX10_isFew 65 = .ok (.iconst 1, 1) := by decide +kernel
theorem dX10_isFew_66 : decode cX10_isFew 66 = .ok (.goto 4, 3) := by decide +kernel
theorem dX10_isFew_69 : decode cX10_isFew 69 = .ok (.iconst 0, 1) := by decide +kernel
theorem dX10_isFew_70 : decode cX10_isFew 70 = .ok (.iadd, 1) := by decide +kernel
theorem dX10_isFew_71 : decode cX10_isFew 71 = .ok (.istore 4, 2) := by decide +kernel
theorem dX10_isFew_73 : decode cX10_isFew 73 = .ok (.iload 4, 2) := by decide +kernel
theorem dX10_isFew_75 : decode cX10_isFew 75 = .ok (.iload_n 3, 1) := by decide +kernel
theorem dX10_isFew_76 : decode cX10_isFew 76 = .ok (.if_icmp .lt 5, 3) := by decide +kernel
theorem dX10_isFew_79 : decode cX10_isFew 79 = .ok (.iconst 0, 1) := by decide +kernel
theorem dX10_isFew_80 : decode cX10_isFew 80 = .ok (.ireturn, 1) := by decide +kernel
theorem dX10_isFew_81 : decode cX10_isFew 81 = .ok (.iinc 5 1, 3) := by decide +kernel
theorem dX10_isFew_84 : decode cX10_isFew 84 = .ok (.goto (-78), 3) := by decide +kernel
theorem dX10_isFew_87 : decode cX10_isFew 87 = .ok (.iconst 1, 1) := by decide +kernel
theorem dX10_isFew_88 : decode cX10_isFew 88 = .ok (.ireturn, 1) := by decide +kernel
theorem dX10_ringsOf_0 : decode cX10_ringsOf 0 = .ok (.iconst 0, 1) := by decide +kernel
theorem dX10_ringsOf_1 : decode cX10_ringsOf 1 = .ok (.istore 4, 2) := by decide +kernel
theorem dX10_ringsOf_3 : decode cX10_ringsOf 3 = .ok (.iload 4, 2) := by decide +kernel
theorem dX10_ringsOf_5 : decode cX10_ringsOf 5 = .ok (.aload_n 0, 1) := by decide +kernel
theorem dX10_ringsOf_6 : decode cX10_ringsOf 6 = .ok (.getfield 28, 3) := by decide +kernel
theorem dX10_ringsOf_9 : decode cX10_ringsOf 9 = .ok (.iload_n 1, 1) := by decide +kernel
theorem dX10_ringsOf_10 : decode cX10_ringsOf 10 = .ok (.iaload, 1) := by decide +kernel
theorem dX10_ringsOf_11 : decode cX10_ringsOf 11 = .ok (.if_icmp .ge 94, 3) := by decide +kernel
theorem dX10_ringsOf_14 : decode cX10_ringsOf 14 = .ok (.aload_n 0, 1) := by decide +kernel
theorem dX10_ringsOf_15 : decode cX10_ringsOf 15 = .ok (.getfield 25, 3) := by decide +kernel
theorem dX10_ringsOf_18 : decode cX10_ringsOf 18 = .ok (.iload_n 1, 1) := by decide +kernel
theorem dX10_ringsOf_19 : decode cX10_ringsOf 19 = .ok (.iaload, 1) := by decide +kernel
theorem dX10_ringsOf_20 : decode cX10_ringsOf 20 = .ok (.iload 4, 2) := by decide +kernel
theorem dX10_ringsOf_22 : decode cX10_ringsOf 22 = .ok (.iadd, 1) := by decide +kernel
theorem dX10_ringsOf_23 : decode cX10_ringsOf 23 = .ok (.istore 5, 2) := by decide +kernel
theorem dX10_ringsOf_25 : decode cX10_ringsOf 25 = .ok (.aload_n 0, 1) := by decide +kernel
theorem dX10_ringsOf_26 : decode cX10_ringsOf 26 = .ok (.getfield 34, 3) := by decide +kernel
theorem dX10_ringsOf_29 : decode cX10_ringsOf 29 = .ok (.iload 5, 2) := by decide +kernel
theorem dX10_ringsOf_31 : decode cX10_ringsOf 31 = .ok (.iaload, 1) := by decide +kernel
theorem dX10_ringsOf_32 : decode cX10_ringsOf 32 = .ok (.ifCond .eq 23, 3) := by decide +kernel
theorem dX10_ringsOf_35 : decode cX10_ringsOf 35 = .ok (.aload_n 0, 1) := by decide +kernel
theorem dX10_ringsOf_36 : decode cX10_ringsOf 36 = .ok (.aload_n 0, 1) := by decide +kernel
theorem dX10_ringsOf_37 : decode cX10_ringsOf 37 = .ok (.getfield 31, 3) := by decide +kernel
theorem dX10_ringsOf_40 : decode cX10_ringsOf 40 = .ok (.iload 5, 2) := by decide +kernel
theorem dX10_ringsOf_42 : decode cX10_ringsOf 42 = .ok (.iaload, 1) := by decide +kernel
theorem dX10_ringsOf_43 : decode cX10_ringsOf 43 = .ok (.aload_n 0, 1) := by decide +kernel
theorem dX10_ringsOf_44 : decode cX10_ringsOf 44 = .ok (.iload 5, 2) := by decide +kernel
theorem dX10_ringsOf_46 : decode cX10_ringsOf 46 = .ok (.invokevirtual 129, 3) := by decide +kernel
theorem dX10_ringsOf_49 : decode cX10_ringsOf 49 = .ok (.invokevirtual 103, 3) := by decide +kernel
theorem dX10_ringsOf_52 : decode cX10_ringsOf 52 = .ok (.ifCond .ne 14, 3) := by decide +kernel
theorem dX10_ringsOf_55 : decode cX10_ringsOf 55 = .ok (.aload_n 0, 1) := by decide +kernel
theorem dX10_ringsOf_56 : decode cX10_ringsOf 56 = .ok (.iconst 1, 1) := by decide +kernel
theorem dX10_ringsOf_57 : decode cX10_ringsOf 57 = .ok (.iload_n 2, 1) := by decide +kernel
theorem dX10_ringsOf_58 : decode cX10_ringsOf 58 = .ok (.iload_n 3, 1) := by decide +kernel
theorem dX10_ringsOf_59 : decode cX10_ringsOf 59 = .ok (.iload 4, 2) := by decide +kernel
theorem dX10_ringsOf_61 : decode cX10_ringsOf 61 = .ok (.iconst (-1), 1) := by decide +kernel
theorem dX10_ringsOf_62 : decode cX10_ringsOf 62 = .ok (.invokevirtual 178, 3) := by decide +kernel
theorem dX10_ringsOf_65 : decode cX10_ringsOf 65 = .ok (.ireturn, 1) := by decide +kernel
theorem dX10_ringsOf_66 : decode cX10_ringsOf 66 = .ok (.aload_n 0, 1) := by decide +kernel
theorem dX10_ringsOf_67 : decode cX10_ringsOf 67 = .ok (.aload_n 0, 1) := by decide +kernel
theorem dX10_ringsOf_68 : decode cX10_ringsOf 68 = .ok (.getfield 31, 3) := by decide +kernel
theorem dX10_ringsOf_71 : decode cX10_ringsOf 71 = .ok (.iload 5, 2) := by decide +kernel
theorem dX10_ringsOf_73 : decode cX10_ringsOf 73 = .ok (.iaload, 1) := by decide +kernel
theorem dX10_ringsOf_74 : decode cX10_ringsOf 74 = .ok (.aload_n 0, 1) := by decide +kernel
theorem dX10_ringsOf_75 : decode cX10_ringsOf 75 = .ok (.getfield 34, 3) := by decide +kernel
theorem dX10_ringsOf_78 : decode cX10_ringsOf 78 = .ok (.iload 5, 2) := by decide +kernel
theorem dX10_ringsOf_80 : decode cX10_ringsOf 80 = .ok (.iaload, 1) := by decide +kernel
theorem dX10_ringsOf_81 : decode cX10_ringsOf 81 = .ok (.iconst 3, 1) := by decide +kernel
theorem dX10_ringsOf_82 : decode cX10_ringsOf 82 = .ok (.invokevirtual 182, 3) := by decide +kernel
theorem dX10_ringsOf_85 : decode cX10_ringsOf 85 = .ok (.ifCond .eq 14, 3) := by decide +kernel
theorem dX10_ringsOf_88 : decode cX10_ringsOf 88 = .ok (.aload_n 0, 1) := by decide +kernel
theorem dX10_ringsOf_89 : decode cX10_ringsOf 89 = .ok (.iconst 2, 1) := by decide +kernel
theorem dX10_ringsOf_90 : decode cX10_ringsOf 90 = .ok (.iload_n 2, 1) := by decide +kernel
theorem dX10_ringsOf_91 : decode cX10_ringsOf 91 = .ok (.iload_n 3, 1) := by decide +kernel
theorem dX10_ringsOf_92 : decode cX10_ringsOf 92 = .ok (.iload 4, 2) := by decide +kernel
theorem dX10_ringsOf_94 : decode cX10_ringsOf 94 = .ok (.iconst (-1), 1) := by decide +kernel
theorem dX10_ringsOf_95 : decode cX10_ringsOf 95 = .ok (.invokevirtual 178, 3) := by decide +kernel
theorem dX10_ringsOf_98 : decode cX10_ringsOf 98 = .ok (.ireturn, 1) := by decide +kernel
theorem dX10_ringsOf_99 : decode cX10_ringsOf 99 = .ok (.iinc 4 1, 3) := by decide +kernel
theorem dX10_ringsOf_102 : decode cX10_ringsOf 102 = .ok (.goto (-99), 3) := by decide +kernel
theorem dX10_ringsOf_105 : decode cX10_ringsOf 105 = .ok (.iconst 0, 1) := by decide +kernel
theorem dX10_ringsOf_106 : decode cX10_ringsOf 106 = .ok (.ireturn, 1) := by decide +kernel
theorem dX10_pairsOf_0 : decode cX10_pairsOf 0 = .ok (.aload_n 0, 1) := by decide +kernel
theorem dX10_pairsOf_1 : decode cX10_pairsOf 1 = .ok (.getfield 25, 3) := by decide +kernel
theorem dX10_pairsOf_4 : decode cX10_pairsOf 4 = .ok (.iload_n 1, 1) := by decide +kernel
theorem dX10_pairsOf_5 : decode cX10_pairsOf 5 = .ok (.iaload, 1) := by decide +kernel
theorem dX10_pairsOf_6 : decode cX10_pairsOf 6 = .ok (.aload_n 0, 1) := by decide +kernel
theorem dX10_pairsOf_7 : decode cX10_pairsOf 7 = .ok (.getfield 28, 3) := by decide +kernel
theorem dX10_pairsOf_10 : decode cX10_pairsOf 10 = .ok (.iload_n 1, 1) := by decide +kernel
theorem dX10_pairsOf_11 : decode cX10_pairsOf 11 = .ok (.iaload, 1) := by decide +kernel
theorem dX10_pairsOf_12 : decode cX10_pairsOf 12 = .ok (.iadd, 1) := by decide +kernel
theorem dX10_pairsOf_13 : decode cX10_pairsOf 13 = .ok (.istore 4, 2) := by decide +kernel
theorem dX10_pairsOf_15 : decode cX10_pairsOf 15 = .ok (.aload_n 0, 1) := by decide +kernel
theorem dX10_pairsOf_16 : decode cX10_pairsOf 16 = .ok (.getfield 25, 3) := by decide +kernel
theorem dX10_pairsOf_19 : decode cX10_pairsOf 19 = .ok (.iload_n 1, 1) := by decide +kernel
theorem dX10_pairsOf_20 : decode cX10_pairsOf 20 = .ok (.iaload, 1) := by decide +kernel
theorem dX10_pairsOf_21 : decode cX10_pairsOf 21 = .ok (.istore 5, 2) := by decide +kernel
theorem dX10_pairsOf_23 : decode cX10_pairsOf 23 = .ok (.iload 5, 2) := by decide +kernel
theorem dX10_pairsOf_25 : decode cX10_pairsOf 25 = .ok (.iload 4, 2) := by decide +kernel
theorem dX10_pairsOf_27 : decode cX10_pairsOf 27 = .ok (.if_icmp .ge 185, 3) := by decide +kernel
theorem dX10_pairsOf_30 : decode cX10_pairsOf 30 = .ok (.aload_n 0, 1) := by decide +kernel
theorem dX10_pairsOf_31 : decode cX10_pairsOf 31 = .ok (.getfield 31, 3) := by decide +kernel
theorem dX10_pairsOf_34 : decode cX10_pairsOf 34 = .ok (.iload 5, 2) := by decide +kernel
theorem dX10_pairsOf_36 : decode cX10_pairsOf 36 = .ok (.iaload, 1) := by decide +kernel
theorem dX10_pairsOf_37 : decode cX10_pairsOf 37 = .ok (.istore 6, 2) := by decide +kernel
theorem dX10_pairsOf_39 : decode cX10_pairsOf 39 = .ok (.iload 6, 2) := by decide +kernel
theorem dX10_pairsOf_41 : decode cX10_pairsOf 41 = .ok (.aload_n 0, 1) := by decide +kernel
theorem dX10_pairsOf_42 : decode cX10_pairsOf 42 = .ok (.iload 5, 2) := by decide +kernel
theorem dX10_pairsOf_44 : decode cX10_pairsOf 44 = .ok (.invokevirtual 129, 3) := by decide +kernel
theorem dX10_pairsOf_47 : decode cX10_pairsOf 47 = .ok (.if_icmp .ge 159, 3) := by decide +kernel
theorem dX10_pairsOf_50 : decode cX10_pairsOf 50 = .ok (.iload 5, 2) := by decide +kernel
theorem dX10_pairsOf_52 : decode cX10_pairsOf 52 = .ok (.istore 7, 2) := by decide +kernel
theorem dX10_pairsOf_54 : decode cX10_pairsOf 54 = .ok (.iload 7, 2) := by decide +kernel
theorem dX10_pairsOf_56 : decode cX10_pairsOf 56 = .ok (.iload 4, 2) := by decide +kernel
theorem dX10_pairsOf_58 : decode cX10_pairsOf 58 = .ok (.if_icmp .ge 142, 3) := by decide +kernel
theorem dX10_pairsOf_61 : decode cX10_pairsOf 61 = .ok (.aload_n 0, 1) := by decide +kernel
theorem dX10_pairsOf_62 : decode cX10_pairsOf 62 = .ok (.iload 6, 2) := by decide +kernel
theorem dX10_pairsOf_64 : decode cX10_pairsOf 64 = .ok (.invokevirtual 132, 3) := by decide +kernel
theorem dX10_pairsOf_67 : decode cX10_pairsOf 67 = .ok (.ifCond .eq 133, 3) := by decide +kernel
theorem dX10_pairsOf_70 : decode cX10_pairsOf 70 = .ok (.iload 7, 2) := by decide +kernel
theorem dX10_pairsOf_72 : decode cX10_pairsOf 72 = .ok (.iload 5, 2) := by decide +kernel
theorem dX10_pairsOf_74 : decode cX10_pairsOf 74 = .ok (.if_icmp .ne 10, 3) := by decide +kernel
theorem dX10_pairsOf_77 : decode cX10_pairsOf 77 = .ok (.iload 6, 2) := by decide +kernel
theorem dX10_pairsOf_79 : decode cX10_pairsOf 79 = .ok (.iconst 1, 1) := by decide +kernel
theorem dX10_pairsOf_80 : decode cX10_pairsOf 80 = .ok (.iadd, 1) := by decide +kernel
theorem dX10_pairsOf_81 : decode cX10_pairsOf 81 = .ok (.goto 10, 3) := by decide +kernel
theorem dX10_pairsOf_84 : decode cX10_pairsOf 84 = .ok (.aload_n 0, 1) := by decide +kernel
theorem dX10_pairsOf_85 : decode cX10_pairsOf 85 = .ok (.getfield 31, 3) := by decide +kernel
theorem dX10_pairsOf_88 : decode cX10_pairsOf 88 = .ok (.iload 7, 2) := by decide +kernel
theorem dX10_pairsOf_90 : decode cX10_pairsOf 90 = .ok (.iaload, 1) := by decide +kernel
theorem dX10_pairsOf_91 : decode cX10_pairsOf 91 = .ok (.istore 8, 2) := by decide +kernel
theorem dX10_pairsOf_93 : decode cX10_pairsOf 93 = .ok (.iload 8, 2) := by decide +kernel
theorem dX10_pairsOf_95 : decode cX10_pairsOf 95 = .ok (.aload_n 0, 1) := by decide +kernel
theorem dX10_pairsOf_96 : decode cX10_pairsOf 96 = .ok (.iload 7, 2) := by decide +kernel
theorem dX10_pairsOf_98 : decode cX10_pairsOf 98 = .ok (.invokevirtual 129, 3) := by decide +kernel
theorem dX10_pairsOf_101 : decode cX10_pairsOf 101 = .ok (.if_icmp .ge 93, 3) := by decide +kernel
theorem dX10_pairsOf_104 : decode cX10_pairsOf 104 = .ok (.aload_n 0, 1) := by decide +kernel
theorem dX10_pairsOf_105 : decode cX10_pairsOf 105 = .ok (.iload 8, 2) := by decide +kernel
theorem dX10_pairsOf_107 : decode cX10_pairsOf 107 = .ok (.invokevirtual 132, 3) := by decide +kernel
theorem dX10_pairsOf_110 : decode cX10_pairsOf 110 = .ok (.ifCond .eq 18, 3) := by decide +kernel
theorem dX10_pairsOf_113 : decode cX10_pairsOf 113 = .ok (.aload_n 0, 1) := by decide +kernel
theorem dX10_pairsOf_114 : decode cX10_pairsOf 114 = .ok (.iload 5, 2) := by decide +kernel
theorem dX10_pairsOf_116 : decode cX10_pairsOf 116 = .ok (.iload 6, 2) := by decide +kernel
theorem dX10_pairsOf_118 : decode cX10_pairsOf 118 = .ok (.iload 7, 2) := by decide +kernel
theorem dX10_pairsOf_120 : decode cX10_pairsOf 120 = .ok (.iload 8, 2) := by decide +kernel
theorem dX10_pairsOf_122 : decode cX10_pairsOf 122 = .ok (.invokevirtual 185, 3) := by decide +kernel
theorem dX10_pairsOf_125 : decode cX10_pairsOf 125 = .ok (.goto 4, 3) := by decide +kernel
theorem dX10_pairsOf_128 : decode cX10_pairsOf 128 = .ok (.iconst 0, 1) := by decide +kernel
theorem dX10_pairsOf_129 : decode cX10_pairsOf 129 = .ok (.istore 9, 2) := by decide +kernel
theorem dX10_pairsOf_131 : decode cX10_pairsOf 131 = .ok (.iload 9, 2) := by decide +kernel
theorem dX10_pairsOf_133 : decode cX10_pairsOf 133 = .ok (.ifCond .le 55, 3) := by decide +kernel
theorem dX10_pairsOf_136 : decode cX10_pairsOf 136 = .ok (.aload_n 0, 1) := by decide +kernel
theorem dX10_pairsOf_137 : decode cX10_pairsOf 137 = .ok (.iload_n 3, 1) := by decide +kernel
theorem dX10_pairsOf_138 : decode cX10_pairsOf 138 = .ok (.iload 7, 2) := by decide +kernel
theorem dX10_pairsOf_140 : decode cX10_pairsOf 140 = .ok (.aload_n 0, 1) := by decide +kernel
theorem dX10_pairsOf_141 : decode cX10_pairsOf 141 = .ok (.getfield 25, 3) := by decide +kernel
theorem dX10_pairsOf_144 : decode cX10_pairsOf 144 = .ok (.iload_n 1, 1) := by decide +kernel
theorem dX10_pairsOf_145 : decode cX10_pairsOf 145 = .ok (.iaload, 1) := by decide +kernel
theorem dX10_pairsOf_146 : decode cX10_pairsOf 146 = .ok (.isub, 1) := by decide +kernel
theorem dX10_pairsOf_147 : decode cX10_pairsOf 147 = .ok (.iload 8, 2) := by decide +kernel
theorem dX10_pairsOf_149 : decode cX10_pairsOf 149 = .ok (.aload_n 0, 1) := by decide +kernel
theorem dX10_pairsOf_150 : decode cX10_pairsOf 150 = .ok (.getfield 31, 3) := by decide +kernel
theorem dX10_pairsOf_153 : decode cX10_pairsOf 153 = .ok (.iload 7, 2) := by decide +kernel
theorem dX10_pairsOf_155 : decode cX10_pairsOf 155 = .ok (.iaload, 1) := by decide +kernel
theorem dX10_pairsOf_156 : decode cX10_pairsOf 156 = .ok (.isub, 1) := by decide +kernel
theorem dX10_pairsOf_157 : decode cX10_pairsOf 157 = .ok (.invokevirtual 188, 3) := by decide +kernel
theorem dX10_pairsOf_160 : decode cX10_pairsOf 160 = .ok (.aload_n 0, 1) := by decide +kernel
theorem dX10_pairsOf_161 : decode cX10_pairsOf 161 = .ok (.iload 9, 2) := by decide +kernel
theorem dX10_pairsOf_163 : decode cX10_pairsOf 163 = .ok (.iload_n 2, 1) := by decide +kernel
theorem dX10_pairsOf_164 : decode cX10_pairsOf 164 = .ok (.iload_n 3, 1) := by decide +kernel
theorem dX10_pairsOf_165 : decode cX10_pairsOf 165 = .ok (.iload 5, 2) := by decide +kernel
theorem dX10_pairsOf_167 : decode cX10_pairsOf 167 = .ok (.aload_n 0, 1) := by decide +kernel
theorem dX10_pairsOf_168 : decode cX10_pairsOf 168 = .ok (.getfield 25, 3) := by decide +kernel
theorem dX10_pairsOf_171 : decode cX10_pairsOf 171 = .ok (.iload_n 1, 1) := by decide +kernel
theorem dX10_pairsOf_172 : decode cX10_pairsOf 172 = .ok (.iaload, 1) := by decide +kernel
theorem dX10_pairsOf_173 : decode cX10_pairsOf 173 = .ok (.isub, 1) := by decide +kernel
theorem dX10_pairsOf_174 : decode cX10_pairsOf 174 = .ok (.iload 6, 2) := by decide +kernel
theorem dX10_pairsOf_176 : decode cX10_pairsOf 176 = .ok (.aload_n 0, 1) := by decide +kernel
theorem dX10_pairsOf_177 : decode cX10_pairsOf 177 = .ok (.getfield 31, 3) := by decide +kernel
theorem dX10_pairsOf_180 : decode cX10_pairsOf 180 = .ok (.iload 5, 2) := by decide +kernel
theorem dX10_pairsOf_182 : decode cX10_pairsOf 182 = .ok (.iaload, 1) := by decide +kernel
theorem dX10_pairsOf_183 : decode cX10_pairsOf 183 = .ok (.isub, 1) := by decide +kernel
theorem dX10_pairsOf_184 : decode cX10_pairsOf 184 = .ok (.invokevirtual 178, 3) := by decide +kernel
theorem dX10_pairsOf_187 : decode cX10_pairsOf 187 = .ok (.ireturn, 1) := by decide +kernel
theorem dX10_pairsOf_188 : decode cX10_pairsOf 188 = .ok (.iinc 8 1, 3) := by decide +kernel
theorem dX10_pairsOf_191 : decode cX10_pairsOf 191 = .ok (.goto (-98), 3) := by decide +kernel
theorem dX10_pairsOf_194 : decode cX10_pairsOf 194 = .ok (.iinc 7 1, 3) := by decide +kernel
theorem dX10_pairsOf_197 : decode cX10_pairsOf 197 = .ok (.goto (-143), 3) := by decide +kernel
theorem dX10_pairsOf_200 : decode cX10_pairsOf 200 = .ok (.iinc 6 1, 3) := by decide +kernel
theorem dX10_pairsOf_203 : decode cX10_pairsOf 203 = .ok (.goto (-164), 3) := by decide +kernel
theorem dX10_pairsOf_206 : decode cX10_pairsOf 206 = .ok (.iinc 5 1, 3) := by decide +kernel
theorem dX10_pairsOf_209 : decode cX10_pairsOf 209 = .ok (.goto (-186), 3) := by decide +kernel
theorem dX10_pairsOf_212 : decode cX10_pairsOf 212 = .ok (.iconst 0, 1) := by decide +kernel
theorem dX10_pairsOf_213 : decode cX10_pairsOf 213 = .ok (.ireturn, 1) := by decide +kernel
theorem dX10_holesOf_0 : decode cX10_holesOf 0 = .ok (.aload_n 0, 1) := by decide +kernel
theorem dX10_holesOf_1 : decode cX10_holesOf 1 = .ok (.getfield 25, 3) := by decide +kernel
theorem dX10_holesOf_4 : decode cX10_holesOf 4 = .ok (.iload_n 1, 1) := by decide +kernel
theorem dX10_holesOf_5 : decode cX10_holesOf 5 = .ok (.iaload, 1) := by decide +kernel
theorem dX10_holesOf_6 : decode cX10_holesOf 6 = .ok (.istore 4, 2) := by decide +kernel
theorem dX10_holesOf_8 : decode cX10_holesOf 8 = .ok (.iconst 1, 1) := by decide +kernel
theorem dX10_holesOf_9 : decode cX10_holesOf 9 = .ok (.istore 5, 2) := by decide +kernel
theorem dX10_holesOf_11 : decode cX10_holesOf 11 = .ok (.iload 5, 2) := by decide +kernel
theorem dX10_holesOf_13 : decode cX10_holesOf 13 = .ok (.aload_n 0, 1) := by decide +kernel
theorem dX10_holesOf_14 : decode cX10_holesOf 14 = .ok (.getfield 28, 3) := by decide +kernel
theorem dX10_holesOf_17 : decode cX10_holesOf 17 = .ok (.iload_n 1, 1) := by decide +kernel
theorem dX10_holesOf_18 : decode cX10_holesOf 18 = .ok (.iaload, 1) := by decide +kernel
theorem dX10_holesOf_19 : decode cX10_holesOf 19 = .ok (.if_icmp .ge 35, 3) := by decide +kernel
theorem dX10_holesOf_22 : decode cX10_holesOf 22 = .ok (.aload_n 0, 1) := by decide +kernel
theorem dX10_holesOf_23 : decode cX10_holesOf 23 = .ok (.iload 4, 2) := by decide +kernel
theorem dX10_holesOf_25 : decode cX10_holesOf 25 = .ok (.iload 5, 2) := by decide +kernel
theorem dX10_holesOf_27 : decode cX10_holesOf 27 = .ok (.iadd, 1) := by decide +kernel
theorem dX10_holesOf_28 : decode cX10_holesOf 28 = .ok (.iload 4, 2) := by decide +kernel
theorem dX10_holesOf_30 : decode cX10_holesOf 30 = .ok (.invokevirtual 192, 3) := by decide +kernel
theorem dX10_holesOf_33 : decode cX10_holesOf 33 = .ok (.ifCond .ne 15, 3) := by decide +kernel
theorem dX10_holesOf_36 : decode cX10_holesOf 36 = .ok (.aload_n 0, 1) := by decide +kernel
theorem dX10_holesOf_37 : decode cX10_holesOf 37 = .ok (.bipush 6, 2) := by decide +kernel
theorem dX10_holesOf_39 : decode cX10_holesOf 39 = .ok (.iload_n 2, 1) := by decide +kernel
theorem dX10_holesOf_40 : decode cX10_holesOf 40 = .ok (.iload_n 3, 1) := by decide +kernel
theorem dX10_holesOf_41 : decode cX10_holesOf 41 = .ok (.iload 5, 2) := by decide +kernel
theorem dX10_holesOf_43 : decode cX10_holesOf 43 = .ok (.iconst (-1), 1) := by decide +kernel
theorem dX10_holesOf_44 : decode cX10_holesOf 44 = .ok (.invokevirtual 178, 3) := by decide +kernel
theorem dX10_holesOf_47 : decode cX10_holesOf 47 = .ok (.ireturn, 1) := by decide +kernel
theorem dX10_holesOf_48 : decode cX10_holesOf 48 = .ok (.iinc 5 1, 3) := by decide +kernel
theorem dX10_holesOf_51 : decode cX10_holesOf 51 = .ok (.goto (-40), 3) := by decide +kernel
theorem dX10_holesOf_54 : decode cX10_holesOf 54 = .ok (.iconst 1, 1) := by decide +kernel
theorem dX10_holesOf_55 : decode cX10_holesOf 55 = .ok (.istore 5, 2) := by decide +kernel
theorem dX10_holesOf_57 : decode cX10_holesOf 57 = .ok (.iload 5, 2) := by decide +kernel
theorem dX10_holesOf_59 : decode cX10_holesOf 59 = .ok (.aload_n 0, 1) := by decide +kernel
theorem dX10_holesOf_60 : decode cX10_holesOf 60 = .ok (.getfield 28, 3) := by decide +kernel
theorem dX10_holesOf_63 : decode cX10_holesOf 63 = .ok (.iload_n 1, 1) := by decide +kernel
theorem dX10_holesOf_64 : decode cX10_holesOf 64 = .ok (.iaload, 1) := by decide +kernel
theorem dX10_holesOf_65 : decode cX10_holesOf 65 = .ok (.if_icmp .ge 86, 3) := by decide +kernel
theorem dX10_holesOf_68 : decode cX10_holesOf 68 = .ok (.iload 5, 2) := by decide +kernel
theorem dX10_holesOf_70 : decode cX10_holesOf 70 = .ok (.iconst 1, 1) := by decide +kernel
theorem dX10_holesOf_71 : decode cX10_holesOf 71 = .ok (.iadd, 1) := by decide +kernel
theorem dX10_holesOf_72 : decode cX10_holesOf 72 = .ok (.istore 6, 2) := by decide +kernel
theorem dX10_holesOf_74 : decode cX10_holesOf 74 = .ok (.iload 6, 2) := by decide +kernel
theorem dX10_holesOf_76 : decode cX10_holesOf 76 = .ok (.aload_n 0, 1) := by decide +kernel
theorem dX10_holesOf_77 : decode cX10_holesOf 77 = .ok (.getfield 28, 3) := by decide +kernel
theorem dX10_holesOf_80 : decode cX10_holesOf 80 = .ok (.iload_n 1, 1) := by decide +kernel
theorem dX10_holesOf_81 : decode cX10_holesOf 81 = .ok (.iaload, 1) := by decide +kernel
theorem dX10_holesOf_82 : decode cX10_holesOf 82 = .ok (.if_icmp .ge 63, 3) := by decide +kernel
theorem dX10_holesOf_85 : decode cX10_holesOf 85 = .ok (.aload_n 0, 1) := by decide +kernel
theorem dX10_holesOf_86 : decode cX10_holesOf 86 = .ok (.iload 4, 2) := by decide +kernel
theorem dX10_holesOf_88 : decode cX10_holesOf 88 = .ok (.iload 5, 2) := by decide +kernel
theorem dX10_holesOf_90 : decode cX10_holesOf 90 = .ok (.iadd, 1) := by decide +kernel
theorem dX10_holesOf_91 : decode cX10_holesOf 91 = .ok (.iload 4, 2) := by decide +kernel
theorem dX10_holesOf_93 : decode cX10_holesOf 93 = .ok (.iload 6, 2) := by decide +kernel
theorem dX10_holesOf_95 : decode cX10_holesOf 95 = .ok (.iadd, 1) := by decide +kernel
theorem dX10_holesOf_96 : decode cX10_holesOf 96 = .ok (.invokevirtual 192, 3) := by decide +kernel
theorem dX10_holesOf_99 : decode cX10_holesOf 99 = .ok (.ifCond .ne 20, 3) := by decide +kernel
theorem dX10_holesOf_102 : decode cX10_holesOf 102 = .ok (.aload_n 0, 1) := by decide +kernel
theorem dX10_holesOf_103 : decode cX10_holesOf 103 = .ok (.iload 4, 2) := by decide +kernel
theorem dX10_holesOf_105 : decode cX10_holesOf 105 = .ok (.iload 6, 2) := by decide +kernel
theorem dX10_holesOf_107 : decode cX10_holesOf 107 = .ok (.iadd, 1) := by decide +kernel
theorem dX10_holesOf_108 : decode cX10_holesOf 108 = .ok (.iload 4, 2) := by decide +kernel
theorem dX10_holesOf_110 : decode cX10_holesOf 110 = .ok (.iload 5, 2) := by decide +kernel
theorem dX10_holesOf_112 : decode cX10_holesOf 112 = .ok (.iadd, 1) := by decide +kernel
theorem dX10_holesOf_113 : decode cX10_holesOf 113 = .ok (.invokevirtual 192, 3) := by decide +kernel
theorem dX10_holesOf_116 : decode cX10_holesOf 116 = .ok (.ifCond .eq 23, 3) := by decide +kernel
theorem dX10_holesOf_119 : decode cX10_holesOf 119 = .ok (.aload_n 0, 1) := by decide +kernel
theorem dX10_holesOf_120 : decode cX10_holesOf 120 = .ok (.iload_n 3, 1) := by decide +kernel
theorem dX10_holesOf_121 : decode cX10_holesOf 121 = .ok (.iload 6, 2) := by decide +kernel
theorem dX10_holesOf_123 : decode cX10_holesOf 123 = .ok (.iconst (-1), 1) := by decide +kernel
theorem dX10_holesOf_124 : decode cX10_holesOf 124 = .ok (.invokevirtual 188, 3) := by decide +kernel
theorem dX10_holesOf_127 : decode cX10_holesOf 127 = .ok (.aload_n 0, 1) := by decide +kernel
theorem dX10_holesOf_128 : decode cX10_holesOf 128 = .ok (.bipush 7, 2) := by decide +kernel
theorem dX10_holesOf_130 : decode cX10_holesOf 130 = .ok (.iload_n 2, 1) := by decide +kernel
theorem dX10_holesOf_131 : decode cX10_holesOf 131 = .ok (.iload_n 3, 1) := by decide +kernel
theorem dX10_holesOf_132 : decode cX10_holesOf 132 = .ok (.iload 5, 2) := by decide +kernel
theorem dX10_holesOf_134 : decode cX10_holesOf 134 = .ok (.iconst (-1), 1) := by decide +kernel
theorem dX10_holesOf_135 : decode cX10_holesOf 135 = .ok (.invokevirtual 178, 3) := by decide +kernel
theorem dX10_holesOf_138 : decode cX10_holesOf 138 = .ok (.ireturn, 1) := by decide +kernel
theorem dX10_holesOf_139 : decode cX10_holesOf 139 = .ok (.iinc 6 1, 3) := by decide +kernel
theorem dX10_holesOf_142 : decode cX10_holesOf 142 = .ok (.goto (-68), 3) := by decide +kernel
theorem dX10_holesOf_145 : decode cX10_holesOf 145 = .ok (.iinc 5 1, 3) := by decide +kernel
theorem dX10_holesOf_148 : decode cX10_holesOf 148 = .ok (.goto (-91), 3) := by decide +kernel
theorem dX10_holesOf_151 : decode cX10_holesOf 151 = .ok (.iconst 0, 1) := by decide +kernel
theorem dX10_holesOf_152 : decode cX10_holesOf 152 = .ok (.ireturn, 1) := by decide +kernel
theorem dX10_isFirst_0 : decode cX10_isFirst 0 = .ok (.iconst 1, 1) := by decide +kernel
theorem dX10_isFirst_1 : decode cX10_isFirst 1 = .ok (.istore_n 3, 1) := by decide +kernel
theorem dX10_isFirst_2 : decode cX10_isFirst 2 = .ok (.iload_n 2, 1) := by decide +kernel
theorem dX10_isFirst_3 : decode cX10_isFirst 3 = .ok (.istore 4, 2) := by decide +kernel
theorem dX10_isFirst_5 : decode cX10_isFirst 5 = .ok (.iload 4, 2) := by decide +kernel
theorem dX10_isFirst_7 : decode cX10_isFirst 7 = .ok (.iload_n 1, 1) := by decide +kernel
theorem dX10_isFirst_8 : decode cX10_isFirst 8 = .ok (.if_icmp .ge 29, 3) := by decide +kernel
theorem dX10_isFirst_11 : decode cX10_isFirst 11 = .ok (.iload_n 3, 1) := by decide +kernel
theorem dX10_isFirst_12 : decode cX10_isFirst 12 = .ok (.ifCond .eq 25, 3) := by decide +kernel
theorem dX10_isFirst_15 : decode cX10_isFirst 15 = .ok (.aload_n 0, 1) := by decide +kernel
theorem dX10_isFirst_16 : decode cX10_isFirst 16 = .ok (.iload 4, 2) := by decide +kernel
theorem dX10_isFirst_18 : decode cX10_isFirst 18 = .ok (.iload_n 1, 1) := by decide +kernel
theorem dX10_isFirst_19 : decode cX10_isFirst 19 = .ok (.invokevirtual 103, 3) := by decide +kernel
theorem dX10_isFirst_22 : decode cX10_isFirst 22 = .ok (.ifCond .ne 7, 3) := by decide +kernel
theorem dX10_isFirst_25 : decode cX10_isFirst 25 = .ok (.iconst 1, 1) := by decide +kernel
theorem dX10_isFirst_26 : decode cX10_isFirst 26 = .ok (.goto 4, 3) := by decide +kernel
theorem dX10_isFirst_29 : decode cX10_isFirst 29 = .ok (.iconst 0, 1) := by decide +kernel
theorem dX10_isFirst_30 : decode cX10_isFirst 30 = .ok (.istore_n 3, 1) := by decide +kernel
theorem dX10_isFirst_31 : decode cX10_isFirst 31 = .ok (.iinc 4 1, 3) := by decide +kernel
theorem dX10_isFirst_34 : decode cX10_isFirst 34 = .ok (.goto (-29), 3) := by decide +kernel
theorem dX10_isFirst_37 : decode cX10_isFirst 37 = .ok (.iload_n 3, 1) := by decide +kernel
theorem dX10_isFirst_38 : decode cX10_isFirst 38 = .ok (.ireturn, 1) := by decide +kernel
theorem dX10_joins_0 : decode cX10_joins 0 = .ok (.iconst (-1), 1) := by decide +kernel
theorem dX10_joins_1 : decode cX10_joins 1 = .ok (.istore_n 3, 1) := by decide +kernel
theorem dX10_joins_2 : decode cX10_joins 2 = .ok (.iconst 0, 1) := by decide +kernel
theorem dX10_joins_3 : decode cX10_joins 3 = .ok (.istore 4, 2) := by decide +kernel
theorem dX10_joins_5 : decode cX10_joins 5 = .ok (.iconst 0, 1) := by decide +kernel
theorem dX10_joins_6 : decode cX10_joins 6 = .ok (.istore 5, 2) := by decide +kernel
theorem dX10_joins_8 : decode cX10_joins 8 = .ok (.iload 5, 2) := by decide +kernel
theorem dX10_joins_10 : decode cX10_joins 10 = .ok (.aload_n 0, 1) := by decide +kernel
theorem dX10_joins_11 : decode cX10_joins 11 = .ok (.getfield 28, 3) := by decide +kernel
theorem dX10_joins_14 : decode cX10_joins 14 = .ok (.iload_n 1, 1) := by decide +kernel
theorem dX10_joins_15 : decode cX10_joins 15 = .ok (.iaload, 1) := by decide +kernel
theorem dX10_joins_16 : decode cX10_joins 16 = .ok (.if_icmp .ge 139, 3) := by decide +kernel
theorem dX10_joins_19 : decode cX10_joins 19 = .ok (.aload_n 0, 1) := by decide +kernel
theorem dX10_joins_20 : decode cX10_joins 20 = .ok (.aload_n 0, 1) := by decide +kernel
theorem dX10_joins_21 : decode cX10_joins 21 = .ok (.getfield 37, 3) := by decide +kernel
theorem dX10_joins_24 : decode cX10_joins 24 = .ok (.iload_n 2, 1) := by decide +kernel
theorem dX10_joins_25 : decode cX10_joins 25 = .ok (.iaload, 1) := by decide +kernel
theorem dX10_joins_26 : decode cX10_joins 26 = .ok (.aload_n 0, 1) := by decide +kernel
theorem dX10_joins_27 : decode cX10_joins 27 = .ok (.getfield 40, 3) := by decide +kernel
theorem dX10_joins_30 : decode cX10_joins 30 = .ok (.iload_n 2, 1) := by decide +kernel
theorem dX10_joins_31 : decode cX10_joins 31 = .ok (.iaload, 1) := by decide +kernel
theorem dX10_joins_32 : decode cX10_joins 32 = .ok (.aload_n 0, 1) := by decide +kernel
theorem dX10_joins_33 : decode cX10_joins 33 = .ok (.getfield 25, 3) := by decide +kernel
theorem dX10_joins_36 : decode cX10_joins 36 = .ok (.iload_n 1, 1) := by decide +kernel
theorem dX10_joins_37 : decode cX10_joins 37 = .ok (.iaload, 1) := by decide +kernel
theorem dX10_joins_38 : decode cX10_joins 38 = .ok (.iload 5, 2) := by decide +kernel
theorem dX10_joins_40 : decode cX10_joins 40 = .ok (.iadd, 1) := by decide +kernel
theorem dX10_joins_41 : decode cX10_joins 41 = .ok (.invokevirtual 135, 3) := by decide +kernel
theorem dX10_joins_44 : decode cX10_joins 44 = .ok (.ifCond .eq 105, 3) := by decide +kernel
theorem dX10_joins_47 : decode cX10_joins 47 = .ok (.iload_n 3, 1) := by decide +kernel
theorem dX10_joins_48 : decode cX10_joins 48 = .ok (.ifCond .lt 22, 3) := by decide +kernel
theorem dX10_joins_51 : decode cX10_joins 51 = .ok (.aload_n 0, 1) := by decide +kernel
theorem dX10_joins_52 : decode cX10_joins 52 = .ok (.getfield 49, 3) := by decide +kernel
theorem dX10_joins_55 : decode cX10_joins 55 = .ok (.iload 5, 2) := by decide +kernel
theorem dX10_joins_57 : decode cX10_joins 57 = .ok (.iaload, 1) := by decide +kernel
theorem dX10_joins_58 : decode cX10_joins 58 = .ok (.aload_n 0, 1) := by decide +kernel
theorem dX10_joins_59 : decode cX10_joins 59 = .ok (.getfield 49, 3) := by decide +kernel
theorem dX10_joins_62 : decode cX10_joins 62 = .ok (.iload_n 3, 1) := by decide +kernel
theorem dX10_joins_63 : decode cX10_joins 63 = .ok (.iaload, 1) := by decide +kernel
theorem dX10_joins_64 : decode cX10_joins 64 = .ok (.if_icmp .ne 6, 3) := by decide +kernel
theorem dX10_joins_67 : decode cX10_joins 67 = .ok (.iconst 1, 1) := by decide +kernel
theorem dX10_joins_68 : decode cX10_joins 68 = .ok (.istore 4, 2) := by decide +kernel
theorem dX10_joins_70 : decode cX10_joins 70 = .ok (.aload_n 0, 1) := by decide +kernel
theorem dX10_joins_71 : decode cX10_joins 71 = .ok (.getfield 49, 3) := by decide +kernel
theorem dX10_joins_74 : decode cX10_joins 74 = .ok (.iload 5, 2) := by decide +kernel
theorem dX10_joins_76 : decode cX10_joins 76 = .ok (.iaload, 1) := by decide +kernel
theorem dX10_joins_77 : decode cX10_joins 77 = .ok (.istore 6, 2) := by decide +kernel
theorem dX10_joins_79 : decode cX10_joins 79 = .ok (.iconst 0, 1) := by decide +kernel
theorem dX10_joins_80 : decode cX10_joins 80 = .ok (.istore 7, 2) := by decide +kernel
theorem dX10_joins_82 : decode cX10_joins 82 = .ok (.iload 7, 2) := by decide +kernel
theorem dX10_joins_84 : decode cX10_joins 84 = .ok (.aload_n 0, 1) := by decide +kernel
theorem dX10_joins_85 : decode cX10_joins 85 = .ok (.getfield 28, 3) := by decide +kernel
theorem dX10_joins_88 : decode cX10_joins 88 = .ok (.iload_n 1, 1) := by decide +kernel
theorem dX10_joins_89 : decode cX10_joins 89 = .ok (.iaload, 1) := by decide +kernel
theorem dX10_joins_90 : decode cX10_joins 90 = .ok (.if_icmp .ge 48, 3) := by decide +kernel
theorem dX10_joins_93 : decode cX10_joins 93 = .ok (.iload_n 3, 1) := by decide +kernel
theorem dX10_joins_94 : decode cX10_joins 94 = .ok (.ifCond .lt 44, 3) := by decide +kernel
theorem dX10_joins_97 : decode cX10_joins 97 = .ok (.aload_n 0, 1) := by decide +kernel
theorem dX10_joins_98 : decode cX10_joins 98 = .ok (.getfield 49, 3) := by decide +kernel
theorem dX10_joins_101 : decode cX10_joins 101 = .ok (.iload 7, 2) := by decide +kernel
theorem dX10_joins_103 : decode cX10_joins 103 = .ok (.aload_n 0, 1) := by decide +kernel
theorem dX10_joins_104 : decode cX10_joins 104 = .ok (.getfield 49, 3) := by decide +kernel
theorem dX10_joins_107 : decode cX10_joins 107 = .ok (.iload 7, 2) := by decide +kernel
theorem dX10_joins_109 : decode cX10_joins 109 = .ok (.iaload, 1) := by decide +kernel
theorem dX10_joins_110 : decode cX10_joins 110 = .ok (.iload 6, 2) := by decide +kernel
theorem dX10_joins_112 : decode cX10_joins 112 = .ok (.if_icmp .ne 12, 3) := by decide +kernel
theorem dX10_joins_115 : decode cX10_joins 115 = .ok (.aload_n 0, 1) := by decide +kernel
theorem dX10_joins_116 : decode cX10_joins 116 = .ok (.getfield 49, 3) := by decide +kernel
theorem dX10_joins_119 : decode cX10_joins 119 = .ok (.iload_n 3, 1) := by decide +kernel
theorem dX10_joins_120 : decode cX10_joins 120 = .ok (.iaload, 1) := by decide +kernel
theorem dX10_joins_121 : decode cX10_joins 121 = .ok (.goto 10, 3) := by decide +kernel
theorem dX10_joins_124 : decode cX10_joins 124 = .ok (.aload_n 0, 1) := by decide +kernel
theorem dX10_joins_125 : decode cX10_joins 125 = .ok (.getfield 49, 3) := by decide +kernel
theorem dX10_joins_128 : decode cX10_joins 128 = .ok (.iload 7, 2) := by decide +kernel
theorem dX10_joins_130 : decode cX10_joins 130 = .ok (.iaload, 1) := by decide +kernel
theorem dX10_joins_131 : decode cX10_joins 131 = .ok (.iastore, 1) := by decide +kernel
theorem dX10_joins_132 : decode cX10_joins 132 = .ok (.iinc 7 1, 3) := by decide +kernel
theorem dX10_joins_135 : decode cX10_joins 135 = .ok (.goto (-53), 3) := by decide +kernel
theorem dX10_joins_138 : decode cX10_joins 138 = .ok (.iload_n 3, 1) := by decide +kernel
theorem dX10_joins_139 : decode cX10_joins 139 = .ok (.ifCond .ge 8, 3) := by decide +kernel
theorem dX10_joins_142 : decode cX10_joins 142 = .ok (.iload 5, 2) := by decide +kernel
theorem dX10_joins_144 : decode cX10_joins 144 = .ok (.goto 4, 3) := by decide +kernel
theorem dX10_joins_147 : decode cX10_joins 147 = .ok (.iload_n 3, 1) := by decide +kernel
theorem dX10_joins_148 : decode cX10_joins 148 = .ok (.istore_n 3, 1) := by decide +kernel
theorem dX10_joins_149 : decode cX10_joins 149 = .ok (.iinc 5 1, 3) := by decide +kernel
theorem dX10_joins_152 : decode cX10_joins 152 = .ok (.goto (-144), 3) := by decide +kernel
theorem dX10_joins_155 : decode cX10_joins 155 = .ok (.iload 4, 2) := by decide +kernel
theorem dX10_joins_157 : decode cX10_joins 157 = .ok (.ireturn, 1) := by decide +kernel
theorem dX10_splitOf_0 : decode cX10_splitOf 0 = .ok (.iconst 0, 1) := by decide +kernel
theorem dX10_splitOf_1 : decode cX10_splitOf 1 = .ok (.istore 4, 2) := by decide +kernel
theorem dX10_splitOf_3 : decode cX10_splitOf 3 = .ok (.iload 4, 2) := by decide +kernel
theorem dX10_splitOf_5 : decode cX10_splitOf 5 = .ok (.aload_n 0, 1) := by decide +kernel
theorem dX10_splitOf_6 : decode cX10_splitOf 6 = .ok (.getfield 28, 3) := by decide +kernel
theorem dX10_splitOf_9 : decode cX10_splitOf 9 = .ok (.iload_n 1, 1) := by decide +kernel
theorem dX10_splitOf_10 : decode cX10_splitOf 10 = .ok (.iaload, 1) := by decide +kernel
theorem dX10_splitOf_11 : decode cX10_splitOf 11 = .ok (.if_icmp .ge 18, 3) := by decide +kernel
theorem dX10_splitOf_14 : decode cX10_splitOf 14 = .ok (.aload_n 0, 1) := by decide +kernel
theorem dX10_splitOf_15 : decode cX10_splitOf 15 = .ok (.getfield 49, 3) := by decide +kernel
theorem dX10_splitOf_18 : decode cX10_splitOf 18 = .ok (.iload 4, 2) := by decide +kernel
theorem dX10_splitOf_20 : decode cX10_splitOf 20 = .ok (.iload 4, 2) := by decide +kernel
theorem dX10_splitOf_22 : decode cX10_splitOf 22 = .ok (.iastore, 1) := by decide +kernel
theorem dX10_splitOf_23 : decode cX10_splitOf 23 = .ok (.iinc 4 1, 3) := by decide +kernel
theorem dX10_splitOf_26 : decode cX10_splitOf 26 = .ok (.goto (-23), 3) := by decide +kernel
theorem dX10_splitOf_29 : decode cX10_splitOf 29 = .ok (.aload_n 0, 1) := by decide +kernel
theorem dX10_splitOf_30 : decode cX10_splitOf 30 = .ok (.getfield 31, 3) := by decide +kernel
theorem dX10_splitOf_33 : decode cX10_splitOf 33 = .ok (.aload_n 0, 1) := by decide +kernel
theorem dX10_splitOf_34 : decode cX10_splitOf 34 = .ok (.getfield 25, 3) := by decide +kernel
theorem dX10_splitOf_37 : decode cX10_splitOf 37 = .ok (.iload_n 1, 1) := by decide +kernel
theorem dX10_splitOf_38 : decode cX10_splitOf 38 = .ok (.iaload, 1) := by decide +kernel
theorem dX10_splitOf_39 : decode cX10_splitOf 39 = .ok (.iaload, 1) := by decide +kernel
theorem dX10_splitOf_40 : decode cX10_splitOf 40 = .ok (.istore 4, 2) := by decide +kernel
theorem dX10_splitOf_42 : decode cX10_splitOf 42 = .ok (.aload_n 0, 1) := by decide +kernel
theorem dX10_splitOf_43 : decode cX10_splitOf 43 = .ok (.aload_n 0, 1) := by decide +kernel
theorem dX10_splitOf_44 : decode cX10_splitOf 44 = .ok (.getfield 25, 3) := by decide +kernel
theorem dX10_splitOf_47 : decode cX10_splitOf 47 = .ok (.iload_n 1, 1) := by decide +kernel
theorem dX10_splitOf_48 : decode cX10_splitOf 48 = .ok (.iaload, 1) := by decide +kernel
theorem dX10_splitOf_49 : decode cX10_splitOf 49 = .ok (.aload_n 0, 1) := by decide +kernel
theorem dX10_splitOf_50 : decode cX10_splitOf 50 = .ok (.getfield 28, 3) := by decide +kernel
theorem dX10_splitOf_53 : decode cX10_splitOf 53 = .ok (.iload_n 1, 1) := by decide +kernel
theorem dX10_splitOf_54 : decode cX10_splitOf 54 = .ok (.iaload, 1) := by decide +kernel
theorem dX10_splitOf_55 : decode cX10_splitOf 55 = .ok (.iadd, 1) := by decide +kernel
theorem dX10_splitOf_56 : decode cX10_splitOf 56 = .ok (.iconst 1, 1) := by decide +kernel
theorem dX10_splitOf_57 : decode cX10_splitOf 57 = .ok (.isub, 1) := by decide +kernel
theorem dX10_splitOf_58 : decode cX10_splitOf 58 = .ok (.invokevirtual 129, 3) := by decide +kernel
theorem dX10_splitOf_61 : decode cX10_splitOf 61 = .ok (.istore 5, 2) := by decide +kernel
theorem dX10_splitOf_63 : decode cX10_splitOf 63 = .ok (.iload 4, 2) := by decide +kernel
theorem dX10_splitOf_65 : decode cX10_splitOf 65 = .ok (.istore 6, 2) := by decide +kernel
theorem dX10_splitOf_67 : decode cX10_splitOf 67 = .ok (.iload 6, 2) := by decide +kernel
theorem dX10_splitOf_69 : decode cX10_splitOf 69 = .ok (.iload 5, 2) := by decide +kernel
theorem dX10_splitOf_71 : decode cX10_splitOf 71 = .ok (.if_icmp .gt 41, 3) := by decide +kernel
theorem dX10_splitOf_74 : decode cX10_splitOf 74 = .ok (.aload_n 0, 1) := by decide +kernel
theorem dX10_splitOf_75 : decode cX10_splitOf 75 = .ok (.iload 6, 2) := by decide +kernel
theorem dX10_splitOf_77 : decode cX10_splitOf 77 = .ok (.iload 4, 2) := by decide +kernel
theorem dX10_splitOf_79 : decode cX10_splitOf 79 = .ok (.invokevirtual 195, 3) := by decide +kernel
theorem dX10_splitOf_82 : decode cX10_splitOf 82 = .ok (.ifCond .eq 24, 3) := by decide +kernel
theorem dX10_splitOf_85 : decode cX10_splitOf 85 = .ok (.aload_n 0, 1) := by decide +kernel
theorem dX10_splitOf_86 : decode cX10_splitOf 86 = .ok (.iload_n 1, 1) := by decide +kernel
theorem dX10_splitOf_87 : decode cX10_splitOf 87 = .ok (.iload 6, 2) := by decide +kernel
theorem dX10_splitOf_89 : decode cX10_splitOf 89 = .ok (.invokevirtual 198, 3) := by decide +kernel
theorem dX10_splitOf_92 : decode cX10_splitOf 92 = .ok (.ifCond .eq 14, 3) := by decide +kernel
theorem dX10_splitOf_95 : decode cX10_splitOf 95 = .ok (.aload_n 0, 1) := by decide +kernel
theorem dX10_splitOf_96 : decode cX10_splitOf 96 = .ok (.bipush 8, 2) := by decide +kernel
theorem dX10_splitOf_98 : decode cX10_splitOf 98 = .ok (.iload_n 2, 1) := by decide +kernel
theorem dX10_splitOf_99 : decode cX10_splitOf 99 = .ok (.iload_n 3, 1) := by decide +kernel
theorem dX10_splitOf_100 : decode cX10_splitOf 100 = .ok (.iconst (-1), 1) := by decide +kernel
theorem dX10_splitOf_101 : decode cX10_splitOf 101 = .ok (.iconst (-1), 1) := by decide +kernel
theorem dX10_splitOf_102 : decode cX10_splitOf 102 = .ok (.invokevirtual 178, 3) := by decide +kernel
theorem dX10_splitOf_105 : decode cX10_splitOf 105 = .ok (.ireturn, 1) := by decide +kernel
theorem dX10_splitOf_106 : decode cX10_splitOf 106 = .ok (.iinc 6 1, 3) := by decide +kernel
theorem dX10_splitOf_109 : decode cX10_splitOf 109 = .ok (.goto (-42), 3) := by decide +kernel
theorem dX10_splitOf_112 : decode cX10_splitOf 112 = .ok (.iconst 0, 1) := by decide +kernel
theorem dX10_splitOf_113 : decode cX10_splitOf 113 = .ok (.ireturn, 1) := by decide +kernel
theorem dX10_polygon_0 : decode cX10_polygon 0 = .ok (.aload_n 0, 1) := by decide +kernel
theorem dX10_polygon_1 : decode cX10_polygon 1 = .ok (.getfield 28, 3) := by decide +kernel
theorem dX10_polygon_4 : decode cX10_polygon 4 = .ok (.iload_n 1, 1) := by decide +kernel
theorem dX10_polygon_5 : decode cX10_polygon 5 = .ok (.iaload, 1) := by decide +kernel
theorem dX10_polygon_6 : decode cX10_polygon 6 = .ok (.ifCond .ne 5, 3) := by decide +kernel
theorem dX10_polygon_9 : decode cX10_polygon 9 = .ok (.iconst 0, 1) := by decide +kernel
theorem dX10_polygon_10 : decode cX10_polygon 10 = .ok (.ireturn, 1) := by decide +kernel
theorem dX10_polygon_11 : decode cX10_polygon 11 = .ok (.aload_n 0, 1) := by decide +kernel
theorem dX10_polygon_12 : decode cX10_polygon 12 = .ok (.iload_n 1, 1) := by decide +kernel
theorem dX10_polygon_13 : decode cX10_polygon 13 = .ok (.iload_n 2, 1) := by decide +kernel
theorem dX10_polygon_14 : decode cX10_polygon 14 = .ok (.iload_n 3, 1) := by decide +kernel
theorem dX10_polygon_15 : decode cX10_polygon 15 = .ok (.invokevirtual 201, 3) := by decide +kernel
theorem dX10_polygon_18 : decode cX10_polygon 18 = .ok (.istore 4, 2) := by decide +kernel
theorem dX10_polygon_20 : decode cX10_polygon 20 = .ok (.iload 4, 2) := by decide +kernel
theorem dX10_polygon_22 : decode cX10_polygon 22 = .ok (.ifCond .ne 12, 3) := by decide +kernel
theorem dX10_polygon_25 : decode cX10_polygon 25 = .ok (.aload_n 0, 1) := by decide +kernel
theorem dX10_polygon_26 : decode cX10_polygon 26 = .ok (.iload_n 1, 1) := by decide +kernel
theorem dX10_polygon_27 : decode cX10_polygon 27 = .ok (.iload_n 2, 1) := by decide +kernel
theorem dX10_polygon_28 : decode cX10_polygon 28 = .ok (.iload_n 3, 1) := by decide +kernel
theorem dX10_polygon_29 : decode cX10_polygon 29 = .ok (.invokevirtual 205, 3) := by decide +kernel
theorem dX10_polygon_32 : decode cX10_polygon 32 = .ok (.istore 4, 2) := by decide +kernel
theorem dX10_polygon_34 : decode cX10_polygon 34 = .ok (.iload 4, 2) := by decide +kernel
theorem dX10_polygon_36 : decode cX10_polygon 36 = .ok (.ifCond .ne 12, 3) := by decide +kernel
theorem dX10_polygon_39 : decode cX10_polygon 39 = .ok (.aload_n 0, 1) := by decide +kernel
theorem dX10_polygon_40 : decode cX10_polygon 40 = .ok (.iload_n 1, 1) := by decide +kernel
theorem dX10_polygon_41 : decode cX10_polygon 41 = .ok (.iload_n 2, 1) := by decide +kernel
theorem dX10_polygon_42 : decode cX10_polygon 42 = .ok (.iload_n 3, 1) := by decide +kernel
theorem dX10_polygon_43 : decode cX10_polygon 43 = .ok (.invokevirtual 208, 3) := by decide +kernel
theorem dX10_polygon_46 : decode cX10_polygon 46 = .ok (.istore 4, 2) := by decide +kernel
theorem dX10_polygon_48 : decode cX10_polygon 48 = .ok (.iload 4, 2) := by decide +kernel
theorem dX10_polygon_50 : decode cX10_polygon 50 = .ok (.ifCond .ne 13, 3) := by decide +kernel
theorem dX10_polygon_53 : decode cX10_polygon 53 = .ok (.aload_n 0, 1) := by decide +kernel
theorem dX10_polygon_54 : decode cX10_polygon 54 = .ok (.iload_n 1, 1) := by decide +kernel
theorem dX10_polygon_55 : decode cX10_polygon 55 = .ok (.iload_n 2, 1) := by decide +kernel
theorem dX10_polygon_56 : decode cX10_polygon 56 = .ok (.iload_n 3, 1) := by decide +kernel
theorem dX10_polygon_57 : decode cX10_polygon 57 = .ok (.invokevirtual 211, 3) := by decide +kernel
theorem dX10_polygon_60 : decode cX10_polygon 60 = .ok (.goto 5, 3) := by decide +kernel
theorem dX10_polygon_63 : decode cX10_polygon 63 = .ok (.iload 4, 2) := by decide +kernel
theorem dX10_polygon_65 : decode cX10_polygon 65 = .ok (.ireturn, 1) := by decide +kernel
theorem dX10_isPart_0 : decode cX10_isPart 0 = .ok (.aload_n 0, 1) := by decide +kernel
theorem dX10_isPart_1 : decode cX10_isPart 1 = .ok (.getfield 13, 3) := by decide +kernel
theorem dX10_isPart_4 : decode cX10_isPart 4 = .ok (.iload_n 1, 1) := by decide +kernel
theorem dX10_isPart_5 : decode cX10_isPart 5 = .ok (.iaload, 1) := by decide +kernel
theorem dX10_isPart_6 : decode cX10_isPart 6 = .ok (.iload_n 2, 1) := by decide +kernel
theorem dX10_isPart_7 : decode cX10_isPart 7 = .ok (.if_icmp .ne 16, 3) := by decide +kernel
theorem dX10_isPart_10 : decode cX10_isPart 10 = .ok (.aload_n 0, 1) := by decide +kernel
theorem dX10_isPart_11 : decode cX10_isPart 11 = .ok (.getfield 28, 3) := by decide +kernel
theorem dX10_isPart_14 : decode cX10_isPart 14 = .ok (.iload_n 1, 1) := by decide +kernel
theorem dX10_isPart_15 : decode cX10_isPart 15 = .ok (.iaload, 1) := by decide +kernel
theorem dX10_isPart_16 : decode cX10_isPart 16 = .ok (.ifCond .le 7, 3) := by decide +kernel
theorem dX10_isPart_19 : decode cX10_isPart 19 = .ok (.iconst 1, 1) := by decide +kernel
theorem dX10_isPart_20 : decode cX10_isPart 20 = .ok (.goto 4, 3) := by decide +kernel
theorem dX10_isPart_23 : decode cX10_isPart 23 = .ok (.iconst 0, 1) := by decide +kernel
theorem dX10_isPart_24 : decode cX10_isPart 24 = .ok (.ireturn, 1) := by decide +kernel
theorem dX10_against_0 : decode cX10_against 0 = .ok (.iload_n 2, 1) := by decide +kernel
theorem dX10_against_1 : decode cX10_against 1 = .ok (.iconst 1, 1) := by decide +kernel
theorem dX10_against_2 : decode cX10_against 2 = .ok (.iadd, 1) := by decide +kernel
theorem dX10_against_3 : decode cX10_against 3 = .ok (.istore 5, 2) := by decide +kernel
theorem dX10_against_5 : decode cX10_against 5 = .ok (.iload 5, 2) := by decide +kernel
theorem dX10_against_7 : decode cX10_against 7 = .ok (.aload_n 0, 1) := by decide +kernel
theorem dX10_against_8 : decode cX10_against 8 = .ok (.getfield 59, 3) := by decide +kernel
theorem dX10_against_11 : decode cX10_against 11 = .ok (.if_icmp .ge 190, 3) := by decide +kernel
theorem dX10_against_14 : decode cX10_against 14 = .ok (.aload_n 0, 1) := by decide +kernel
theorem dX10_against_15 : decode cX10_against 15 = .ok (.iload 5, 2) := by decide +kernel
theorem dX10_against_17 : decode cX10_against 17 = .ok (.iload_n 1, 1) := by decide +kernel
theorem dX10_against_18 : decode cX10_against 18 = .ok (.invokevirtual 214, 3) := by decide +kernel
theorem dX10_against_21 : decode cX10_against 21 = .ok (.ifCond .eq 21, 3) := by decide +kernel
theorem dX10_against_24 : decode cX10_against 24 = .ok (.aload_n 0, 1) := by decide +kernel
theorem dX10_against_25 : decode cX10_against 25 = .ok (.getfield 25, 3) := by decide +kernel
theorem dX10_against_28 : decode cX10_against 28 = .ok (.iload 5, 2) := by decide +kernel
theorem dX10_against_30 : decode cX10_against 30 = .ok (.iaload, 1) := by decide +kernel
theorem dX10_against_31 : decode cX10_against 31 = .ok (.aload_n 0, 1) := by decide +kernel
theorem dX10_against_32 : decode cX10_against 32 = .ok (.getfield 28, 3) := by decide +kernel
theorem dX10_against_35 : decode cX10_against 35 = .ok (.iload 5, 2) := by decide +kernel
theorem dX10_against_37 : decode cX10_against 37 = .ok (.iaload, 1) := by decide +kernel
theorem dX10_against_38 : decode cX10_against 38 = .ok (.iadd, 1) := by decide +kernel
theorem dX10_against_39 : decode cX10_against 39 = .ok (.goto 10, 3) := by decide +kernel
theorem dX10_against_42 : decode cX10_against 42 = .ok (.aload_n 0, 1) := by decide +kernel
theorem dX10_against_43 : decode cX10_against 43 = .ok (.getfield 25, 3) := by decide +kernel
theorem dX10_against_46 : decode cX10_against 46 = .ok (.iload 5, 2) := by decide +kernel
theorem dX10_against_48 : decode cX10_against 48 = .ok (.iaload, 1) := by decide +kernel
theorem dX10_against_49 : decode cX10_against 49 = .ok (.istore 6, 2) := by decide +kernel
theorem dX10_against_51 : decode cX10_against 51 = .ok (.aload_n 0, 1) := by decide +kernel
theorem dX10_against_52 : decode cX10_against 52 = .ok (.getfield 25, 3) := by decide +kernel
theorem dX10_against_55 : decode cX10_against 55 = .ok (.iload 5, 2) := by decide +kernel
theorem dX10_against_57 : decode cX10_against 57 = .ok (.iaload, 1) := by decide +kernel
theorem dX10_against_58 : decode cX10_against 58 = .ok (.istore 7, 2) := by decide +kernel
theorem dX10_against_60 : decode cX10_against 60 = .ok (.iload 7, 2) := by decide +kernel
theorem dX10_against_62 : decode cX10_against 62 = .ok (.iload 6, 2) := by decide +kernel
theorem dX10_against_64 : decode cX10_against 64 = .ok (.if_icmp .ge 131, 3) := by decide +kernel
theorem dX10_against_67 : decode cX10_against 67 = .ok (.aload_n 0, 1) := by decide +kernel
theorem dX10_against_68 : decode cX10_against 68 = .ok (.getfield 31, 3) := by decide +kernel
theorem dX10_against_71 : decode cX10_against 71 = .ok (.iload 7, 2) := by decide +kernel
theorem dX10_against_73 : decode cX10_against 73 = .ok (.iaload, 1) := by decide +kernel
theorem dX10_against_74 : decode cX10_against 74 = .ok (.istore 8, 2) := by decide +kernel
theorem dX10_against_76 : decode cX10_against 76 = .ok (.iload 8, 2) := by decide +kernel
theorem dX10_against_78 : decode cX10_against 78 = .ok (.aload_n 0, 1) := by decide +kernel
theorem dX10_against_79 : decode cX10_against 79 = .ok (.iload 7, 2) := by decide +kernel
theorem dX10_against_81 : decode cX10_against 81 = .ok (.invokevirtual 129, 3) := by decide +kernel
theorem dX10_against_84 : decode cX10_against 84 = .ok (.if_icmp .ge 105, 3) := by decide +kernel
theorem dX10_against_87 : decode cX10_against 87 = .ok (.aload_n 0, 1) := by decide +kernel
theorem dX10_against_88 : decode cX10_against 88 = .ok (.iload 8, 2) := by decide +kernel
theorem dX10_against_90 : decode cX10_against 90 = .ok (.invokevirtual 132, 3) := by decide +kernel
theorem dX10_against_93 : decode cX10_against 93 = .ok (.ifCond .eq 17, 3) := by decide +kernel
theorem dX10_against_96 : decode cX10_against 96 = .ok (.aload_n 0, 1) := by decide +kernel
theorem dX10_against_97 : decode cX10_against 97 = .ok (.iload_n 3, 1) := by decide +kernel
theorem dX10_against_98 : decode cX10_against 98 = .ok (.iload 4, 2) := by decide +kernel
theorem dX10_against_100 : decode cX10_against 100 = .ok (.iload 7, 2) := by decide +kernel
theorem dX10_against_102 : decode cX10_against 102 = .ok (.iload 8, 2) := by decide +kernel
theorem dX10_against_104 : decode cX10_against 104 = .ok (.invokevirtual 185, 3) := by decide +kernel
theorem dX10_against_107 : decode cX10_against 107 = .ok (.goto 4, 3) := by decide +kernel
theorem dX10_against_110 : decode cX10_against 110 = .ok (.iconst 0, 1) := by decide +kernel
theorem dX10_against_111 : decode cX10_against 111 = .ok (.istore 9, 2) := by decide +kernel
theorem dX10_against_113 : decode cX10_against 113 = .ok (.iload 9, 2) := by decide +kernel
theorem dX10_against_115 : decode cX10_against 115 = .ok (.ifCond .le 68, 3) := by decide +kernel
theorem dX10_against_118 : decode cX10_against 118 = .ok (.aload_n 0, 1) := by decide +kernel
theorem dX10_against_119 : decode cX10_against 119 = .ok (.aload_n 0, 1) := by decide +kernel
theorem dX10_against_120 : decode cX10_against 120 = .ok (.getfield 16, 3) := by decide +kernel
theorem dX10_against_123 : decode cX10_against 123 = .ok (.iload 5, 2) := by decide +kernel
theorem dX10_against_125 : decode cX10_against 125 = .ok (.iaload, 1) := by decide +kernel
theorem dX10_against_126 : decode cX10_against 126 = .ok (.iload 7, 2) := by decide +kernel
theorem dX10_against_128 : decode cX10_against 128 = .ok (.aload_n 0, 1) := by decide +kernel
theorem dX10_against_129 : decode cX10_against 129 = .ok (.getfield 25, 3) := by decide +kernel
theorem dX10_against_132 : decode cX10_against 132 = .ok (.iload 5, 2) := by decide +kernel
theorem dX10_against_134 : decode cX10_against 134 = .ok (.iaload, 1) := by decide +kernel
theorem dX10_against_135 : decode cX10_against 135 = .ok (.isub, 1) := by decide +kernel
theorem dX10_against_136 : decode cX10_against 136 = .ok (.iload 8, 2) := by decide +kernel
theorem dX10_against_138 : decode cX10_against 138 = .ok (.aload_n 0, 1) := by decide +kernel
theorem dX10_against_139 : decode cX10_against 139 = .ok (.getfield 31, 3) := by decide +kernel
theorem dX10_against_142 : decode cX10_against 142 = .ok (.iload 7, 2) := by decide +kernel
theorem dX10_against_144 : decode cX10_against 144 = .ok (.iaload, 1) := by decide +kernel
theorem dX10_against_145 : decode cX10_against 145 = .ok (.isub, 1) := by decide +kernel
theorem dX10_against_146 : decode cX10_against 146 = .ok (.invokevirtual 188, 3) := by decide +kernel
theorem dX10_against_149 : decode cX10_against 149 = .ok (.aload_n 0, 1) := by decide +kernel
theorem dX10_against_150 : decode cX10_against 150 = .ok (.iload 9, 2) := by decide +kernel
theorem dX10_against_152 : decode cX10_against 152 = .ok (.bipush 6, 2) := by decide +kernel
theorem dX10_against_154 : decode cX10_against 154 = .ok (.iadd, 1) := by decide +kernel
theorem dX10_against_155 : decode cX10_against 155 = .ok (.iload_n 1, 1) := by decide +kernel
theorem dX10_against_156 : decode cX10_against 156 = .ok (.aload_n 0, 1) := by decide +kernel
theorem dX10_against_157 : decode cX10_against 157 = .ok (.getfield 16, 3) := by decide +kernel
theorem dX10_against_160 : decode cX10_against 160 = .ok (.iload_n 2, 1) := by decide +kernel
theorem dX10_against_161 : decode cX10_against 161 = .ok (.iaload, 1) := by decide +kernel
theorem dX10_against_162 : decode cX10_against 162 = .ok (.iload_n 3, 1) := by decide +kernel
theorem dX10_against_163 : decode cX10_against 163 = .ok (.aload_n 0, 1) := by decide +kernel
theorem dX10_against_164 : decode cX10_against 164 = .ok (.getfield 25, 3) := by decide +kernel
theorem dX10_against_167 : decode cX10_against 167 = .ok (.iload_n 2, 1) := by decide +kernel
theorem dX10_against_168 : decode cX10_against 168 = .ok (.iaload, 1) := by decide +kernel
theorem dX10_against_169 : decode cX10_against 169 = .ok (.isub, 1) := by decide +kernel
theorem dX10_against_170 : decode cX10_against 170 = .ok (.iload 4, 2) := by decide +kernel
theorem dX10_against_172 : decode cX10_against 172 = .ok (.aload_n 0, 1) := by decide +kernel
theorem dX10_against_173 : decode cX10_against 173 = .ok (.getfield 31, 3) := by decide +kernel
theorem dX10_against_176 : decode cX10_against 176 = .ok (.iload_n 3, 1) := by decide +kernel
theorem dX10_against_177 : decode cX10_against 177 = .ok (.iaload, 1) := by decide +kernel
theorem dX10_against_178 : decode cX10_against 178 = .ok (.isub, 1) := by decide +kernel
theorem dX10_against_179 : decode cX10_against 179 = .ok (.invokevirtual 178, 3) := by decide +kernel
theorem dX10_against_182 : decode cX10_against 182 = .ok (.ireturn, 1) := by decide +kernel
theorem dX10_against_183 : decode cX10_against 183 = .ok (.iinc 8 1, 3) := by decide +kernel
theorem dX10_against_186 : decode cX10_against 186 = .ok (.goto (-110), 3) := by decide +kernel
theorem dX10_against_189 : decode cX10_against 189 = .ok (.iinc 7 1, 3) := by decide +kernel
theorem dX10_against_192 : decode cX10_against 192 = .ok (.goto (-132), 3) := by decide +kernel
theorem dX10_against_195 : decode cX10_against 195 = .ok (.iinc 5 1, 3) := by decide +kernel
theorem dX10_against_198 : decode cX10_against 198 = .ok (.goto (-193), 3) := by decide +kernel
theorem dX10_against_201 : decode cX10_against 201 = .ok (.iconst 0, 1) := by decide +kernel
theorem dX10_against_202 : decode cX10_against 202 = .ok (.ireturn, 1) := by decide +kernel
theorem dX10_apart_0 : decode cX10_apart 0 = .ok (.iconst 0, 1) := by decide +kernel
theorem dX10_apart_1 : decode cX10_apart 1 = .ok (.istore_n 2, 1) := by decide +kernel
theorem dX10_apart_2 : decode cX10_apart 2 = .ok (.iload_n 2, 1) := by decide +kernel
theorem dX10_apart_3 : decode cX10_apart 3 = .ok (.aload_n 0, 1) := by decide +kernel
theorem dX10_apart_4 : decode cX10_apart 4 = .ok (.getfield 59, 3) := by decide +kernel
theorem dX10_apart_7 : decode cX10_apart 7 = .ok (.if_icmp .ge 120, 3) := by decide +kernel
theorem dX10_apart_10 : decode cX10_apart 10 = .ok (.aload_n 0, 1) := by decide +kernel
theorem dX10_apart_11 : decode cX10_apart 11 = .ok (.iload_n 2, 1) := by decide +kernel
theorem dX10_apart_12 : decode cX10_apart 12 = .ok (.iload_n 1, 1) := by decide +kernel
theorem dX10_apart_13 : decode cX10_apart 13 = .ok (.invokevirtual 214, 3) := by decide +kernel
theorem dX10_apart_16 : decode cX10_apart 16 = .ok (.ifCond .eq 19, 3) := by decide +kernel
theorem dX10_apart_19 : decode cX10_apart 19 = .ok (.aload_n 0, 1) := by decide +kernel
theorem dX10_apart_20 : decode cX10_apart 20 = .ok (.getfield 25, 3) := by decide +kernel
theorem dX10_apart_23 : decode cX10_apart 23 = .ok (.iload_n 2, 1) := by decide +kernel
theorem dX10_apart_24 : decode cX10_apart 24 = .ok (.iaload, 1) := by decide +kernel
theorem dX10_apart_25 : decode cX10_apart 25 = .ok (.aload_n 0, 1) := by decide +kernel
theorem dX10_apart_26 : decode cX10_apart 26 = .ok (.getfield 28, 3) := by decide +kernel
theorem dX10_apart_29 : decode cX10_apart 29 = .ok (.iload_n 2, 1) := by decide +kernel
theorem dX10_apart_30 : decode cX10_apart 30 = .ok (.iaload, 1) := by decide +kernel
theorem dX10_apart_31 : decode cX10_apart 31 = .ok (.iadd, 1) := by decide +kernel
theorem dX10_apart_32 : decode cX10_apart 32 = .ok (.goto 9, 3) := by decide +kernel
theorem dX10_apart_35 : decode cX10_apart 35 = .ok (.aload_n 0, 1) := by decide +kernel
theorem dX10_apart_36 : decode cX10_apart 36 = .ok (.getfield 25, 3) := by decide +kernel
theorem dX10_apart_39 : decode cX10_apart 39 = .ok (.iload_n 2, 1) := by decide +kernel
theorem dX10_apart_40 : decode cX10_apart 40 = .ok (.iaload, 1) := by decide +kernel
theorem dX10_apart_41 : decode cX10_apart 41 = .ok (.istore_n 3, 1) := by decide +kernel
theorem dX10_apart_42 : decode cX10_apart 42 = .ok (.aload_n 0, 1) := by decide +kernel
theorem dX10_apart_43 : decode cX10_apart 43 = .ok (.getfield 25, 3) := by decide +kernel
theorem dX10_apart_46 : decode cX10_apart 46 = .ok (.iload_n 2, 1) := by decide +kernel
theorem dX10_apart_47 : decode cX10_apart 47 = .ok (.iaload, 1) := by decide +kernel
theorem dX10_apart_48 : decode cX10_apart 48 = .ok (.istore 4, 2) := by decide +kernel
theorem dX10_apart_50 : decode cX10_apart 50 = .ok (.iload 4, 2) := by decide +kernel
theorem dX10_apart_52 : decode cX10_apart 52 = .ok (.iload_n 3, 1) := by decide +kernel
theorem dX10_apart_53 : decode cX10_apart 53 = .ok (.if_icmp .ge 68, 3) := by decide +kernel
theorem dX10_apart_56 : decode cX10_apart 56 = .ok (.aload_n 0, 1) := by decide +kernel
theorem dX10_apart_57 : decode cX10_apart 57 = .ok (.getfield 31, 3) := by decide +kernel
theorem dX10_apart_60 : decode cX10_apart 60 = .ok (.iload 4, 2) := by decide +kernel
theorem dX10_apart_62 : decode cX10_apart 62 = .ok (.iaload, 1) := by decide +kernel
theorem dX10_apart_63 : decode cX10_apart 63 = .ok (.istore 5, 2) := by decide +kernel
theorem dX10_apart_65 : decode cX10_apart 65 = .ok (.iload 5, 2) := by decide +kernel
theorem dX10_apart_67 : decode cX10_apart 67 = .ok (.aload_n 0, 1) := by decide +kernel
theorem dX10_apart_68 : decode cX10_apart 68 = .ok (.iload 4, 2) := by decide +kernel
theorem dX10_apart_70 : decode cX10_apart 70 = .ok (.invokevirtual 129, 3) := by decide +kernel
theorem dX10_apart_73 : decode cX10_apart 73 = .ok (.if_icmp .ge 42, 3) := by decide +kernel
theorem dX10_apart_76 : decode cX10_apart 76 = .ok (.aload_n 0, 1) := by decide +kernel
theorem dX10_apart_77 : decode cX10_apart 77 = .ok (.iload 5, 2) := by decide +kernel
theorem dX10_apart_79 : decode cX10_apart 79 = .ok (.invokevirtual 132, 3) := by decide +kernel
theorem dX10_apart_82 : decode cX10_apart 82 = .ok (.ifCond .eq 16, 3) := by decide +kernel
theorem dX10_apart_85 : decode cX10_apart 85 = .ok (.aload_n 0, 1) := by decide +kernel
theorem dX10_apart_86 : decode cX10_apart 86 = .ok (.iload_n 1, 1) := by decide +kernel
theorem dX10_apart_87 : decode cX10_apart 87 = .ok (.iload_n 2, 1) := by decide +kernel
theorem dX10_apart_88 : decode cX10_apart 88 = .ok (.iload 4, 2) := by decide +kernel
theorem dX10_apart_90 : decode cX10_apart 90 = .ok (.iload 5, 2) := by decide +kernel
theorem dX10_apart_92 : decode cX10_apart 92 = .ok (.invokevirtual 217, 3) := by decide +kernel
theorem dX10_apart_95 : decode cX10_apart 95 = .ok (.goto 4, 3) := by decide +kernel
theorem dX10_apart_98 : decode cX10_apart 98 = .ok (.iconst 0, 1) := by decide +kernel
theorem dX10_apart_99 : decode cX10_apart 99 = .ok (.istore 6, 2) := by decide +kernel
theorem dX10_apart_101 : decode cX10_apart 101 = .ok (.iload 6, 2) := by decide +kernel
theorem dX10_apart_103 : decode cX10_apart 103 = .ok (.ifCond .le 6, 3) := by decide +kernel
theorem dX10_apart_106 : decode cX10_apart 106 = .ok (.iload 6, 2) := by decide +kernel
theorem dX10_apart_108 : decode cX10_apart 108 = .ok (.ireturn, 1) := by decide +kernel
theorem dX10_apart_109 : decode cX10_apart 109 = .ok (.iinc 5 1, 3) := by decide +kernel
theorem dX10_apart_112 : decode cX10_apart 112 = .ok (.goto (-47), 3) := by decide +kernel
theorem dX10_apart_115 : decode cX10_apart 115 = .ok (.iinc 4 1, 3) := by decide +kernel
theorem dX10_apart_118 : decode cX10_apart 118 = .ok (.goto (-68), 3) := by decide +kernel
theorem dX10_apart_121 : decode cX10_apart 121 = .ok (.iinc 2 1, 3) := by decide +kernel
theorem dX10_apart_124 : decode cX10_apart 124 = .ok (.goto (-122), 3) := by decide +kernel
theorem dX10_apart_127 : decode cX10_apart 127 = .ok (.iconst 0, 1) := by decide +kernel
theorem dX10_apart_128 : decode cX10_apart 128 = .ok (.ireturn, 1) := by decide +kernel
theorem dX10_isInside_0 : decode cX10_isInside 0 = .ok (.aload_n 0, 1) := by decide +kernel
theorem dX10_isInside_1 : decode cX10_isInside 1 = .ok (.aload_n 0, 1) := by decide +kernel
theorem dX10_isInside_2 : decode cX10_isInside 2 = .ok (.getfield 25, 3) := by decide +kernel
theorem dX10_isInside_5 : decode cX10_isInside 5 = .ok (.iload_n 1, 1) := by decide +kernel
theorem dX10_isInside_6 : decode cX10_isInside 6 = .ok (.iaload, 1) := by decide +kernel
theorem dX10_isInside_7 : decode cX10_isInside 7 = .ok (.aload_n 0, 1) := by decide +kernel
theorem dX10_isInside_8 : decode cX10_isInside 8 = .ok (.getfield 25, 3) := by decide +kernel
theorem dX10_isInside_11 : decode cX10_isInside 11 = .ok (.iload_n 2, 1) := by decide +kernel
theorem dX10_isInside_12 : decode cX10_isInside 12 = .ok (.iaload, 1) := by decide +kernel
theorem dX10_isInside_13 : decode cX10_isInside 13 = .ok (.invokevirtual 192, 3) := by decide +kernel
theorem dX10_isInside_16 : decode cX10_isInside 16 = .ok (.istore_n 3, 1) := by decide +kernel
theorem dX10_isInside_17 : decode cX10_isInside 17 = .ok (.iconst 1, 1) := by decide +kernel
theorem dX10_isInside_18 : decode cX10_isInside 18 = .ok (.istore 4, 2) := by decide +kernel
theorem dX10_isInside_20 : decode cX10_isInside 20 = .ok (.iload 4, 2) := by decide +kernel
theorem dX10_isInside_22 : decode cX10_isInside 22 = .ok (.aload_n 0, 1) := by decide +kernel
theorem dX10_isInside_23 : decode cX10_isInside 23 = .ok (.getfield 28, 3) := by decide +kernel
theorem dX10_isInside_26 : decode cX10_isInside 26 = .ok (.iload_n 2, 1) := by decide +kernel
theorem dX10_isInside_27 : decode cX10_isInside 27 = .ok (.iaload, 1) := by decide +kernel
theorem dX10_isInside_28 : decode cX10_isInside 28 = .ok (.if_icmp .ge 41, 3) := by decide +kernel
theorem dX10_isInside_31 : decode cX10_isInside 31 = .ok (.iload_n 3, 1) := by decide +kernel
theorem dX10_isInside_32 : decode cX10_isInside 32 = .ok (.ifCond .eq 37, 3) := by decide +kernel
theorem dX10_isInside_35 : decode cX10_isInside 35 = .ok (.aload_n 0, 1) := by decide +kernel
theorem dX10_isInside_36 : decode cX10_isInside 36 = .ok (.aload_n 0, 1) := by decide +kernel
theorem dX10_isInside_37 : decode cX10_isInside 37 = .ok (.getfield 25, 3) := by decide +kernel
theorem dX10_isInside_40 : decode cX10_isInside 40 = .ok (.iload_n 1, 1) := by decide +kernel
theorem dX10_isInside_41 : decode cX10_isInside 41 = .ok (.iaload, 1) := by decide +kernel
theorem dX10_isInside_42 : decode cX10_isInside 42 = .ok (.aload_n 0, 1) := by decide +kernel
theorem dX10_isInside_43 : decode cX10_isInside 43 = .ok (.getfield 25, 3) := by decide +kernel
theorem dX10_isInside_46 : decode cX10_isInside 46 = .ok (.iload_n 2, 1) := by decide +kernel
theorem dX10_isInside_47 : decode cX10_isInside 47 = .ok (.iaload, 1) := by decide +kernel
theorem dX10_isInside_48 : decode cX10_isInside 48 = .ok (.iload 4, 2) := by decide +kernel
theorem dX10_isInside_50 : decode cX10_isInside 50 = .ok (.iadd, 1) := by decide +kernel
theorem dX10_isInside_51 : decode cX10_isInside 51 = .ok (.invokevirtual 192, 3) := by decide +kernel
theorem dX10_isInside_54 : decode cX10_isInside 54 = .ok (.ifCond .ne 7, 3) := by decide +kernel
theorem dX10_isInside_57 : decode cX10_isInside 57 = .ok (.iconst 1, 1) := by decide +kernel
theorem dX10_isInside_58 : decode cX10_isInside 58 = .ok (.goto 4, 3) := by decide +kernel
theorem dX10_isInside_61 : decode cX10_isInside 61 = .ok (.iconst 0, 1) := by decide +kernel
theorem dX10_isInside_62 : decode cX10_isInside 62 = .ok (.istore_n 3, 1) := by decide +kernel
theorem dX10_isInside_63 : decode cX10_isInside 63 = .ok (.iinc 4 1, 3) := by decide +kernel
theorem dX10_isInside_66 : decode cX10_isInside 66 = .ok (.goto (-46), 3) := by decide +kernel
theorem dX10_isInside_69 : decode cX10_isInside 69 = .ok (.iload_n 3, 1) := by decide +kernel
theorem dX10_isInside_70 : decode cX10_isInside 70 = .ok (.ireturn, 1) := by decide +kernel
theorem dX10_polygons_0 : decode cX10_polygons 0 = .ok (.iload_n 1, 1) := by decide +kernel
theorem dX10_polygons_1 : decode cX10_polygons 1 = .ok (.iconst 1, 1) := by decide +kernel
theorem dX10_polygons_2 : decode cX10_polygons 2 = .ok (.iadd, 1) := by decide +kernel
theorem dX10_polygons_3 : decode cX10_polygons 3 = .ok (.istore_n 2, 1) := by decide +kernel
theorem dX10_polygons_4 : decode cX10_polygons 4 = .ok (.iload_n 2, 1) := by decide +kernel
theorem dX10_polygons_5 : decode cX10_polygons 5 = .ok (.aload_n 0, 1) := by decide +kernel
theorem dX10_polygons_6 : decode cX10_polygons 6 = .ok (.getfield 59, 3) := by decide +kernel
theorem dX10_polygons_9 : decode cX10_polygons 9 = .ok (.if_icmp .ge 41, 3) := by decide +kernel
theorem dX10_polygons_12 : decode cX10_polygons 12 = .ok (.aload_n 0, 1) := by decide +kernel
theorem dX10_polygons_13 : decode cX10_polygons 13 = .ok (.iload_n 2, 1) := by decide +kernel
theorem dX10_polygons_14 : decode cX10_polygons 14 = .ok (.iload_n 1, 1) := by decide +kernel
theorem dX10_polygons_15 : decode cX10_polygons 15 = .ok (.invokevirtual 214, 3) := by decide +kernel
theorem dX10_polygons_18 : decode cX10_polygons 18 = .ok (.ifCond .eq 18, 3) := by decide +kernel
theorem dX10_polygons_21 : decode cX10_polygons 21 = .ok (.aload_n 0, 1) := by decide +kernel
theorem dX10_polygons_22 : decode cX10_polygons 22 = .ok (.iload_n 2, 1) := by decide +kernel
theorem dX10_polygons_23 : decode cX10_polygons 23 = .ok (.iload_n 1, 1) := by decide +kernel
theorem dX10_polygons_24 : decode cX10_polygons 24 = .ok (.aload_n 0, 1) := by decide +kernel
theorem dX10_polygons_25 : decode cX10_polygons 25 = .ok (.getfield 16, 3) := by decide +kernel
theorem dX10_polygons_28 : decode cX10_polygons 28 = .ok (.iload_n 2, 1) := by decide +kernel
theorem dX10_polygons_29 : decode cX10_polygons 29 = .ok (.iaload, 1) := by decide +kernel
theorem dX10_polygons_30 : decode cX10_polygons 30 = .ok (.invokevirtual 220, 3) := by decide +kernel
theorem dX10_polygons_33 : decode cX10_polygons 33 = .ok (.goto 4, 3) := by decide +kernel
theorem dX10_polygons_36 : decode cX10_polygons 36 = .ok (.iconst 0, 1) := by decide +kernel
theorem dX10_polygons_37 : decode cX10_polygons 37 = .ok (.istore_n 3, 1) := by decide +kernel
theorem dX10_polygons_38 : decode cX10_polygons 38 = .ok (.iload_n 3, 1) := by decide +kernel
theorem dX10_polygons_39 : decode cX10_polygons 39 = .ok (.ifCond .le 5, 3) := by decide +kernel
theorem dX10_polygons_42 : decode cX10_polygons 42 = .ok (.iload_n 3, 1) := by decide +kernel
theorem dX10_polygons_43 : decode cX10_polygons 43 = .ok (.ireturn, 1) := by decide +kernel
theorem dX10_polygons_44 : decode cX10_polygons 44 = .ok (.iinc 2 1, 3) := by decide +kernel
theorem dX10_polygons_47 : decode cX10_polygons 47 = .ok (.goto (-43), 3) := by decide +kernel
theorem dX10_polygons_50 : decode cX10_polygons 50 = .ok (.aload_n 0, 1) := by decide +kernel
theorem dX10_polygons_51 : decode cX10_polygons 51 = .ok (.iload_n 1, 1) := by decide +kernel
theorem dX10_polygons_52 : decode cX10_polygons 52 = .ok (.invokevirtual 223, 3) := by decide +kernel
theorem dX10_polygons_55 : decode cX10_polygons 55 = .ok (.istore_n 2, 1) := by decide +kernel
theorem dX10_polygons_56 : decode cX10_polygons 56 = .ok (.iload_n 2, 1) := by decide +kernel
theorem dX10_polygons_57 : decode cX10_polygons 57 = .ok (.ifCond .le 5, 3) := by decide +kernel
theorem dX10_polygons_60 : decode cX10_polygons 60 = .ok (.iload_n 2, 1) := by decide +kernel
theorem dX10_polygons_61 : decode cX10_polygons 61 = .ok (.ireturn, 1) := by decide +kernel
theorem dX10_polygons_62 : decode cX10_polygons 62 = .ok (.iload_n 1, 1) := by decide +kernel
theorem dX10_polygons_63 : decode cX10_polygons 63 = .ok (.iconst 1, 1) := by decide +kernel
theorem dX10_polygons_64 : decode cX10_polygons 64 = .ok (.iadd, 1) := by decide +kernel
theorem dX10_polygons_65 : decode cX10_polygons 65 = .ok (.istore_n 3, 1) := by decide +kernel
theorem dX10_polygons_66 : decode cX10_polygons 66 = .ok (.iload_n 3, 1) := by decide +kernel
theorem dX10_polygons_67 : decode cX10_polygons 67 = .ok (.aload_n 0, 1) := by decide +kernel
theorem dX10_polygons_68 : decode cX10_polygons 68 = .ok (.getfield 59, 3) := by decide +kernel
theorem dX10_polygons_71 : decode cX10_polygons 71 = .ok (.if_icmp .ge 97, 3) := by decide +kernel
theorem dX10_polygons_74 : decode cX10_polygons 74 = .ok (.iload_n 3, 1) := by decide +kernel
theorem dX10_polygons_75 : decode cX10_polygons 75 = .ok (.iconst 1, 1) := by decide +kernel
theorem dX10_polygons_76 : decode cX10_polygons 76 = .ok (.iadd, 1) := by decide +kernel
theorem dX10_polygons_77 : decode cX10_polygons 77 = .ok (.istore 4, 2) := by decide +kernel
theorem dX10_polygons_79 : decode cX10_polygons 79 = .ok (.iload 4, 2) := by decide +kernel
theorem dX10_polygons_81 : decode cX10_polygons 81 = .ok (.aload_n 0, 1) := by decide +kernel
theorem dX10_polygons_82 : decode cX10_polygons 82 = .ok (.getfield 59, 3) := by decide +kernel
theorem dX10_polygons_85 : decode cX10_polygons 85 = .ok (.if_icmp .ge 77, 3) := by decide +kernel
theorem dX10_polygons_88 : decode cX10_polygons 88 = .ok (.aload_n 0, 1) := by decide +kernel
theorem dX10_polygons_89 : decode cX10_polygons 89 = .ok (.iload_n 3, 1) := by decide +kernel
theorem dX10_polygons_90 : decode cX10_polygons 90 = .ok (.iload_n 1, 1) := by decide +kernel
theorem dX10_polygons_91 : decode cX10_polygons 91 = .ok (.invokevirtual 214, 3) := by decide +kernel
theorem dX10_polygons_94 : decode cX10_polygons 94 = .ok (.ifCond .eq 68, 3) := by decide +kernel
theorem dX10_polygons_97 : decode cX10_polygons 97 = .ok (.aload_n 0, 1) := by decide +kernel
theorem dX10_polygons_98 : decode cX10_polygons 98 = .ok (.iload 4, 2) := by decide +kernel
theorem dX10_polygons_100 : decode cX10_polygons 100 = .ok (.iload_n 1, 1) := by decide +kernel
theorem dX10_polygons_101 : decode cX10_polygons 101 = .ok (.invokevirtual 214, 3) := by decide +kernel
theorem dX10_polygons_104 : decode cX10_polygons 104 = .ok (.ifCond .eq 52, 3) := by decide +kernel
theorem dX10_polygons_107 : decode cX10_polygons 107 = .ok (.aload_n 0, 1) := by decide +kernel
theorem dX10_polygons_108 : decode cX10_polygons 108 = .ok (.iload_n 3, 1) := by decide +kernel
theorem dX10_polygons_109 : decode cX10_polygons 109 = .ok (.iload 4, 2) := by decide +kernel
theorem dX10_polygons_111 : decode cX10_polygons 111 = .ok (.invokevirtual 226, 3) := by decide +kernel
theorem dX10_polygons_114 : decode cX10_polygons 114 = .ok (.ifCond .ne 13, 3) := by decide +kernel
theorem dX10_polygons_117 : decode cX10_polygons 117 = .ok (.aload_n 0, 1) := by decide +kernel
theorem dX10_polygons_118 : decode cX10_polygons 118 = .ok (.iload 4, 2) := by decide +kernel
theorem dX10_polygons_120 : decode cX10_polygons 120 = .ok (.iload_n 3, 1) := by decide +kernel
theorem dX10_polygons_121 : decode cX10_polygons 121 = .ok (.invokevirtual 226, 3) := by decide +kernel
theorem dX10_polygons_124 : decode cX10_polygons 124 = .ok (.ifCond .eq 32, 3) := by decide +kernel
theorem dX10_polygons_127 : decode cX10_polygons 127 = .ok (.aload_n 0, 1) := by decide +kernel
theorem dX10_polygons_128 : decode cX10_polygons 128 = .ok (.aload_n 0, 1) := by decide +kernel
theorem dX10_polygons_129 : decode cX10_polygons 129 = .ok (.getfield 16, 3) := by decide +kernel
theorem dX10_polygons_132 : decode cX10_polygons 132 = .ok (.iload 4, 2) := by decide +kernel
theorem dX10_polygons_134 : decode cX10_polygons 134 = .ok (.iaload, 1) := by decide +kernel
theorem dX10_polygons_135 : decode cX10_polygons 135 = .ok (.iconst (-1), 1) := by decide +kernel
theorem dX10_polygons_136 : decode cX10_polygons 136 = .ok (.iconst (-1), 1) := by decide +kernel
theorem dX10_polygons_137 : decode cX10_polygons 137 = .ok (.invokevirtual 188, 3) := by decide +kernel
theorem dX10_polygons_140 : decode cX10_polygons 140 = .ok (.aload_n 0, 1) := by decide +kernel
theorem dX10_polygons_141 : decode cX10_polygons 141 = .ok (.bipush 11, 2) := by decide +kernel
theorem dX10_polygons_143 : decode cX10_polygons 143 = .ok (.iload_n 1, 1) := by decide +kernel
theorem dX10_polygons_144 : decode cX10_polygons 144 = .ok (.aload_n 0, 1) := by decide +kernel
theorem dX10_polygons_145 : decode cX10_polygons 145 = .ok (.getfield 16, 3) := by decide +kernel
theorem dX10_polygons_148 : decode cX10_polygons 148 = .ok (.iload_n 3, 1) := by decide +kernel
theorem dX10_polygons_149 : decode cX10_polygons 149 = .ok (.iaload, 1) := by decide +kernel
theorem dX10_polygons_150 : decode cX10_polygons 150 = .ok (.iconst (-1), 1) := by decide +kernel
theorem dX10_polygons_151 : decode cX10_polygons 151 = .ok (.iconst (-1), 1) := by decide +kernel
theorem dX10_polygons_152 : decode cX10_polygons 152 = .ok (.invokevirtual 178, 3) := by decide +kernel
theorem dX10_polygons_155 : decode cX10_polygons 155 = .ok (.ireturn, 1) := by decide +kernel
theorem dX10_polygons_156 : decode cX10_polygons 156 = .ok (.iinc 4 1, 3) := by decide +kernel
theorem dX10_polygons_159 : decode cX10_polygons 159 = .ok (.goto (-80), 3) := by decide +kernel
theorem dX10_polygons_162 : decode cX10_polygons 162 = .ok (.iinc 3 1, 3) := by decide +kernel
theorem dX10_polygons_165 : decode cX10_polygons 165 = .ok (.goto (-99), 3) := by decide +kernel
theorem dX10_polygons_168 : decode cX10_polygons 168 = .ok (.iconst 0, 1) := by decide +kernel
theorem dX10_polygons_169 : decode cX10_polygons 169 = .ok (.ireturn, 1) := by decide +kernel
theorem dX10_judge_0 : decode cX10_judge 0 = .ok (.aload_n 0, 1) := by decide +kernel
theorem dX10_judge_1 : decode cX10_judge 1 = .ok (.iconst 0, 1) := by decide +kernel
theorem dX10_judge_2 : decode cX10_judge 2 = .ok (.putfield 52, 3) := by decide +kernel
theorem dX10_judge_5 : decode cX10_judge 5 = .ok (.aload_n 0, 1) := by decide +kernel
theorem dX10_judge_6 : decode cX10_judge 6 = .ok (.getfield 59, 3) := by decide +kernel
theorem dX10_judge_9 : decode cX10_judge 9 = .ok (.ifCond .eq 10, 3) := by decide +kernel
theorem dX10_judge_12 : decode cX10_judge 12 = .ok (.aload_n 0, 1) := by decide +kernel
theorem dX10_judge_13 : decode cX10_judge 13 = .ok (.getfield 68, 3) := by decide +kernel
theorem dX10_judge_16 : decode cX10_judge 16 = .ok (.ifCond .le 9, 3) := by decide +kernel
theorem dX10_judge_19 : decode cX10_judge 19 = .ok (.aload_n 0, 1) := by decide +kernel
theorem dX10_judge_20 : decode cX10_judge 20 = .ok (.iconst 1, 1) := by decide +kernel
theorem dX10_judge_21 : decode cX10_judge 21 = .ok (.invokevirtual 82, 3) := by decide +kernel
theorem dX10_judge_24 : decode cX10_judge 24 = .ok (.ireturn, 1) := by decide +kernel
theorem dX10_judge_25 : decode cX10_judge 25 = .ok (.aload_n 0, 1) := by decide +kernel
theorem dX10_judge_26 : decode cX10_judge 26 = .ok (.invokevirtual 71, 3) := by decide +kernel
theorem dX10_judge_29 : decode cX10_judge 29 = .ok (.iconst 0, 1) := by decide +kernel
theorem dX10_judge_30 : decode cX10_judge 30 = .ok (.istore_n 1, 1) := by decide +kernel
theorem dX10_judge_31 : decode cX10_judge 31 = .ok (.iload_n 1, 1) := by decide +kernel
theorem dX10_judge_32 : decode cX10_judge 32 = .ok (.aload_n 0, 1) := by decide +kernel
theorem dX10_judge_33 : decode cX10_judge 33 = .ok (.getfield 59, 3) := by decide +kernel
theorem dX10_judge_36 : decode cX10_judge 36 = .ok (.if_icmp .ge 101, 3) := by decide +kernel
theorem dX10_judge_39 : decode cX10_judge 39 = .ok (.iconst 0, 1) := by decide +kernel
theorem dX10_judge_40 : decode cX10_judge 40 = .ok (.istore_n 2, 1) := by decide +kernel
theorem dX10_judge_41 : decode cX10_judge 41 = .ok (.aload_n 0, 1) := by decide +kernel
theorem dX10_judge_42 : decode cX10_judge 42 = .ok (.getfield 7, 3) := by decide +kernel
theorem dX10_judge_45 : decode cX10_judge 45 = .ok (.iload_n 1, 1) := by decide +kernel
theorem dX10_judge_46 : decode cX10_judge 46 = .ok (.iaload, 1) := by decide +kernel
theorem dX10_judge_47 : decode cX10_judge 47 = .ok (.iconst 2, 1) := by decide +kernel
theorem dX10_judge_48 : decode cX10_judge 48 = .ok (.if_icmp .ne 42, 3) := by decide +kernel
theorem dX10_judge_51 : decode cX10_judge 51 = .ok (.aload_n 0, 1) := by decide +kernel
theorem dX10_judge_52 : decode cX10_judge 52 = .ok (.getfield 22, 3) := by decide +kernel
theorem dX10_judge_55 : decode cX10_judge 55 = .ok (.iload_n 1, 1) := by decide +kernel
theorem dX10_judge_56 : decode cX10_judge 56 = .ok (.iaload, 1) := by decide +kernel
theorem dX10_judge_57 : decode cX10_judge 57 = .ok (.ifCond .le 33, 3) := by decide +kernel
theorem dX10_judge_60 : decode cX10_judge 60 = .ok (.aload_n 0, 1) := by decide +kernel
theorem dX10_judge_61 : decode cX10_judge 61 = .ok (.aload_n 0, 1) := by decide +kernel
theorem dX10_judge_62 : decode cX10_judge 62 = .ok (.getfield 19, 3) := by decide +kernel
theorem dX10_judge_65 : decode cX10_judge 65 = .ok (.iload_n 1, 1) := by decide +kernel
theorem dX10_judge_66 : decode cX10_judge 66 = .ok (.iaload, 1) := by decide +kernel
theorem dX10_judge_67 : decode cX10_judge 67 = .ok (.aload_n 0, 1) := by decide +kernel
theorem dX10_judge_68 : decode cX10_judge 68 = .ok (.getfield 22, 3) := by decide +kernel
theorem dX10_judge_71 : decode cX10_judge 71 = .ok (.iload_n 1, 1) := by decide +kernel
theorem dX10_judge_72 : decode cX10_judge 72 = .ok (.iaload, 1) := by decide +kernel
theorem dX10_judge_73 : decode cX10_judge 73 = .ok (.iconst 2, 1) := by decide +kernel
theorem dX10_judge_74 : decode cX10_judge 74 = .ok (.invokevirtual 182, 3) := by decide +kernel
theorem dX10_judge_77 : decode cX10_judge 77 = .ok (.ifCond .eq 13, 3) := by decide +kernel
theorem dX10_judge_80 : decode cX10_judge 80 = .ok (.aload_n 0, 1) := by decide +kernel
theorem dX10_judge_81 : decode cX10_judge 81 = .ok (.iconst 2, 1) := by decide +kernel
theorem dX10_judge_82 : decode cX10_judge 82 = .ok (.iload_n 1, 1) := by decide +kernel
theorem dX10_judge_83 : decode cX10_judge 83 = .ok (.iconst (-1), 1) := by decide +kernel
theorem dX10_judge_84 : decode cX10_judge 84 = .ok (.iconst (-1), 1) := by decide +kernel
theorem dX10_judge_85 : decode cX10_judge 85 = .ok (.iconst (-1), 1) := by decide +kernel
theorem dX10_judge_86 : decode cX10_judge 86 = .ok (.invokevirtual 178, 3) := by decide +kernel
theorem dX10_judge_89 : decode cX10_judge 89 = .ok (.istore_n 2, 1) := by decide +kernel
theorem dX10_judge_90 : decode cX10_judge 90 = .ok (.aload_n 0, 1) := by decide +kernel
theorem dX10_judge_91 : decode cX10_judge 91 = .ok (.getfield 7, 3) := by decide +kernel
theorem dX10_judge_94 : decode cX10_judge 94 = .ok (.iload_n 1, 1) := by decide +kernel
theorem dX10_judge_95 : decode cX10_judge 95 = .ok (.iaload, 1) := by decide +kernel
theorem dX10_judge_96 : decode cX10_judge 96 = .ok (.iconst 3, 1) := by decide +kernel
theorem dX10_judge_97 : decode cX10_judge 97 = .ok (.if_icmp .ne 11, 3) := by decide +kernel
theorem dX10_judge_100 : decode cX10_judge 100 = .ok (.aload_n 0, 1) := by decide +kernel
theorem dX10_judge_101 : decode cX10_judge 101 = .ok (.iload_n 1, 1) := by decide +kernel
theorem dX10_judge_102 : decode cX10_judge 102 = .ok (.iload_n 1, 1) := by decide +kernel
theorem dX10_judge_103 : decode cX10_judge 103 = .ok (.iconst 0, 1) := by decide +kernel
theorem dX10_judge_104 : decode cX10_judge 104 = .ok (.invokevirtual 220, 3) := by decide +kernel
theorem dX10_judge_107 : decode cX10_judge 107 = .ok (.istore_n 2, 1) := by decide +kernel
theorem dX10_judge_108 : decode cX10_judge 108 = .ok (.aload_n 0, 1) := by decide +kernel
theorem dX10_judge_109 : decode cX10_judge 109 = .ok (.getfield 7, 3) := by decide +kernel
theorem dX10_judge_112 : decode cX10_judge 112 = .ok (.iload_n 1, 1) := by decide +kernel
theorem dX10_judge_113 : decode cX10_judge 113 = .ok (.iaload, 1) := by decide +kernel
theorem dX10_judge_114 : decode cX10_judge 114 = .ok (.bipush 6, 2) := by decide +kernel
theorem dX10_judge_116 : decode cX10_judge 116 = .ok (.if_icmp .ne 9, 3) := by decide +kernel
theorem dX10_judge_119 : decode cX10_judge 119 = .ok (.aload_n 0, 1) := by decide +kernel
theorem dX10_judge_120 : decode cX10_judge 120 = .ok (.iload_n 1, 1) := by decide +kernel
theorem dX10_judge_121 : decode cX10_judge 121 = .ok (.invokevirtual 229, 3) := by decide +kernel
theorem dX10_judge_124 : decode cX10_judge 124 = .ok (.istore_n 2, 1) := by decide +kernel
theorem dX10_judge_125 : decode cX10_judge 125 = .ok (.iload_n 2, 1) := by decide +kernel
theorem dX10_judge_126 : decode cX10_judge 126 = .ok (.ifCond .le 5, 3) := by decide +kernel
theorem dX10_judge_129 : decode cX10_judge 129 = .ok (.iload_n 2, 1) := by decide +kernel
theorem dX10_judge_130 : decode cX10_judge 130 = .ok (.ireturn, 1) := by decide +kernel
theorem dX10_judge_131 : decode cX10_judge 131 = .ok (.iinc 1 1, 3) := by decide +kernel
theorem dX10_judge_134 : decode cX10_judge 134 = .ok (.goto (-103), 3) := by decide +kernel
theorem dX10_judge_137 : decode cX10_judge 137 = .ok (.iconst 0, 1) := by decide +kernel
theorem dX10_judge_138 : decode cX10_judge 138 = .ok (.ireturn, 1) := by decide +kernel
end
section
theorem dJ9_max_7cf53_0 : decode cJ9_max_7cf53 0 = .ok (.iload_n 0, 1) := by decide +kernel
theorem dJ9_max_7cf53_1 : decode cJ9_max_7cf53 1 = .ok (.iload_n 1, 1) := by decide +kernel
theorem dJ9_max_7cf53_2 : decode cJ9_max_7cf53 2 = .ok (.if_icmp .lt 7, 3) := by decide +kernel
theorem dJ9_max_7cf53_5 : decode cJ9_max_7cf53 5 = .ok (.iload_n 0, 1) := by decide +kernel
theorem dJ9_max_7cf53_6 : decode cJ9_max_7cf53 6 = .ok (.goto 4, 3) := by decide +kernel
theorem dJ9_max_7cf53_9 : decode cJ9_max_7cf53 9 = .ok (.iload_n 1, 1) := by decide +kernel
theorem dJ9_max_7cf53_10 : decode cJ9_max_7cf53 10 = .ok (.ireturn, 1) := by decide +kernel
theorem dJ9_min_7cf53_0 : decode cJ9_min_7cf53 0 = .ok (.iload_n 0, 1) := by decide +kernel
theorem dJ9_min_7cf53_1 : decode cJ9_min_7cf53 1 = .ok (.iload_n 1, 1) := by decide +kernel
theorem dJ9_min_7cf53_2 : decode cJ9_min_7cf53 2 = .ok (.if_icmp .gt 7, 3) := by decide +kernel
theorem dJ9_min_7cf53_5 : decode cJ9_min_7cf53 5 = .ok (.iload_n 0, 1) := by decide +kernel
theorem dJ9_min_7cf53_6 : decode cJ9_min_7cf53 6 = .ok (.goto 4, 3) := by decide +kernel
theorem dJ9_min_7cf53_9 : decode cJ9_min_7cf53 9 = .ok (.iload_n 1, 1) := by decide +kernel
theorem dJ9_min_7cf53_10 : decode cJ9_min_7cf53 10 = .ok (.ireturn, 1) := by decide +kernel
theorem dJ7_fill_53178_0 : decode cJ7_fill_53178 0 = .ok (.iconst 0, 1) := by decide +kernel
theorem dJ7_fill_53178_1 : decode cJ7_fill_53178 1 = .ok (.istore_n 2, 1) := by decide +kernel
theorem dJ7_fill_53178_2 : decode cJ7_fill_53178 2 = .ok (.aload_n 0, 1) := by decide +kernel
theorem dJ7_fill_53178_3 : decode cJ7_fill_53178 3 = .ok (.arraylength, 1) := by decide +kernel
theorem dJ7_fill_53178_4 : decode cJ7_fill_53178 4 = .ok (.istore_n 3, 1) := by decide +kernel
theorem dJ7_fill_53178_5 : decode cJ7_fill_53178 5 = .ok (.iload_n 2, 1) := by decide +kernel
theorem dJ7_fill_53178_6 : decode cJ7_fill_53178 6 = .ok (.iload_n 3, 1) := by decide +kernel
theorem dJ7_fill_53178_7 : decode cJ7_fill_53178 7 = .ok (.if_icmp .ge 13, 3) := by decide +kernel
theorem dJ7_fill_53178_10 : decode cJ7_fill_53178 10 = .ok (.aload_n 0, 1) := by decide +kernel
theorem dJ7_fill_53178_11 : decode cJ7_fill_53178 11 = .ok (.iload_n 2, 1) := by decide +kernel
theorem dJ7_fill_53178_12 : decode cJ7_fill_53178 12 = .ok (.iload_n 1, 1) := by decide +kernel
theorem dJ7_fill_53178_13 : decode cJ7_fill_53178 13 = .ok (.iastore, 1) := by decide +kernel
theorem dJ7_fill_53178_14 : decode cJ7_fill_53178 14 = .ok (.iinc 2 1, 3) := by decide +kernel
theorem dJ7_fill_53178_17 : decode cJ7_fill_53178 17 = .ok (.goto (-12), 3) := by decide +kernel
theorem dJ7_fill_53178_20 : decode cJ7_fill_53178 20 = .ok (.return_, 1) := by decide +kernel
theorem dJ7_copyOf_59c91_0 : decode cJ7_copyOf_59c91 0 = .ok (.iload_n 1, 1) := by decide +kernel
theorem dJ7_copyOf_59c91_1 : decode cJ7_copyOf_59c91 1 = .ok (.aload_n 0, 1) := by decide +kernel
theorem dJ7_copyOf_59c91_2 : decode cJ7_copyOf_59c91 2 = .ok (.arraylength, 1) := by decide +kernel
theorem dJ7_copyOf_59c91_3 : decode cJ7_copyOf_59c91 3 = .ok (.if_icmp .ne 11, 3) := by decide +kernel
theorem dJ7_copyOf_59c91_6 : decode cJ7_copyOf_59c91 6 = .ok (.aload_n 0, 1) := by decide +kernel
theorem dJ7_copyOf_59c91_7 : decode cJ7_copyOf_59c91 7 = .ok (.invokevirtual 316, 3) := by decide +kernel
theorem dJ7_copyOf_59c91_10 : decode cJ7_copyOf_59c91 10 = .ok (.checkcast 317, 3) := by decide +kernel
theorem dJ7_copyOf_59c91_13 : decode cJ7_copyOf_59c91 13 = .ok (.areturn, 1) := by decide +kernel
theorem dJ7_copyOf_59c91_14 : decode cJ7_copyOf_59c91 14 = .ok (.iload_n 1, 1) := by decide +kernel
theorem dJ7_copyOf_59c91_15 : decode cJ7_copyOf_59c91 15 = .ok (.newarray .int, 2) := by decide +kernel
theorem dJ7_copyOf_59c91_17 : decode cJ7_copyOf_59c91 17 = .ok (.astore_n 2, 1) := by decide +kernel
theorem dJ7_copyOf_59c91_18 : decode cJ7_copyOf_59c91 18 = .ok (.aload_n 0, 1) := by decide +kernel
theorem dJ7_copyOf_59c91_19 : decode cJ7_copyOf_59c91 19 = .ok (.iconst 0, 1) := by decide +kernel
theorem dJ7_copyOf_59c91_20 : decode cJ7_copyOf_59c91 20 = .ok (.aload_n 2, 1) := by decide +kernel
theorem dJ7_copyOf_59c91_21 : decode cJ7_copyOf_59c91 21 = .ok (.iconst 0, 1) := by decide +kernel
theorem dJ7_copyOf_59c91_22 : decode cJ7_copyOf_59c91 22 = .ok (.aload_n 0, 1) := by decide +kernel
theorem dJ7_copyOf_59c91_23 : decode cJ7_copyOf_59c91 23 = .ok (.arraylength, 1) := by decide +kernel
theorem dJ7_copyOf_59c91_24 : decode cJ7_copyOf_59c91 24 = .ok (.iload_n 1, 1) := by decide +kernel
theorem dJ7_copyOf_59c91_25 : decode cJ7_copyOf_59c91 25 = .ok (.invokestatic 304, 3) := by decide +kernel
theorem dJ7_copyOf_59c91_28 : decode cJ7_copyOf_59c91 28 = .ok (.invokestatic 150, 3) := by decide +kernel
theorem dJ7_copyOf_59c91_31 : decode cJ7_copyOf_59c91 31 = .ok (.aload_n 2, 1) := by decide +kernel
theorem dJ7_copyOf_59c91_32 : decode cJ7_copyOf_59c91 32 = .ok (.areturn, 1) := by decide +kernel
theorem dL_open_0 : decode cL_open 0 = .ok (.aload_n 2, 1) := by decide +kernel
theorem dL_open_1 : decode cL_open 1 = .ok (.iconst 0, 1) := by decide +kernel
theorem dL_open_2 : decode cL_open 2 = .ok (.aload_n 0, 1) := by decide +kernel
theorem dL_open_3 : decode cL_open 3 = .ok (.iload_n 1, 1) := by decide +kernel
theorem dL_open_4 : decode cL_open 4 = .ok (.invokevirtual 7, 3) := by decide +kernel
theorem dL_open_7 : decode cL_open 7 = .ok (.i2l, 1) := by decide +kernel
theorem dL_open_8 : decode cL_open 8 = .ok (.lastore, 1) := by decide +kernel
theorem dL_open_9 : decode cL_open 9 = .ok (.goto 12, 3) := by decide +kernel
theorem dL_open_12 : decode cL_open 12 = .ok (.astore_n 3, 1) := by decide +kernel
theorem dL_open_13 : decode cL_open 13 = .ok (.iconst 1, 1) := by decide +kernel
theorem dL_open_14 : decode cL_open 14 = .ok (.ireturn, 1) := by decide +kernel
theorem dL_open_15 : decode cL_open 15 = .ok (.astore_n 3, 1) := by decide +kernel
theorem dL_open_16 : decode cL_open 16 = .ok (.iconst 2, 1) := by decide +kernel
theorem dL_open_17 : decode cL_open 17 = .ok (.ireturn, 1) := by decide +kernel
theorem dL_open_18 : decode cL_open 18 = .ok (.astore_n 3, 1) := by decide +kernel
theorem dL_open_19 : decode cL_open 19 = .ok (.iconst 3, 1) := by decide +kernel
theorem dL_open_20 : decode cL_open 20 = .ok (.ireturn, 1) := by decide +kernel
theorem dL_open_21 : decode cL_open 21 = .ok (.iconst 0, 1) := by decide +kernel
theorem dL_open_22 : decode cL_open 22 = .ok (.ireturn, 1) := by decide +kernel
theorem dL_ring_0 : decode cL_ring 0 = .ok (.aload_n 0, 1) := by decide +kernel
theorem dL_ring_1 : decode cL_ring 1 = .ok (.invokevirtual 19, 3) := by decide +kernel
theorem dL_ring_4 : decode cL_ring 4 = .ok (.goto 9, 3) := by decide +kernel
theorem dL_ring_7 : decode cL_ring 7 = .ok (.astore_n 1, 1) := by decide +kernel
theorem dL_ring_8 : decode cL_ring 8 = .ok (.iconst 1, 1) := by decide +kernel
theorem dL_ring_9 : decode cL_ring 9 = .ok (.ireturn, 1) := by decide +kernel
theorem dL_ring_10 : decode cL_ring 10 = .ok (.astore_n 1, 1) := by decide +kernel
theorem dL_ring_11 : decode cL_ring 11 = .ok (.iconst 2, 1) := by decide +kernel
theorem dL_ring_12 : decode cL_ring 12 = .ok (.ireturn, 1) := by decide +kernel
theorem dL_ring_13 : decode cL_ring 13 = .ok (.iconst 0, 1) := by decide +kernel
theorem dL_ring_14 : decode cL_ring 14 = .ok (.ireturn, 1) := by decide +kernel
theorem dL_point_0 : decode cL_point 0 = .ok (.aload_n 3, 1) := by decide +kernel
theorem dL_point_1 : decode cL_point 1 = .ok (.iconst 0, 1) := by decide +kernel
theorem dL_point_2 : decode cL_point 2 = .ok (.aload_n 0, 1) := by decide +kernel
theorem dL_point_3 : decode cL_point 3 = .ok (.iload_n 1, 1) := by decide +kernel
theorem dL_point_4 : decode cL_point 4 = .ok (.iload_n 2, 1) := by decide +kernel
theorem dL_point_5 : decode cL_point 5 = .ok (.invokevirtual 22, 3) := by decide +kernel
theorem dL_point_8 : decode cL_point 8 = .ok (.i2l, 1) := by decide +kernel
theorem dL_point_9 : decode cL_point 9 = .ok (.lastore, 1) := by decide +kernel
theorem dL_point_10 : decode cL_point 10 = .ok (.goto 15, 3) := by decide +kernel
theorem dL_point_13 : decode cL_point 13 = .ok (.astore 4, 2) := by decide +kernel
theorem dL_point_15 : decode cL_point 15 = .ok (.iconst 1, 1) := by decide +kernel
theorem dL_point_16 : decode cL_point 16 = .ok (.ireturn, 1) := by decide +kernel
theorem dL_point_17 : decode cL_point 17 = .ok (.astore 4, 2) := by decide +kernel
theorem dL_point_19 : decode cL_point 19 = .ok (.iconst 2, 1) := by decide +kernel
theorem dL_point_20 : decode cL_point 20 = .ok (.ireturn, 1) := by decide +kernel
theorem dL_point_21 : decode cL_point 21 = .ok (.astore 4, 2) := by decide +kernel
theorem dL_point_23 : decode cL_point 23 = .ok (.iconst 3, 1) := by decide +kernel
theorem dL_point_24 : decode cL_point 24 = .ok (.ireturn, 1) := by decide +kernel
theorem dL_point_25 : decode cL_point 25 = .ok (.iconst 0, 1) := by decide +kernel
theorem dL_point_26 : decode cL_point 26 = .ok (.ireturn, 1) := by decide +kernel
theorem dL_close_0 : decode cL_close 0 = .ok (.aload_n 1, 1) := by decide +kernel
theorem dL_close_1 : decode cL_close 1 = .ok (.iconst 0, 1) := by decide +kernel
theorem dL_close_2 : decode cL_close 2 = .ok (.aload_n 0, 1) := by decide +kernel
theorem dL_close_3 : decode cL_close 3 = .ok (.invokevirtual 26, 3) := by decide +kernel
theorem dL_close_6 : decode cL_close 6 = .ok (.i2l, 1) := by decide +kernel
theorem dL_close_7 : decode cL_close 7 = .ok (.lastore, 1) := by decide +kernel
theorem dL_close_8 : decode cL_close 8 = .ok (.goto 6, 3) := by decide +kernel
theorem dL_close_11 : decode cL_close 11 = .ok (.astore_n 2, 1) := by decide +kernel
theorem dL_close_12 : decode cL_close 12 = .ok (.iconst 1, 1) := by decide +kernel
theorem dL_close_13 : decode cL_close 13 = .ok (.ireturn, 1) := by decide +kernel
theorem dL_close_14 : decode cL_close 14 = .ok (.iconst 0, 1) := by decide +kernel
theorem dL_close_15 : decode cL_close 15 = .ok (.ireturn, 1) := by decide +kernel
theorem dL_judge_0 : decode cL_judge 0 = .ok (.aload_n 1, 1) := by decide +kernel
theorem dL_judge_1 : decode cL_judge 1 = .ok (.iconst 0, 1) := by decide +kernel
theorem dL_judge_2 : decode cL_judge 2 = .ok (.aload_n 0, 1) := by decide +kernel
theorem dL_judge_3 : decode cL_judge 3 = .ok (.invokevirtual 30, 3) := by decide +kernel
theorem dL_judge_6 : decode cL_judge 6 = .ok (.i2l, 1) := by decide +kernel
theorem dL_judge_7 : decode cL_judge 7 = .ok (.lastore, 1) := by decide +kernel
theorem dL_judge_8 : decode cL_judge 8 = .ok (.goto 6, 3) := by decide +kernel
theorem dL_judge_11 : decode cL_judge 11 = .ok (.astore_n 2, 1) := by decide +kernel
theorem dL_judge_12 : decode cL_judge 12 = .ok (.iconst 1, 1) := by decide +kernel
theorem dL_judge_13 : decode cL_judge 13 = .ok (.ireturn, 1) := by decide +kernel
theorem dL_judge_14 : decode cL_judge 14 = .ok (.iconst 0, 1) := by decide +kernel
theorem dL_judge_15 : decode cL_judge 15 = .ok (.ireturn, 1) := by decide +kernel
theorem dL_place_0 : decode cL_place 0 = .ok (.aload_n 2, 1) := by decide +kernel
theorem dL_place_1 : decode cL_place 1 = .ok (.iconst 0, 1) := by decide +kernel
theorem dL_place_2 : decode cL_place 2 = .ok (.aload_n 0, 1) := by decide +kernel
theorem dL_place_3 : decode cL_place 3 = .ok (.iload_n 1, 1) := by decide +kernel
theorem dL_place_4 : decode cL_place 4 = .ok (.invokevirtual 33, 3) := by decide +kernel
theorem dL_place_7 : decode cL_place 7 = .ok (.i2l, 1) := by decide +kernel
theorem dL_place_8 : decode cL_place 8 = .ok (.lastore, 1) := by decide +kernel
theorem dL_place_9 : decode cL_place 9 = .ok (.goto 6, 3) := by decide +kernel
theorem dL_place_12 : decode cL_place 12 = .ok (.astore_n 3, 1) := by decide +kernel
theorem dL_place_13 : decode cL_place 13 = .ok (.iconst 1, 1) := by decide +kernel
theorem dL_place_14 : decode cL_place 14 = .ok (.ireturn, 1) := by decide +kernel
theorem dL_place_15 : decode cL_place 15 = .ok (.iconst 0, 1) := by decide +kernel
theorem dL_place_16 : decode cL_place 16 = .ok (.ireturn, 1) := by decide +kernel
theorem dL_law_0 : decode cL_law 0 = .ok (.new 8, 3) := by decide +kernel
theorem dL_law_3 : decode cL_law 3 = .ok (.dup, 1) := by decide +kernel
theorem dL_law_4 : decode cL_law 4 = .ok (.invokespecial 38, 3) := by decide +kernel
theorem dL_law_7 : decode cL_law 7 = .ok (.astore_n 1, 1) := by decide +kernel
theorem dL_law_8 : decode cL_law 8 = .ok (.new 39, 3) := by decide +kernel
theorem dL_law_11 : decode cL_law 11 = .ok (.dup, 1) := by decide +kernel
theorem dL_law_12 : decode cL_law 12 = .ok (.invokespecial 41, 3) := by decide +kernel
theorem dL_law_15 : decode cL_law 15 = .ok (.astore_n 2, 1) := by decide +kernel
theorem dL_law_16 : decode cL_law 16 = .ok (.iconst 1, 1) := by decide +kernel
theorem dL_law_17 : decode cL_law 17 = .ok (.newarray .long, 2) := by decide +kernel
theorem dL_law_19 : decode cL_law 19 = .ok (.astore_n 3, 1) := by decide +kernel
theorem dL_law_20 : decode cL_law 20 = .ok (.iconst 0, 1) := by decide +kernel
theorem dL_law_21 : decode cL_law 21 = .ok (.istore 4, 2) := by decide +kernel
theorem dL_law_23 : decode cL_law 23 = .ok (.iload 4, 2) := by decide +kernel
theorem dL_law_25 : decode cL_law 25 = .ok (.aload_n 0, 1) := by decide +kernel
theorem dL_law_26 : decode cL_law 26 = .ok (.arraylength, 1) := by decide +kernel
theorem dL_law_27 : decode cL_law 27 = .ok (.iconst 3, 1) := by decide +kernel
theorem dL_law_28 : decode cL_law 28 = .ok (.isub, 1) := by decide +kernel
theorem dL_law_29 : decode cL_law 29 = .ok (.if_icmp .gt 362, 3) := by decide +kernel
theorem dL_law_32 : decode cL_law 32 = .ok (.aload_n 0, 1) := by decide +kernel
theorem dL_law_33 : decode cL_law 33 = .ok (.iload 4, 2) := by decide +kernel
theorem dL_law_35 : decode cL_law 35 = .ok (.iaload, 1) := by decide +kernel
theorem dL_law_36 : decode cL_law 36 = .ok (.bipush 7, 2) := by decide +kernel
theorem dL_law_38 : decode cL_law 38 = .ok (.iand, 1) := by decide +kernel
theorem dL_law_39 : decode cL_law 39 = .ok (.tableswitch 346 0 6 #[41, 54, 110, 134, 202, 246, 290], 41) := by decide +kernel
theorem dL_law_80 : decode cL_law 80 = .ok (.aload_n 1, 1) := by decide +kernel
theorem dL_law_81 : decode cL_law 81 = .ok (.invokevirtual 42, 3) := by decide +kernel
theorem dL_law_84 : decode cL_law 84 = .ok (.aload_n 2, 1) := by decide +kernel
theorem dL_law_85 : decode cL_law 85 = .ok (.invokevirtual 45, 3) := by decide +kernel
theorem dL_law_88 : decode cL_law 88 = .ok (.if_icmp .eq 297, 3) := by decide +kernel
theorem dL_law_91 : decode cL_law 91 = .ok (.iconst 0, 1) := by decide +kernel
theorem dL_law_92 : decode cL_law 92 = .ok (.ireturn, 1) := by decide +kernel
theorem dL_law_93 : decode cL_law 93 = .ok (.aload_n 1, 1) := by decide +kernel
theorem dL_law_94 : decode cL_law 94 = .ok (.aload_n 0, 1) := by decide +kernel
theorem dL_law_95 : decode cL_law 95 = .ok (.iload 4, 2) := by decide +kernel
theorem dL_law_97 : decode cL_law 97 = .ok (.iconst 1, 1) := by decide +kernel
theorem dL_law_98 : decode cL_law 98 = .ok (.iadd, 1) := by decide +kernel
theorem dL_law_99 : decode cL_law 99 = .ok (.iaload, 1) := by decide +kernel
theorem dL_law_100 : decode cL_law 100 = .ok (.aload_n 3, 1) := by decide +kernel
theorem dL_law_101 : decode cL_law 101 = .ok (.invokestatic 46, 3) := by decide +kernel
theorem dL_law_104 : decode cL_law 104 = .ok (.istore 5, 2) := by decide +kernel
theorem dL_law_106 : decode cL_law 106 = .ok (.aload_n 2, 1) := by decide +kernel
theorem dL_law_107 : decode cL_law 107 = .ok (.aload_n 0, 1) := by decide +kernel
theorem dL_law_108 : decode cL_law 108 = .ok (.iload 4, 2) := by decide +kernel
theorem dL_law_110 : decode cL_law 110 = .ok (.iconst 1, 1) := by decide +kernel
theorem dL_law_111 : decode cL_law 111 = .ok (.iadd, 1) := by decide +kernel
theorem dL_law_112 : decode cL_law 112 = .ok (.iaload, 1) := by decide +kernel
theorem dL_law_113 : decode cL_law 113 = .ok (.invokevirtual 51, 3) := by decide +kernel
theorem dL_law_116 : decode cL_law 116 = .ok (.istore 6, 2) := by decide +kernel
theorem dL_law_118 : decode cL_law 118 = .ok (.aload_n 2, 1) := by decide +kernel
theorem dL_law_119 : decode cL_law 119 = .ok (.invokevirtual 52, 3) := by decide +kernel
theorem dL_law_122 : decode cL_law 122 = .ok (.iload 5, 2) := by decide +kernel
theorem dL_law_124 : decode cL_law 124 = .ok (.if_icmp .eq 5, 3) := by decide +kernel
theorem dL_law_127 : decode cL_law 127 = .ok (.iconst 0, 1) := by decide +kernel
theorem dL_law_128 : decode cL_law 128 = .ok (.ireturn, 1) := by decide +kernel
theorem dL_law_129 : decode cL_law 129 = .ok (.iload 5, 2) := by decide +kernel
theorem dL_law_131 : decode cL_law 131 = .ok (.ifCond .ne 15, 3) := by decide +kernel
theorem dL_law_134 : decode cL_law 134 = .ok (.aload_n 3, 1) := by decide +kernel
theorem dL_law_135 : decode cL_law 135 = .ok (.iconst 0, 1) := by decide +kernel
theorem dL_law_136 : decode cL_law 136 = .ok (.laload, 1) := by decide +kernel
theorem dL_law_137 : decode cL_law 137 = .ok (.iload 6, 2) := by decide +kernel
theorem dL_law_139 : decode cL_law 139 = .ok (.i2l, 1) := by decide +kernel
theorem dL_law_140 : decode cL_law 140 = .ok (.lcmp, 1) := by decide +kernel
theorem dL_law_141 : decode cL_law 141 = .ok (.ifCond .eq 5, 3) := by decide +kernel
theorem dL_law_144 : decode cL_law 144 = .ok (.iconst 0, 1) := by decide +kernel
theorem dL_law_145 : decode cL_law 145 = .ok (.ireturn, 1) := by decide +kernel
theorem dL_law_146 : decode cL_law 146 = .ok (.goto 239, 3) := by decide +kernel
theorem dL_law_149 : decode cL_law 149 = .ok (.aload_n 1, 1) := by decide +kernel
theorem dL_law_150 : decode cL_law 150 = .ok (.invokestatic 55, 3) := by decide +kernel
theorem dL_law_153 : decode cL_law 153 = .ok (.istore 5, 2) := by decide +kernel
theorem dL_law_155 : decode cL_law 155 = .ok (.aload_n 2, 1) := by decide +kernel
theorem dL_law_156 : decode cL_law 156 = .ok (.invokevirtual 58, 3) := by decide +kernel
theorem dL_law_159 : decode cL_law 159 = .ok (.aload_n 2, 1) := by decide +kernel
theorem dL_law_160 : decode cL_law 160 = .ok (.invokevirtual 52, 3) := by decide +kernel
theorem dL_law_163 : decode cL_law 163 = .ok (.iload 5, 2) := by decide +kernel
theorem dL_law_165 : decode cL_law 165 = .ok (.if_icmp .eq 5, 3) := by decide +kernel
theorem dL_law_168 : decode cL_law 168 = .ok (.iconst 0, 1) := by decide +kernel
theorem dL_law_169 : decode cL_law 169 = .ok (.ireturn, 1) := by decide +kernel
theorem dL_law_170 : decode cL_law 170 = .ok (.goto 215, 3) := by decide +kernel
theorem dL_law_173 : decode cL_law 173 = .ok (.aload_n 1, 1) := by decide +kernel
theorem dL_law_174 : decode cL_law 174 = .ok (.aload_n 0, 1) := by decide +kernel
theorem dL_law_175 : decode cL_law 175 = .ok (.iload 4, 2) := by decide +kernel
theorem dL_law_177 : decode cL_law 177 = .ok (.iconst 1, 1) := by decide +kernel
theorem dL_law_178 : decode cL_law 178 = .ok (.iadd, 1) := by decide +kernel
theorem dL_law_179 : decode cL_law 179 = .ok (.iaload, 1) := by decide +kernel
theorem dL_law_180 : decode cL_law 180 = .ok (.aload_n 0, 1) := by decide +kernel
theorem dL_law_181 : decode cL_law 181 = .ok (.iload 4, 2) := by decide +kernel
theorem dL_law_183 : decode cL_law 183 = .ok (.iconst 2, 1) := by decide +kernel
theorem dL_law_184 : decode cL_law 184 = .ok (.iadd, 1) := by decide +kernel
theorem dL_law_185 : decode cL_law 185 = .ok (.iaload, 1) := by decide +kernel
theorem dL_law_186 : decode cL_law 186 = .ok (.aload_n 3, 1) := by decide +kernel
theorem dL_law_187 : decode cL_law 187 = .ok (.invokestatic 59, 3) := by decide +kernel
theorem dL_law_190 : decode cL_law 190 = .ok (.istore 5, 2) := by decide +kernel
theorem dL_law_192 : decode cL_law 192 = .ok (.aload_n 2, 1) := by decide +kernel
theorem dL_law_193 : decode cL_law 193 = .ok (.aload_n 0, 1) := by decide +kernel
theorem dL_law_194 : decode cL_law 194 = .ok (.iload 4, 2) := by decide +kernel
theorem dL_law_196 : decode cL_law 196 = .ok (.iconst 1, 1) := by decide +kernel
theorem dL_law_197 : decode cL_law 197 = .ok (.iadd, 1) := by decide +kernel
theorem dL_law_198 : decode cL_law 198 = .ok (.iaload, 1) := by decide +kernel
theorem dL_law_199 : decode cL_law 199 = .ok (.aload_n 0, 1) := by decide +kernel
theorem dL_law_200 : decode cL_law 200 = .ok (.iload 4, 2) := by decide +kernel
theorem dL_law_202 : decode cL_law 202 = .ok (.iconst 2, 1) := by decide +kernel
theorem dL_law_203 : decode cL_law 203 = .ok (.iadd, 1) := by decide +kernel
theorem dL_law_204 : decode cL_law 204 = .ok (.iaload, 1) := by decide +kernel
theorem dL_law_205 : decode cL_law 205 = .ok (.invokevirtual 62, 3) := by decide +kernel
theorem dL_law_208 : decode cL_law 208 = .ok (.istore 6, 2) := by decide +kernel
theorem dL_law_210 : decode cL_law 210 = .ok (.aload_n 2, 1) := by decide +kernel
theorem dL_law_211 : decode cL_law 211 = .ok (.invokevirtual 52, 3) := by decide +kernel
theorem dL_law_214 : decode cL_law 214 = .ok (.iload 5, 2) := by decide +kernel
theorem dL_law_216 : decode cL_law 216 = .ok (.if_icmp .eq 5, 3) := by decide +kernel
theorem dL_law_219 : decode cL_law 219 = .ok (.iconst 0, 1) := by decide +kernel
theorem dL_law_220 : decode cL_law 220 = .ok (.ireturn, 1) := by decide +kernel
theorem dL_law_221 : decode cL_law 221 = .ok (.iload 5, 2) := by decide +kernel
theorem dL_law_223 : decode cL_law 223 = .ok (.ifCond .ne 15, 3) := by decide +kernel
theorem dL_law_226 : decode cL_law 226 = .ok (.aload_n 3, 1) := by decide +kernel
theorem dL_law_227 : decode cL_law 227 = .ok (.iconst 0, 1) := by decide +kernel
theorem dL_law_228 : decode cL_law 228 = .ok (.laload, 1) := by decide +kernel
theorem dL_law_229 : decode cL_law 229 = .ok (.iload 6, 2) := by decide +kernel
theorem dL_law_231 : decode cL_law 231 = .ok (.i2l, 1) := by decide +kernel
theorem dL_law_232 : decode cL_law 232 = .ok (.lcmp, 1) := by decide +kernel
theorem dL_law_233 : decode cL_law 233 = .ok (.ifCond .eq 5, 3) := by decide +kernel
theorem dL_law_236 : decode cL_law 236 = .ok (.iconst 0, 1) := by decide +kernel
theorem dL_law_237 : decode cL_law 237 = .ok (.ireturn, 1) := by decide +kernel
theorem dL_law_238 : decode cL_law 238 = .ok (.goto 147, 3) := by decide +kernel
theorem dL_law_241 : decode cL_law 241 = .ok (.aload_n 1, 1) := by decide +kernel
theorem dL_law_242 : decode cL_law 242 = .ok (.aload_n 3, 1) := by decide +kernel
theorem dL_law_243 : decode cL_law 243 = .ok (.invokestatic 63, 3) := by decide +kernel
theorem dL_law_246 : decode cL_law 246 = .ok (.istore 5, 2) := by decide +kernel
theorem dL_law_248 : decode cL_law 248 = .ok (.aload_n 2, 1) := by decide +kernel
theorem dL_law_249 : decode cL_law 249 = .ok (.invokevirtual 66, 3) := by decide +kernel
theorem dL_law_252 : decode cL_law 252 = .ok (.istore 6, 2) := by decide +kernel
theorem dL_law_254 : decode cL_law 254 = .ok (.aload_n 2, 1) := by decide +kernel
theorem dL_law_255 : decode cL_law 255 = .ok (.invokevirtual 52, 3) := by decide +kernel
theorem dL_law_258 : decode cL_law 258 = .ok (.iload 5, 2) := by decide +kernel
theorem dL_law_260 : decode cL_law 260 = .ok (.if_icmp .eq 5, 3) := by decide +kernel
theorem dL_law_263 : decode cL_law 263 = .ok (.iconst 0, 1) := by decide +kernel
theorem dL_law_264 : decode cL_law 264 = .ok (.ireturn, 1) := by decide +kernel
theorem dL_law_265 : decode cL_law 265 = .ok (.iload 5, 2) := by decide +kernel
theorem dL_law_267 : decode cL_law 267 = .ok (.ifCond .ne 15, 3) := by decide +kernel
theorem dL_law_270 : decode cL_law 270 = .ok (.aload_n 3, 1) := by decide +kernel
theorem dL_law_271 : decode cL_law 271 = .ok (.iconst 0, 1) := by decide +kernel
theorem dL_law_272 : decode cL_law 272 = .ok (.laload, 1) := by decide +kernel
theorem dL_law_273 : decode cL_law 273 = .ok (.iload 6, 2) := by decide +kernel
theorem dL_law_275 : decode cL_law 275 = .ok (.i2l, 1) := by decide +kernel
theorem dL_law_276 : decode cL_law 276 = .ok (.lcmp, 1) := by decide +kernel
theorem dL_law_277 : decode cL_law 277 = .ok (.ifCond .eq 5, 3) := by decide +kernel
theorem dL_law_280 : decode cL_law 280 = .ok (.iconst 0, 1) := by decide +kernel
theorem dL_law_281 : decode cL_law 281 = .ok (.ireturn, 1) := by decide +kernel
theorem dL_law_282 : decode cL_law 282 = .ok (.goto 103, 3) := by decide +kernel
theorem dL_law_285 : decode cL_law 285 = .ok (.aload_n 1, 1) := by decide +kernel
theorem dL_law_286 : decode cL_law 286 = .ok (.aload_n 3, 1) := by decide +kernel
theorem dL_law_287 : decode cL_law 287 = .ok (.invokestatic 67, 3) := by decide +kernel
theorem dL_law_290 : decode cL_law 290 = .ok (.istore 5, 2) := by decide +kernel
theorem dL_law_292 : decode cL_law 292 = .ok (.aload_n 2, 1) := by decide +kernel
theorem dL_law_293 : decode cL_law 293 = .ok (.invokevirtual 69, 3) := by decide +kernel
theorem dL_law_296 : decode cL_law 296 = .ok (.istore 6, 2) := by decide +kernel
theorem dL_law_298 : decode cL_law 298 = .ok (.aload_n 2, 1) := by decide +kernel
theorem dL_law_299 : decode cL_law 299 = .ok (.invokevirtual 52, 3) := by decide +kernel
theorem dL_law_302 : decode cL_law 302 = .ok (.iload 5, 2) := by decide +kernel
theorem dL_law_304 : decode cL_law 304 = .ok (.if_icmp .eq 5, 3) := by decide +kernel
theorem dL_law_307 : decode cL_law 307 = .ok (.iconst 0, 1) := by decide +kernel
theorem dL_law_308 : decode cL_law 308 = .ok (.ireturn, 1) := by decide +kernel
theorem dL_law_309 : decode cL_law 309 = .ok (.iload 5, 2) := by decide +kernel
theorem dL_law_311 : decode cL_law 311 = .ok (.ifCond .ne 15, 3) := by decide +kernel
theorem dL_law_314 : decode cL_law 314 = .ok (.aload_n 3, 1) := by decide +kernel
theorem dL_law_315 : decode cL_law 315 = .ok (.iconst 0, 1) := by decide +kernel
theorem dL_law_316 : decode cL_law 316 = .ok (.laload, 1) := by decide +kernel
theorem dL_law_317 : decode cL_law 317 = .ok (.iload 6, 2) := by decide +kernel
theorem dL_law_319 : decode cL_law 319 = .ok (.i2l, 1) := by decide +kernel
theorem dL_law_320 : decode cL_law 320 = .ok (.lcmp, 1) := by decide +kernel
theorem dL_law_321 : decode cL_law 321 = .ok (.ifCond .eq 5, 3) := by decide +kernel
theorem dL_law_324 : decode cL_law 324 = .ok (.iconst 0, 1) := by decide +kernel
theorem dL_law_325 : decode cL_law 325 = .ok (.ireturn, 1) := by decide +kernel
theorem dL_law_326 : decode cL_law 326 = .ok (.goto 59, 3) := by decide +kernel
theorem dL_law_329 : decode cL_law 329 = .ok (.aload_n 1, 1) := by decide +kernel
theorem dL_law_330 : decode cL_law 330 = .ok (.aload_n 0, 1) := by decide +kernel
theorem dL_law_331 : decode cL_law 331 = .ok (.iload 4, 2) := by decide +kernel
theorem dL_law_333 : decode cL_law 333 = .ok (.iconst 1, 1) := by decide +kernel
theorem dL_law_334 : decode cL_law 334 = .ok (.iadd, 1) := by decide +kernel
theorem dL_law_335 : decode cL_law 335 = .ok (.iaload, 1) := by decide +kernel
theorem dL_law_336 : decode cL_law 336 = .ok (.aload_n 3, 1) := by decide +kernel
theorem dL_law_337 : decode cL_law 337 = .ok (.invokestatic 70, 3) := by decide +kernel
theorem dL_law_340 : decode cL_law 340 = .ok (.istore 5, 2) := by decide +kernel
theorem dL_law_342 : decode cL_law 342 = .ok (.aload_n 2, 1) := by decide +kernel
theorem dL_law_343 : decode cL_law 343 = .ok (.aload_n 0, 1) := by decide +kernel
theorem dL_law_344 : decode cL_law 344 = .ok (.iload 4, 2) := by decide +kernel
theorem dL_law_346 : decode cL_law 346 = .ok (.iconst 1, 1) := by decide +kernel
theorem dL_law_347 : decode cL_law 347 = .ok (.iadd, 1) := by decide +kernel
theorem dL_law_348 : decode cL_law 348 = .ok (.iaload, 1) := by decide +kernel
theorem dL_law_349 : decode cL_law 349 = .ok (.invokevirtual 72, 3) := by decide +kernel
theorem dL_law_352 : decode cL_law 352 = .ok (.istore 6, 2) := by decide +kernel
theorem dL_law_354 : decode cL_law 354 = .ok (.aload_n 2, 1) := by decide +kernel
theorem dL_law_355 : decode cL_law 355 = .ok (.invokevirtual 52, 3) := by decide +kernel
theorem dL_law_358 : decode cL_law 358 = .ok (.iload 5, 2) := by decide +kernel
theorem dL_law_360 : decode cL_law 360 = .ok (.if_icmp .eq 5, 3) := by decide +kernel
theorem dL_law_363 : decode cL_law 363 = .ok (.iconst 0, 1) := by decide +kernel
theorem dL_law_364 : decode cL_law 364 = .ok (.ireturn, 1) := by decide +kernel
theorem dL_law_365 : decode cL_law 365 = .ok (.iload 5, 2) := by decide +kernel
theorem dL_law_367 : decode cL_law 367 = .ok (.ifCond .ne 15, 3) := by decide +kernel
theorem dL_law_370 : decode cL_law 370 = .ok (.aload_n 3, 1) := by decide +kernel
theorem dL_law_371 : decode cL_law 371 = .ok (.iconst 0, 1) := by decide +kernel
theorem dL_law_372 : decode cL_law 372 = .ok (.laload, 1) := by decide +kernel
theorem dL_law_373 : decode cL_law 373 = .ok (.iload 6, 2) := by decide +kernel
theorem dL_law_375 : decode cL_law 375 = .ok (.i2l, 1) := by decide +kernel
theorem dL_law_376 : decode cL_law 376 = .ok (.lcmp, 1) := by decide +kernel
theorem dL_law_377 : decode cL_law 377 = .ok (.ifCond .eq 5, 3) := by decide +kernel
theorem dL_law_380 : decode cL_law 380 = .ok (.iconst 0, 1) := by decide +kernel
theorem dL_law_381 : decode cL_law 381 = .ok (.ireturn, 1) := by decide +kernel
theorem dL_law_382 : decode cL_law 382 = .ok (.goto 3, 3) := by decide +kernel
theorem dL_law_385 : decode cL_law 385 = .ok (.iinc 4 3, 3) := by decide +kernel
theorem dL_law_388 : decode cL_law 388 = .ok (.goto (-365), 3) := by decide +kernel
theorem dL_law_391 : decode cL_law 391 = .ok (.iconst 1, 1) := by decide +kernel
theorem dL_law_392 : decode cL_law 392 = .ok (.ireturn, 1) := by decide +kernel
end
section
/-! ONE LIST OF WORDS for all methods: the good ones of the tables; each word that a row names, found by its place. -/
def hAll : List Cond := lw_tbl.filter goodWord
theorem h_in {w : Cond} (i : Nat) (h : lw_tbl[i]? = some w) (g : goodWord w = true) : w ∈ hAll := List.mem_filter.mpr ⟨List.mem_of_getElem? h, g⟩
theorem hAll_good : GoodIn hAll hAll := fun w h => ⟨h, good_of_word (List.mem_filter.mp h).2⟩
theorem hAll_c {w : Cond} (h : w ∈ hAll) : GoodIn hAll (w :: hAll) := fun x hx => (List.mem_cons.mp hx).elim (fun e => by rw [e]; exact hAll_good w h) (hAll_good x)
theorem ks_X2_inspectLine : Cond.selects RX2 yX2_inspectLine yX2_inspectLine ∈ hAll := h_in 1 (by decide +kernel) (by decide +kernel)
theorem ks_X8_differentPoints : Cond.selects RX8 yX8_differentPoints yX8_differentPoints ∈ hAll := h_in 2 (by decide +kernel) (by decide +kernel)
theorem ks_X8_behindChain : Cond.selects RX8 yX8_behindChain yX8_behindChain ∈ hAll := h_in 3 (by decide +kernel) (by decide +kernel)
theorem ks_X8_isSame : Cond.selects RX8 yX8_isSame yX8_isSame ∈ hAll := h_in 4 (by decide +kernel) (by decide +kernel)
theorem ks_X8_countPolygons : Cond.selects RX8 yX8_countPolygons yX8_countPolygons ∈ hAll := h_in 5 (by decide +kernel) (by decide +kernel)
theorem ks_X8_toPolygon : Cond.selects RX8 yX8_toPolygon yX8_toPolygon ∈ hAll := h_in 6 (by decide +kernel) (by decide +kernel)
theorem ks_X8_toRing : Cond.selects RX8 yX8_toRing yX8_toRing ∈ hAll := h_in 7 (by decide +kernel) (by decide +kernel)
theorem ks_X2_inspectRings : Cond.selects RX2 yX2_inspectRings yX2_inspectRings ∈ hAll := h_in 8 (by decide +kernel) (by decide +kernel)
theorem ks_X1_tellAt : Cond.selects RX1 yX1_tellAt yX1_tellAt ∈ hAll := h_in 9 (by decide +kernel) (by decide +kernel)
theorem ks_X2_inspectSegments : Cond.selects RX2 yX2_inspectSegments yX2_inspectSegments ∈ hAll := h_in 10 (by decide +kernel) (by decide +kernel)
theorem ks_X2_inspectSegment : Cond.selects RX2 yX2_inspectSegment yX2_inspectSegment ∈ hAll := h_in 11 (by decide +kernel) (by decide +kernel)
theorem ks_X3_meet : Cond.selects RX3 yX3_meet yX3_meet ∈ hAll := h_in 12 (by decide +kernel) (by decide +kernel)
theorem ks_X3_meetOnOneLine : Cond.selects RX3 yX3_meetOnOneLine yX3_meetOnOneLine ∈ hAll := h_in 13 (by decide +kernel) (by decide +kernel)
theorem ks_X3_meetAt : Cond.selects RX3 yX3_meetAt yX3_meetAt ∈ hAll := h_in 14 (by decide +kernel) (by decide +kernel)
theorem ks_X3_ringsCross : Cond.selects RX3 yX3_ringsCross yX3_ringsCross ∈ hAll := h_in 15 (by decide +kernel) (by decide +kernel)
theorem ks_X2_tellSegments : Cond.selects RX2 yX2_tellSegments yX2_tellSegments ∈ hAll := h_in 16 (by decide +kernel) (by decide +kernel)
theorem ks_X2_inspectHoles : Cond.selects RX2 yX2_inspectHoles yX2_inspectHoles ∈ hAll := h_in 17 (by decide +kernel) (by decide +kernel)
theorem ks_X2_inspectPairsOfHoles : Cond.selects RX2 yX2_inspectPairsOfHoles yX2_inspectPairsOfHoles ∈ hAll := h_in 18 (by decide +kernel) (by decide +kernel)
theorem ks_X2_inspectWholeness : Cond.selects RX2 yX2_inspectWholeness yX2_inspectWholeness ∈ hAll := h_in 19 (by decide +kernel) (by decide +kernel)
theorem ks_X4_isNewCorner : Cond.selects RX4 yX4_isNewCorner yX4_isNewCorner ∈ hAll := h_in 20 (by decide +kernel) (by decide +kernel)
theorem ks_X4_joinsInRound : Cond.selects RX4 yX4_joinsInRound yX4_joinsInRound ∈ hAll := h_in 21 (by decide +kernel) (by decide +kernel)
theorem ks_X2_inspectPairsOfParts : Cond.selects RX2 yX2_inspectPairsOfParts yX2_inspectPairsOfParts ∈ hAll := h_in 22 (by decide +kernel) (by decide +kernel)
theorem ks_X10_noPlace : Cond.selects RX10 yX10_noPlace yX10_noPlace ∈ hAll := h_in 23 (by decide +kernel) (by decide +kernel)
theorem ks_X10_fail : Cond.selects RX10 yX10_fail yX10_fail ∈ hAll := h_in 24 (by decide +kernel) (by decide +kernel)
theorem ks_X10_takes : Cond.selects RX10 yX10_takes yX10_takes ∈ hAll := h_in 25 (by decide +kernel) (by decide +kernel)
theorem ks_X10_top : Cond.selects RX10 yX10_top yX10_top ∈ hAll := h_in 26 (by decide +kernel) (by decide +kernel)
theorem ks_X10_isFew : Cond.selects RX10 yX10_isFew yX10_isFew ∈ hAll := h_in 27 (by decide +kernel) (by decide +kernel)
theorem ks_X10_same : Cond.selects RX10 yX10_same yX10_same ∈ hAll := h_in 28 (by decide +kernel) (by decide +kernel)
theorem ks_X10_told : Cond.selects RX10 yX10_told yX10_told ∈ hAll := h_in 29 (by decide +kernel) (by decide +kernel)
theorem ks_X10_polygon : Cond.selects RX10 yX10_polygon yX10_polygon ∈ hAll := h_in 30 (by decide +kernel) (by decide +kernel)
theorem ks_X10_ringsOf : Cond.selects RX10 yX10_ringsOf yX10_ringsOf ∈ hAll := h_in 31 (by decide +kernel) (by decide +kernel)
theorem ks_X10_end : Cond.selects RX10 yX10_end yX10_end ∈ hAll := h_in 32 (by decide +kernel) (by decide +kernel)
theorem ks_X10_pairsOf : Cond.selects RX10 yX10_pairsOf yX10_pairsOf ∈ hAll := h_in 33 (by decide +kernel) (by decide +kernel)
theorem ks_X10_isSegment : Cond.selects RX10 yX10_isSegment yX10_isSegment ∈ hAll := h_in 34 (by decide +kernel) (by decide +kernel)
theorem ks_X10_pair : Cond.selects RX10 yX10_pair yX10_pair ∈ hAll := h_in 35 (by decide +kernel) (by decide +kernel)
theorem ks_X10_meet : Cond.selects RX10 yX10_meet yX10_meet ∈ hAll := h_in 36 (by decide +kernel) (by decide +kernel)
theorem ks_X10_side : Cond.selects RX10 yX10_side yX10_side ∈ hAll := h_in 37 (by decide +kernel) (by decide +kernel)
theorem ks_X10_along : Cond.selects RX10 yX10_along yX10_along ∈ hAll := h_in 38 (by decide +kernel) (by decide +kernel)
theorem ks_X10_less : Cond.selects RX10 yX10_less yX10_less ∈ hAll := h_in 39 (by decide +kernel) (by decide +kernel)
theorem ks_X10_more : Cond.selects RX10 yX10_more yX10_more ∈ hAll := h_in 40 (by decide +kernel) (by decide +kernel)
theorem ks_X10_meets : Cond.selects RX10 yX10_meets yX10_meets ∈ hAll := h_in 41 (by decide +kernel) (by decide +kernel)
theorem ks_X10_isOn : Cond.selects RX10 yX10_isOn yX10_isOn ∈ hAll := h_in 42 (by decide +kernel) (by decide +kernel)
theorem ks_X10_begins : Cond.selects RX10 yX10_begins yX10_begins ∈ hAll := h_in 43 (by decide +kernel) (by decide +kernel)
theorem ks_X10_crosses : Cond.selects RX10 yX10_crosses yX10_crosses ∈ hAll := h_in 44 (by decide +kernel) (by decide +kernel)
theorem ks_X10_ways : Cond.selects RX10 yX10_ways yX10_ways ∈ hAll := h_in 45 (by decide +kernel) (by decide +kernel)
theorem ks_X10_next : Cond.selects RX10 yX10_next yX10_next ∈ hAll := h_in 46 (by decide +kernel) (by decide +kernel)
theorem ks_X10_other : Cond.selects RX10 yX10_other yX10_other ∈ hAll := h_in 47 (by decide +kernel) (by decide +kernel)
theorem ks_X10_holesOf : Cond.selects RX10 yX10_holesOf yX10_holesOf ∈ hAll := h_in 48 (by decide +kernel) (by decide +kernel)
theorem ks_X10_liesIn : Cond.selects RX10 yX10_liesIn yX10_liesIn ∈ hAll := h_in 49 (by decide +kernel) (by decide +kernel)
theorem ks_X10_isOnRing : Cond.selects RX10 yX10_isOnRing yX10_isOnRing ∈ hAll := h_in 50 (by decide +kernel) (by decide +kernel)
theorem ks_X10_odd : Cond.selects RX10 yX10_odd yX10_odd ∈ hAll := h_in 51 (by decide +kernel) (by decide +kernel)
theorem ks_X10_splitOf : Cond.selects RX10 yX10_splitOf yX10_splitOf ∈ hAll := h_in 52 (by decide +kernel) (by decide +kernel)
theorem ks_X10_isFirst : Cond.selects RX10 yX10_isFirst yX10_isFirst ∈ hAll := h_in 53 (by decide +kernel) (by decide +kernel)
theorem ks_X10_joins : Cond.selects RX10 yX10_joins yX10_joins ∈ hAll := h_in 54 (by decide +kernel) (by decide +kernel)
theorem ks_X10_polygons : Cond.selects RX10 yX10_polygons yX10_polygons ∈ hAll := h_in 55 (by decide +kernel) (by decide +kernel)
theorem ks_X10_isPart : Cond.selects RX10 yX10_isPart yX10_isPart ∈ hAll := h_in 56 (by decide +kernel) (by decide +kernel)
theorem ks_X10_apart : Cond.selects RX10 yX10_apart yX10_apart ∈ hAll := h_in 57 (by decide +kernel) (by decide +kernel)
theorem ks_X10_against : Cond.selects RX10 yX10_against yX10_against ∈ hAll := h_in 58 (by decide +kernel) (by decide +kernel)
theorem ks_X10_isInside : Cond.selects RX10 yX10_isInside yX10_isInside ∈ hAll := h_in 59 (by decide +kernel) (by decide +kernel)
theorem kn_L : Cond.initialized RL ∈ hAll := h_in 60 (by decide +kernel) (by decide +kernel)
theorem kn_X9 : Cond.initialized RX9 ∈ hAll := h_in 61 (by decide +kernel) (by decide +kernel)
theorem kn_X8 : Cond.initialized RX8 ∈ hAll := h_in 62 (by decide +kernel) (by decide +kernel)
theorem kn_X6 : Cond.initialized RX6 ∈ hAll := h_in 63 (by decide +kernel) (by decide +kernel)
theorem kn_X1 : Cond.initialized RX1 ∈ hAll := h_in 64 (by decide +kernel) (by decide +kernel)
theorem kn_J7 : Cond.initialized RJ7 ∈ hAll := h_in 65 (by decide +kernel) (by decide +kernel)
theorem kn_X2 : Cond.initialized RX2 ∈ hAll := h_in 66 (by decide +kernel) (by decide +kernel)
theorem kn_X3 : Cond.initialized RX3 ∈ hAll := h_in 67 (by decide +kernel) (by decide +kernel)
theorem kn_X10 : Cond.initialized RX10 ∈ hAll := h_in 68 (by decide +kernel) (by decide +kernel)
theorem kn_J9 : Cond.initialized RJ9 ∈ hAll := h_in 75 (by decide +kernel) (by decide +kernel)
theorem kn_J10 : Cond.initialized RJ10 ∈ hAll := h_in 76 (by decide +kernel) (by decide +kernel)
theorem kn_X5 : Cond.initialized RX5 ∈ hAll := h_in 77 (by decide +kernel) (by decide +kernel)
theorem kn_X0 : Cond.initialized RX0 ∈ hAll := h_in 78 (by decide +kernel) (by decide +kernel)
theorem kn_X7 : Cond.initialized RX7 ∈ hAll := h_in 79 (by decide +kernel) (by decide +kernel)
theorem kn_X4 : Cond.initialized RX4 ∈ hAll := h_in 80 (by decide +kernel) (by decide +kernel)
theorem kc_L_8 : Cond.classLink RL 8 RX9 ∈ hAll := h_in 82 (by decide +kernel) (by decide +kernel)
theorem ka_X9 : Cond.instantiable RX9 4 ∈ hAll := h_in 83 (by decide +kernel) (by decide +kernel)
theorem km_L_38 : Cond.methodLink RL 38 yX9_init ∈ hAll := h_in 84 (by decide +kernel) (by decide +kernel)
theorem ki_X9_init : Cond.instanceMethod yX9_init ∈ hAll := h_in 85 (by decide +kernel) (by decide +kernel)
theorem ko_X9_init : Cond.code yX9_init cX9_init 1 none ∈ hAll := h_in 86 (by decide +kernel) (by decide +kernel)
theorem km_X9_1 : Cond.methodLink RX9 1 objectInit ∈ hAll := h_in 87 (by decide +kernel) (by decide +kernel)
theorem ki_obj : Cond.instanceMethod objectInit ∈ hAll := h_in 88 (by decide +kernel) (by decide +kernel)
theorem ko_obj : Cond.code objectInit ⟨#[0xb1]⟩ 1 none ∈ hAll := h_in 89 (by decide +kernel) (by decide +kernel)
theorem kc_X9_7 : Cond.classLink RX9 7 RX8 ∈ hAll := h_in 90 (by decide +kernel) (by decide +kernel)
theorem ka_X8 : Cond.instantiable RX8 8 ∈ hAll := h_in 91 (by decide +kernel) (by decide +kernel)
theorem ki_X8_init : Cond.instanceMethod yX8_init ∈ hAll := h_in 93 (by decide +kernel) (by decide +kernel)
theorem ko_X8_init : Cond.code yX8_init cX8_init 1 none ∈ hAll := h_in 94 (by decide +kernel) (by decide +kernel)
theorem km_X8_3 : Cond.methodLink RX8 3 objectInit ∈ hAll := h_in 95 (by decide +kernel) (by decide +kernel)
theorem kc_X8_9 : Cond.classLink RX8 9 RX6 ∈ hAll := h_in 96 (by decide +kernel) (by decide +kernel)
theorem ka_X6 : Cond.instantiable RX6 2 ∈ hAll := h_in 97 (by decide +kernel) (by decide +kernel)
theorem ki_X6_init : Cond.instanceMethod yX6_init ∈ hAll := h_in 99 (by decide +kernel) (by decide +kernel)
theorem ko_X6_init : Cond.code yX6_init cX6_init 1 none ∈ hAll := h_in 100 (by decide +kernel) (by decide +kernel)
theorem km_X6_3 : Cond.methodLink RX6 3 objectInit ∈ hAll := h_in 101 (by decide +kernel) (by decide +kernel)
theorem kf_X6_9 : Cond.fieldLink RX6 9 "ShapeJudge$Row" "items" "[I" ∈ hAll := h_in 102 (by decide +kernel) (by decide +kernel)
theorem kf_X6_15 : Cond.fieldLink RX6 15 "ShapeJudge$Row" "size" "I" ∈ hAll := h_in 103 (by decide +kernel) (by decide +kernel)
theorem kA_int : Cond.arrayClass .int ∈ hAll := h_in 109 (by decide +kernel) (by decide +kernel)
theorem kf_X8_12 : Cond.fieldLink RX8 12 "ShapeJudge$Shapes" "kinds" "LShapeJudge$Row;" ∈ hAll := h_in 110 (by decide +kernel) (by decide +kernel)
theorem kf_X8_18 : Cond.fieldLink RX8 18 "ShapeJudge$Shapes" "outers" "LShapeJudge$Row;" ∈ hAll := h_in 111 (by decide +kernel) (by decide +kernel)
theorem kf_X8_21 : Cond.fieldLink RX8 21 "ShapeJudge$Shapes" "firstChains" "LShapeJudge$Row;" ∈ hAll := h_in 112 (by decide +kernel) (by decide +kernel)
theorem kf_X8_24 : Cond.fieldLink RX8 24 "ShapeJudge$Shapes" "firstPoints" "LShapeJudge$Row;" ∈ hAll := h_in 113 (by decide +kernel) (by decide +kernel)
theorem kf_X8_27 : Cond.fieldLink RX8 27 "ShapeJudge$Shapes" "xs" "LShapeJudge$Row;" ∈ hAll := h_in 114 (by decide +kernel) (by decide +kernel)
theorem kf_X8_30 : Cond.fieldLink RX8 30 "ShapeJudge$Shapes" "ys" "LShapeJudge$Row;" ∈ hAll := h_in 115 (by decide +kernel) (by decide +kernel)
theorem kf_X8_33 : Cond.fieldLink RX8 33 "ShapeJudge$Shapes" "openShapes" "LShapeJudge$Row;" ∈ hAll := h_in 116 (by decide +kernel) (by decide +kernel)
theorem kf_X8_39 : Cond.fieldLink RX8 39 "ShapeJudge$Shapes" "ringCount" "I" ∈ hAll := h_in 117 (by decide +kernel) (by decide +kernel)
theorem kc_X9_16 : Cond.classLink RX9 16 RX1 ∈ hAll := h_in 135 (by decide +kernel) (by decide +kernel)
theorem ka_X1 : Cond.instantiable RX1 2 ∈ hAll := h_in 136 (by decide +kernel) (by decide +kernel)
theorem km_X9_18 : Cond.methodLink RX9 18 yX1_init ∈ hAll := h_in 137 (by decide +kernel) (by decide +kernel)
theorem ki_X1_init : Cond.instanceMethod yX1_init ∈ hAll := h_in 138 (by decide +kernel) (by decide +kernel)
theorem ko_X1_init : Cond.code yX1_init cX1_init 1 none ∈ hAll := h_in 139 (by decide +kernel) (by decide +kernel)
theorem km_X1_3 : Cond.methodLink RX1 3 objectInit ∈ hAll := h_in 140 (by decide +kernel) (by decide +kernel)
theorem km_X1_15 : Cond.methodLink RX1 15 yJ7_fill_53178 ∈ hAll := h_in 141 (by decide +kernel) (by decide +kernel)
theorem kt_J7_fill_53178 : Cond.static yJ7_fill_53178 ∈ hAll := h_in 142 (by decide +kernel) (by decide +kernel)
theorem ko_J7_fill_53178 : Cond.code yJ7_fill_53178 cJ7_fill_53178 4 none ∈ hAll := h_in 143 (by decide +kernel) (by decide +kernel)
theorem kf_X1_21 : Cond.fieldLink RX1 21 "ShapeJudge$Finding" "what" "I" ∈ hAll := h_in 144 (by decide +kernel) (by decide +kernel)
theorem kf_X1_9 : Cond.fieldLink RX1 9 "ShapeJudge$Finding" "places" "[I" ∈ hAll := h_in 145 (by decide +kernel) (by decide +kernel)
theorem kc_X9_23 : Cond.classLink RX9 23 RX2 ∈ hAll := h_in 151 (by decide +kernel) (by decide +kernel)
theorem ka_X2 : Cond.instantiable RX2 4 ∈ hAll := h_in 152 (by decide +kernel) (by decide +kernel)
theorem km_X9_25 : Cond.methodLink RX9 25 yX2_init ∈ hAll := h_in 153 (by decide +kernel) (by decide +kernel)
theorem ki_X2_init : Cond.instanceMethod yX2_init ∈ hAll := h_in 154 (by decide +kernel) (by decide +kernel)
theorem ko_X2_init : Cond.code yX2_init cX2_init 3 none ∈ hAll := h_in 155 (by decide +kernel) (by decide +kernel)
theorem km_X2_3 : Cond.methodLink RX2 3 objectInit ∈ hAll := h_in 156 (by decide +kernel) (by decide +kernel)
theorem kc_X2_19 : Cond.classLink RX2 19 RX3 ∈ hAll := h_in 157 (by decide +kernel) (by decide +kernel)
theorem ka_X3 : Cond.instantiable RX3 2 ∈ hAll := h_in 158 (by decide +kernel) (by decide +kernel)
theorem ki_X3_init : Cond.instanceMethod yX3_init ∈ hAll := h_in 160 (by decide +kernel) (by decide +kernel)
theorem ko_X3_init : Cond.code yX3_init cX3_init 1 none ∈ hAll := h_in 161 (by decide +kernel) (by decide +kernel)
theorem km_X3_3 : Cond.methodLink RX3 3 objectInit ∈ hAll := h_in 162 (by decide +kernel) (by decide +kernel)
theorem kf_X3_88 : Cond.fieldLink RX3 88 "ShapeJudge$Meeting" "x" "I" ∈ hAll := h_in 163 (by decide +kernel) (by decide +kernel)
theorem kf_X3_91 : Cond.fieldLink RX3 91 "ShapeJudge$Meeting" "y" "I" ∈ hAll := h_in 164 (by decide +kernel) (by decide +kernel)
theorem kf_X2_9 : Cond.fieldLink RX2 9 "ShapeJudge$Inspector" "shapes" "LShapeJudge$Shapes;" ∈ hAll := h_in 170 (by decide +kernel) (by decide +kernel)
theorem kf_X2_15 : Cond.fieldLink RX2 15 "ShapeJudge$Inspector" "finding" "LShapeJudge$Finding;" ∈ hAll := h_in 171 (by decide +kernel) (by decide +kernel)
theorem kf_X2_22 : Cond.fieldLink RX2 22 "ShapeJudge$Inspector" "meeting" "LShapeJudge$Meeting;" ∈ hAll := h_in 172 (by decide +kernel) (by decide +kernel)
theorem kf_X2_26 : Cond.fieldLink RX2 26 "ShapeJudge$Inspector" "shape" "I" ∈ hAll := h_in 173 (by decide +kernel) (by decide +kernel)
theorem kf_X9_10 : Cond.fieldLink RX9 10 "ShapeJudge" "shapes" "LShapeJudge$Shapes;" ∈ hAll := h_in 183 (by decide +kernel) (by decide +kernel)
theorem kf_X9_19 : Cond.fieldLink RX9 19 "ShapeJudge" "finding" "LShapeJudge$Finding;" ∈ hAll := h_in 184 (by decide +kernel) (by decide +kernel)
theorem kf_X9_28 : Cond.fieldLink RX9 28 "ShapeJudge" "inspector" "LShapeJudge$Inspector;" ∈ hAll := h_in 185 (by decide +kernel) (by decide +kernel)
theorem kf_X9_40 : Cond.fieldLink RX9 40 "ShapeJudge" "judged" "Z" ∈ hAll := h_in 186 (by decide +kernel) (by decide +kernel)
theorem km_L_42 : Cond.methodLink RL 42 yX9_clear ∈ hAll := h_in 196 (by decide +kernel) (by decide +kernel)
theorem ki_X9_clear : Cond.instanceMethod yX9_clear ∈ hAll := h_in 197 (by decide +kernel) (by decide +kernel)
theorem ks_X9_clear : Cond.selects RX9 yX9_clear yX9_clear ∈ hAll := h_in 198 (by decide +kernel) (by decide +kernel)
theorem ko_X9_clear : Cond.code yX9_clear cX9_clear 2 (some .int) ∈ hAll := h_in 199 (by decide +kernel) (by decide +kernel)
theorem km_X9_32 : Cond.methodLink RX9 32 yX8_numbers ∈ hAll := h_in 200 (by decide +kernel) (by decide +kernel)
theorem ki_X8_numbers : Cond.instanceMethod yX8_numbers ∈ hAll := h_in 201 (by decide +kernel) (by decide +kernel)
theorem ks_X8_numbers : Cond.selects RX8 yX8_numbers yX8_numbers ∈ hAll := h_in 202 (by decide +kernel) (by decide +kernel)
theorem ko_X8_numbers : Cond.code yX8_numbers cX8_numbers 1 (some .int) ∈ hAll := h_in 203 (by decide +kernel) (by decide +kernel)
theorem km_X8_43 : Cond.methodLink RX8 43 yX6_size ∈ hAll := h_in 204 (by decide +kernel) (by decide +kernel)
theorem ki_X6_size : Cond.instanceMethod yX6_size ∈ hAll := h_in 205 (by decide +kernel) (by decide +kernel)
theorem ks_X6_size : Cond.selects RX6 yX6_size yX6_size ∈ hAll := h_in 206 (by decide +kernel) (by decide +kernel)
theorem ko_X6_size : Cond.code yX6_size cX6_size 1 (some .int) ∈ hAll := h_in 207 (by decide +kernel) (by decide +kernel)
theorem km_X9_36 : Cond.methodLink RX9 36 yX8_forget ∈ hAll := h_in 208 (by decide +kernel) (by decide +kernel)
theorem ki_X8_forget : Cond.instanceMethod yX8_forget ∈ hAll := h_in 209 (by decide +kernel) (by decide +kernel)
theorem ks_X8_forget : Cond.selects RX8 yX8_forget yX8_forget ∈ hAll := h_in 210 (by decide +kernel) (by decide +kernel)
theorem ko_X8_forget : Cond.code yX8_forget cX8_forget 1 none ∈ hAll := h_in 211 (by decide +kernel) (by decide +kernel)
theorem km_X8_36 : Cond.methodLink RX8 36 yX6_empty ∈ hAll := h_in 212 (by decide +kernel) (by decide +kernel)
theorem ki_X6_empty : Cond.instanceMethod yX6_empty ∈ hAll := h_in 213 (by decide +kernel) (by decide +kernel)
theorem ks_X6_empty : Cond.selects RX6 yX6_empty yX6_empty ∈ hAll := h_in 214 (by decide +kernel) (by decide +kernel)
theorem ko_X6_empty : Cond.code yX6_empty cX6_empty 1 none ∈ hAll := h_in 215 (by decide +kernel) (by decide +kernel)
theorem km_X9_39 : Cond.methodLink RX9 39 yX1_forget ∈ hAll := h_in 216 (by decide +kernel) (by decide +kernel)
theorem ki_X1_forget : Cond.instanceMethod yX1_forget ∈ hAll := h_in 217 (by decide +kernel) (by decide +kernel)
theorem ks_X1_forget : Cond.selects RX1 yX1_forget yX1_forget ∈ hAll := h_in 218 (by decide +kernel) (by decide +kernel)
theorem ko_X1_forget : Cond.code yX1_forget cX1_forget 1 none ∈ hAll := h_in 219 (by decide +kernel) (by decide +kernel)
theorem km_L_46 : Cond.methodLink RL 46 yL_open ∈ hAll := h_in 220 (by decide +kernel) (by decide +kernel)
theorem kt_L_open : Cond.static yL_open ∈ hAll := h_in 221 (by decide +kernel) (by decide +kernel)
theorem kc_L_13 : Cond.classLink RL 13 "java/lang/IllegalArgumentException" ∈ hAll := h_in 223 (by decide +kernel) (by decide +kernel)
theorem kc_L_15 : Cond.classLink RL 15 "java/lang/IllegalStateException" ∈ hAll := h_in 224 (by decide +kernel) (by decide +kernel)
theorem kc_L_17 : Cond.classLink RL 17 "java/lang/UnsupportedOperationException" ∈ hAll := h_in 225 (by decide +kernel) (by decide +kernel)
theorem km_L_7 : Cond.methodLink RL 7 yX9_open ∈ hAll := h_in 226 (by decide +kernel) (by decide +kernel)
theorem ki_X9_open : Cond.instanceMethod yX9_open ∈ hAll := h_in 227 (by decide +kernel) (by decide +kernel)
theorem ks_X9_open : Cond.selects RX9 yX9_open yX9_open ∈ hAll := h_in 228 (by decide +kernel) (by decide +kernel)
theorem ko_X9_open : Cond.code yX9_open cX9_open 2 (some .int) ∈ hAll := h_in 229 (by decide +kernel) (by decide +kernel)
theorem kc_X9_44 : Cond.classLink RX9 44 "java/lang/IllegalArgumentException" ∈ hAll := h_in 230 (by decide +kernel) (by decide +kernel)
theorem kA_byte : Cond.arrayClass .byte ∈ hAll := h_in 298 (by decide +kernel) (by decide +kernel)
theorem km_X9_51 : Cond.methodLink RX9 51 yX8_canTake ∈ hAll := h_in 299 (by decide +kernel) (by decide +kernel)
theorem ki_X8_canTake : Cond.instanceMethod yX8_canTake ∈ hAll := h_in 300 (by decide +kernel) (by decide +kernel)
theorem ks_X8_canTake : Cond.selects RX8 yX8_canTake yX8_canTake ∈ hAll := h_in 301 (by decide +kernel) (by decide +kernel)
theorem ko_X8_canTake : Cond.code yX8_canTake cX8_canTake 3 (some .boolean) ∈ hAll := h_in 302 (by decide +kernel) (by decide +kernel)
theorem km_X8_54 : Cond.methodLink RX8 54 yX8_openKind ∈ hAll := h_in 303 (by decide +kernel) (by decide +kernel)
theorem ki_X8_openKind : Cond.instanceMethod yX8_openKind ∈ hAll := h_in 304 (by decide +kernel) (by decide +kernel)
theorem ks_X8_openKind : Cond.selects RX8 yX8_openKind yX8_openKind ∈ hAll := h_in 305 (by decide +kernel) (by decide +kernel)
theorem ko_X8_openKind : Cond.code yX8_openKind cX8_openKind 1 (some .int) ∈ hAll := h_in 306 (by decide +kernel) (by decide +kernel)
theorem km_X8_51 : Cond.methodLink RX8 51 yX6_last ∈ hAll := h_in 307 (by decide +kernel) (by decide +kernel)
theorem ki_X6_last : Cond.instanceMethod yX6_last ∈ hAll := h_in 308 (by decide +kernel) (by decide +kernel)
theorem ks_X6_last : Cond.selects RX6 yX6_last yX6_last ∈ hAll := h_in 309 (by decide +kernel) (by decide +kernel)
theorem ko_X6_last : Cond.code yX6_last cX6_last 1 (some .int) ∈ hAll := h_in 310 (by decide +kernel) (by decide +kernel)
theorem km_X6_19 : Cond.methodLink RX6 19 yX6_get ∈ hAll := h_in 311 (by decide +kernel) (by decide +kernel)
theorem ki_X6_get : Cond.instanceMethod yX6_get ∈ hAll := h_in 312 (by decide +kernel) (by decide +kernel)
theorem ks_X6_get : Cond.selects RX6 yX6_get yX6_get ∈ hAll := h_in 313 (by decide +kernel) (by decide +kernel)
theorem ko_X6_get : Cond.code yX6_get cX6_get 2 (some .int) ∈ hAll := h_in 314 (by decide +kernel) (by decide +kernel)
theorem km_X8_47 : Cond.methodLink RX8 47 yX6_get ∈ hAll := h_in 315 (by decide +kernel) (by decide +kernel)
theorem kc_X9_55 : Cond.classLink RX9 55 "java/lang/IllegalStateException" ∈ hAll := h_in 316 (by decide +kernel) (by decide +kernel)
theorem kc_X9_60 : Cond.classLink RX9 60 "java/lang/UnsupportedOperationException" ∈ hAll := h_in 332 (by decide +kernel) (by decide +kernel)
theorem km_X9_65 : Cond.methodLink RX9 65 yX8_begin ∈ hAll := h_in 348 (by decide +kernel) (by decide +kernel)
theorem ki_X8_begin : Cond.instanceMethod yX8_begin ∈ hAll := h_in 349 (by decide +kernel) (by decide +kernel)
theorem ks_X8_begin : Cond.selects RX8 yX8_begin yX8_begin ∈ hAll := h_in 350 (by decide +kernel) (by decide +kernel)
theorem ko_X8_begin : Cond.code yX8_begin cX8_begin 2 (some .int) ∈ hAll := h_in 351 (by decide +kernel) (by decide +kernel)
theorem km_X8_57 : Cond.methodLink RX8 57 yX6_add ∈ hAll := h_in 352 (by decide +kernel) (by decide +kernel)
theorem ki_X6_add : Cond.instanceMethod yX6_add ∈ hAll := h_in 353 (by decide +kernel) (by decide +kernel)
theorem ks_X6_add : Cond.selects RX6 yX6_add yX6_add ∈ hAll := h_in 354 (by decide +kernel) (by decide +kernel)
theorem ko_X6_add : Cond.code yX6_add cX6_add 2 none ∈ hAll := h_in 355 (by decide +kernel) (by decide +kernel)
theorem km_X6_23 : Cond.methodLink RX6 23 yJ7_copyOf_59c91 ∈ hAll := h_in 356 (by decide +kernel) (by decide +kernel)
theorem kt_J7_copyOf_59c91 : Cond.static yJ7_copyOf_59c91 ∈ hAll := h_in 357 (by decide +kernel) (by decide +kernel)
theorem ko_J7_copyOf_59c91 : Cond.code yJ7_copyOf_59c91 cJ7_copyOf_59c91 3 (some (.array .int)) ∈ hAll := h_in 358 (by decide +kernel) (by decide +kernel)
theorem kc_J7_317 : Cond.classLink RJ7 317 "[I" ∈ hAll := h_in 365 (by decide +kernel) (by decide +kernel)
theorem km_J7_304 : Cond.methodLink RJ7 304 yJ9_min_7cf53 ∈ hAll := h_in 366 (by decide +kernel) (by decide +kernel)
theorem kt_J9_min_7cf53 : Cond.static yJ9_min_7cf53 ∈ hAll := h_in 367 (by decide +kernel) (by decide +kernel)
theorem ko_Math_min : Cond.code yJ9_min_7cf53 Lib.Math.min.code 2 (some .int) ∈ hAll := h_in 368 (by decide +kernel) (by decide +kernel)
theorem kv_arraycopy : Cond.native arraycopyName ∈ hAll := h_in 371 (by decide +kernel) (by decide +kernel)
theorem km_L_55 : Cond.methodLink RL 55 yL_ring ∈ hAll := h_in 372 (by decide +kernel) (by decide +kernel)
theorem kt_L_ring : Cond.static yL_ring ∈ hAll := h_in 373 (by decide +kernel) (by decide +kernel)
theorem km_L_19 : Cond.methodLink RL 19 yX9_ring ∈ hAll := h_in 375 (by decide +kernel) (by decide +kernel)
theorem ki_X9_ring : Cond.instanceMethod yX9_ring ∈ hAll := h_in 376 (by decide +kernel) (by decide +kernel)
theorem ks_X9_ring : Cond.selects RX9 yX9_ring yX9_ring ∈ hAll := h_in 377 (by decide +kernel) (by decide +kernel)
theorem ko_X9_ring : Cond.code yX9_ring cX9_ring 1 none ∈ hAll := h_in 378 (by decide +kernel) (by decide +kernel)
theorem km_X9_69 : Cond.methodLink RX9 69 yX8_openKind ∈ hAll := h_in 379 (by decide +kernel) (by decide +kernel)
theorem km_X9_74 : Cond.methodLink RX9 74 yX8_beginRing ∈ hAll := h_in 381 (by decide +kernel) (by decide +kernel)
theorem ki_X8_beginRing : Cond.instanceMethod yX8_beginRing ∈ hAll := h_in 382 (by decide +kernel) (by decide +kernel)
theorem ks_X8_beginRing : Cond.selects RX8 yX8_beginRing yX8_beginRing ∈ hAll := h_in 383 (by decide +kernel) (by decide +kernel)
theorem ko_X8_beginRing : Cond.code yX8_beginRing cX8_beginRing 1 none ∈ hAll := h_in 384 (by decide +kernel) (by decide +kernel)
theorem km_L_59 : Cond.methodLink RL 59 yL_point ∈ hAll := h_in 385 (by decide +kernel) (by decide +kernel)
theorem kt_L_point : Cond.static yL_point ∈ hAll := h_in 386 (by decide +kernel) (by decide +kernel)
theorem km_L_22 : Cond.methodLink RL 22 yX9_point ∈ hAll := h_in 388 (by decide +kernel) (by decide +kernel)
theorem ki_X9_point : Cond.instanceMethod yX9_point ∈ hAll := h_in 389 (by decide +kernel) (by decide +kernel)
theorem ks_X9_point : Cond.selects RX9 yX9_point yX9_point ∈ hAll := h_in 390 (by decide +kernel) (by decide +kernel)
theorem ko_X9_point : Cond.code yX9_point cX9_point 3 (some .int) ∈ hAll := h_in 391 (by decide +kernel) (by decide +kernel)
theorem km_X9_77 : Cond.methodLink RX9 77 yX9_isCoordinate ∈ hAll := h_in 392 (by decide +kernel) (by decide +kernel)
theorem kt_X9_isCoordinate : Cond.static yX9_isCoordinate ∈ hAll := h_in 393 (by decide +kernel) (by decide +kernel)
theorem ko_X9_isCoordinate : Cond.code yX9_isCoordinate cX9_isCoordinate 1 (some .boolean) ∈ hAll := h_in 394 (by decide +kernel) (by decide +kernel)
theorem kk_X9_131 : Cond.constant RX9 131 (-1000000000) ∈ hAll := h_in 395 (by decide +kernel) (by decide +kernel)
theorem kk_X9_132 : Cond.constant RX9 132 (1000000000) ∈ hAll := h_in 396 (by decide +kernel) (by decide +kernel)
theorem km_X9_82 : Cond.methodLink RX9 82 yX8_canTakePoint ∈ hAll := h_in 398 (by decide +kernel) (by decide +kernel)
theorem ki_X8_canTakePoint : Cond.instanceMethod yX8_canTakePoint ∈ hAll := h_in 399 (by decide +kernel) (by decide +kernel)
theorem ks_X8_canTakePoint : Cond.selects RX8 yX8_canTakePoint yX8_canTakePoint ∈ hAll := h_in 400 (by decide +kernel) (by decide +kernel)
theorem ko_X8_canTakePoint : Cond.code yX8_canTakePoint cX8_canTakePoint 2 (some .boolean) ∈ hAll := h_in 401 (by decide +kernel) (by decide +kernel)
theorem km_X9_88 : Cond.methodLink RX9 88 yX8_pointCount ∈ hAll := h_in 403 (by decide +kernel) (by decide +kernel)
theorem ki_X8_pointCount : Cond.instanceMethod yX8_pointCount ∈ hAll := h_in 404 (by decide +kernel) (by decide +kernel)
theorem ks_X8_pointCount : Cond.selects RX8 yX8_pointCount yX8_pointCount ∈ hAll := h_in 405 (by decide +kernel) (by decide +kernel)
theorem ko_X8_pointCount : Cond.code yX8_pointCount cX8_pointCount 1 (some .int) ∈ hAll := h_in 406 (by decide +kernel) (by decide +kernel)
theorem km_X9_93 : Cond.methodLink RX9 93 yX8_addPoint ∈ hAll := h_in 408 (by decide +kernel) (by decide +kernel)
theorem ki_X8_addPoint : Cond.instanceMethod yX8_addPoint ∈ hAll := h_in 409 (by decide +kernel) (by decide +kernel)
theorem ks_X8_addPoint : Cond.selects RX8 yX8_addPoint yX8_addPoint ∈ hAll := h_in 410 (by decide +kernel) (by decide +kernel)
theorem ko_X8_addPoint : Cond.code yX8_addPoint cX8_addPoint 3 (some .int) ∈ hAll := h_in 411 (by decide +kernel) (by decide +kernel)
theorem km_L_63 : Cond.methodLink RL 63 yL_close ∈ hAll := h_in 412 (by decide +kernel) (by decide +kernel)
theorem kt_L_close : Cond.static yL_close ∈ hAll := h_in 413 (by decide +kernel) (by decide +kernel)
theorem km_L_26 : Cond.methodLink RL 26 yX9_close ∈ hAll := h_in 415 (by decide +kernel) (by decide +kernel)
theorem ki_X9_close : Cond.instanceMethod yX9_close ∈ hAll := h_in 416 (by decide +kernel) (by decide +kernel)
theorem ks_X9_close : Cond.selects RX9 yX9_close yX9_close ∈ hAll := h_in 417 (by decide +kernel) (by decide +kernel)
theorem ko_X9_close : Cond.code yX9_close cX9_close 1 (some .int) ∈ hAll := h_in 418 (by decide +kernel) (by decide +kernel)
theorem km_X9_97 : Cond.methodLink RX9 97 yX8_openCount ∈ hAll := h_in 419 (by decide +kernel) (by decide +kernel)
theorem ki_X8_openCount : Cond.instanceMethod yX8_openCount ∈ hAll := h_in 420 (by decide +kernel) (by decide +kernel)
theorem ks_X8_openCount : Cond.selects RX8 yX8_openCount yX8_openCount ∈ hAll := h_in 421 (by decide +kernel) (by decide +kernel)
theorem ko_X8_openCount : Cond.code yX8_openCount cX8_openCount 1 (some .int) ∈ hAll := h_in 422 (by decide +kernel) (by decide +kernel)
theorem km_X9_102 : Cond.methodLink RX9 102 yX8_finish ∈ hAll := h_in 424 (by decide +kernel) (by decide +kernel)
theorem ki_X8_finish : Cond.instanceMethod yX8_finish ∈ hAll := h_in 425 (by decide +kernel) (by decide +kernel)
theorem ks_X8_finish : Cond.selects RX8 yX8_finish yX8_finish ∈ hAll := h_in 426 (by decide +kernel) (by decide +kernel)
theorem ko_X8_finish : Cond.code yX8_finish cX8_finish 1 (some .int) ∈ hAll := h_in 427 (by decide +kernel) (by decide +kernel)
theorem km_X8_61 : Cond.methodLink RX8 61 yX6_dropLast ∈ hAll := h_in 428 (by decide +kernel) (by decide +kernel)
theorem ki_X6_dropLast : Cond.instanceMethod yX6_dropLast ∈ hAll := h_in 429 (by decide +kernel) (by decide +kernel)
theorem ks_X6_dropLast : Cond.selects RX6 yX6_dropLast yX6_dropLast ∈ hAll := h_in 430 (by decide +kernel) (by decide +kernel)
theorem ko_X6_dropLast : Cond.code yX6_dropLast cX6_dropLast 1 none ∈ hAll := h_in 431 (by decide +kernel) (by decide +kernel)
theorem km_L_67 : Cond.methodLink RL 67 yL_judge ∈ hAll := h_in 432 (by decide +kernel) (by decide +kernel)
theorem kt_L_judge : Cond.static yL_judge ∈ hAll := h_in 433 (by decide +kernel) (by decide +kernel)
theorem km_L_30 : Cond.methodLink RL 30 yX9_judge ∈ hAll := h_in 435 (by decide +kernel) (by decide +kernel)
theorem ki_X9_judge : Cond.instanceMethod yX9_judge ∈ hAll := h_in 436 (by decide +kernel) (by decide +kernel)
theorem ks_X9_judge : Cond.selects RX9 yX9_judge yX9_judge ∈ hAll := h_in 437 (by decide +kernel) (by decide +kernel)
theorem ko_X9_judge : Cond.code yX9_judge cX9_judge 2 (some .int) ∈ hAll := h_in 438 (by decide +kernel) (by decide +kernel)
theorem km_X9_105 : Cond.methodLink RX9 105 yX8_isWhole ∈ hAll := h_in 439 (by decide +kernel) (by decide +kernel)
theorem ki_X8_isWhole : Cond.instanceMethod yX8_isWhole ∈ hAll := h_in 440 (by decide +kernel) (by decide +kernel)
theorem ks_X8_isWhole : Cond.selects RX8 yX8_isWhole yX8_isWhole ∈ hAll := h_in 441 (by decide +kernel) (by decide +kernel)
theorem ko_X8_isWhole : Cond.code yX8_isWhole cX8_isWhole 1 (some .boolean) ∈ hAll := h_in 442 (by decide +kernel) (by decide +kernel)
theorem km_X9_110 : Cond.methodLink RX9 110 yX8_count ∈ hAll := h_in 444 (by decide +kernel) (by decide +kernel)
theorem ki_X8_count : Cond.instanceMethod yX8_count ∈ hAll := h_in 445 (by decide +kernel) (by decide +kernel)
theorem ks_X8_count : Cond.selects RX8 yX8_count yX8_count ∈ hAll := h_in 446 (by decide +kernel) (by decide +kernel)
theorem ko_X8_count : Cond.code yX8_count cX8_count 1 (some .int) ∈ hAll := h_in 447 (by decide +kernel) (by decide +kernel)
theorem km_X9_113 : Cond.methodLink RX9 113 yX1_isMade ∈ hAll := h_in 448 (by decide +kernel) (by decide +kernel)
theorem ki_X1_isMade : Cond.instanceMethod yX1_isMade ∈ hAll := h_in 449 (by decide +kernel) (by decide +kernel)
theorem ks_X1_isMade : Cond.selects RX1 yX1_isMade yX1_isMade ∈ hAll := h_in 450 (by decide +kernel) (by decide +kernel)
theorem ko_X1_isMade : Cond.code yX1_isMade cX1_isMade 1 (some .boolean) ∈ hAll := h_in 451 (by decide +kernel) (by decide +kernel)
theorem km_X9_116 : Cond.methodLink RX9 116 yX2_inspect ∈ hAll := h_in 452 (by decide +kernel) (by decide +kernel)
theorem ki_X2_inspect : Cond.instanceMethod yX2_inspect ∈ hAll := h_in 453 (by decide +kernel) (by decide +kernel)
theorem ks_X2_inspect : Cond.selects RX2 yX2_inspect yX2_inspect ∈ hAll := h_in 454 (by decide +kernel) (by decide +kernel)
theorem ko_X2_inspect : Cond.code yX2_inspect cX2_inspect 6 none ∈ hAll := h_in 455 (by decide +kernel) (by decide +kernel)
theorem km_X2_30 : Cond.methodLink RX2 30 yX8_kind ∈ hAll := h_in 456 (by decide +kernel) (by decide +kernel)
theorem ki_X8_kind : Cond.instanceMethod yX8_kind ∈ hAll := h_in 457 (by decide +kernel) (by decide +kernel)
theorem ks_X8_kind : Cond.selects RX8 yX8_kind yX8_kind ∈ hAll := h_in 458 (by decide +kernel) (by decide +kernel)
theorem ko_X8_kind : Cond.code yX8_kind cX8_kind 2 (some .int) ∈ hAll := h_in 459 (by decide +kernel) (by decide +kernel)
theorem km_X2_36 : Cond.methodLink RX2 36 yX2_inspectLine ∈ hAll := h_in 460 (by decide +kernel) (by decide +kernel)
theorem ki_X2_inspectLine : Cond.instanceMethod yX2_inspectLine ∈ hAll := h_in 462 (by decide +kernel) (by decide +kernel)
theorem ko_X2_inspectLine : Cond.code yX2_inspectLine cX2_inspectLine 1 none ∈ hAll := h_in 463 (by decide +kernel) (by decide +kernel)
theorem km_X2_74 : Cond.methodLink RX2 74 yX8_differentInLine ∈ hAll := h_in 464 (by decide +kernel) (by decide +kernel)
theorem ki_X8_differentInLine : Cond.instanceMethod yX8_differentInLine ∈ hAll := h_in 465 (by decide +kernel) (by decide +kernel)
theorem ks_X8_differentInLine : Cond.selects RX8 yX8_differentInLine yX8_differentInLine ∈ hAll := h_in 466 (by decide +kernel) (by decide +kernel)
theorem ko_X8_differentInLine : Cond.code yX8_differentInLine cX8_differentInLine 2 (some .int) ∈ hAll := h_in 467 (by decide +kernel) (by decide +kernel)
theorem km_X8_64 : Cond.methodLink RX8 64 yX8_differentPoints ∈ hAll := h_in 468 (by decide +kernel) (by decide +kernel)
theorem ki_X8_differentPoints : Cond.instanceMethod yX8_differentPoints ∈ hAll := h_in 470 (by decide +kernel) (by decide +kernel)
theorem ko_X8_differentPoints : Cond.code yX8_differentPoints cX8_differentPoints 6 (some .int) ∈ hAll := h_in 471 (by decide +kernel) (by decide +kernel)
theorem km_X8_91 : Cond.methodLink RX8 91 yX8_behindChain ∈ hAll := h_in 472 (by decide +kernel) (by decide +kernel)
theorem ki_X8_behindChain : Cond.instanceMethod yX8_behindChain ∈ hAll := h_in 474 (by decide +kernel) (by decide +kernel)
theorem ko_X8_behindChain : Cond.code yX8_behindChain cX8_behindChain 2 (some .int) ∈ hAll := h_in 475 (by decide +kernel) (by decide +kernel)
theorem km_X8_97 : Cond.methodLink RX8 97 yX8_isSame ∈ hAll := h_in 476 (by decide +kernel) (by decide +kernel)
theorem ki_X8_isSame : Cond.instanceMethod yX8_isSame ∈ hAll := h_in 478 (by decide +kernel) (by decide +kernel)
theorem ko_X8_isSame : Cond.code yX8_isSame cX8_isSame 3 (some .boolean) ∈ hAll := h_in 479 (by decide +kernel) (by decide +kernel)
theorem km_X2_77 : Cond.methodLink RX2 77 yX1_tell ∈ hAll := h_in 480 (by decide +kernel) (by decide +kernel)
theorem ki_X1_tell : Cond.instanceMethod yX1_tell ∈ hAll := h_in 481 (by decide +kernel) (by decide +kernel)
theorem ks_X1_tell : Cond.selects RX1 yX1_tell yX1_tell ∈ hAll := h_in 482 (by decide +kernel) (by decide +kernel)
theorem ko_X1_tell : Cond.code yX1_tell cX1_tell 3 none ∈ hAll := h_in 483 (by decide +kernel) (by decide +kernel)
theorem km_X2_39 : Cond.methodLink RX2 39 yX8_polygonsOf ∈ hAll := h_in 484 (by decide +kernel) (by decide +kernel)
theorem ki_X8_polygonsOf : Cond.instanceMethod yX8_polygonsOf ∈ hAll := h_in 485 (by decide +kernel) (by decide +kernel)
theorem ks_X8_polygonsOf : Cond.selects RX8 yX8_polygonsOf yX8_polygonsOf ∈ hAll := h_in 486 (by decide +kernel) (by decide +kernel)
theorem ko_X8_polygonsOf : Cond.code yX8_polygonsOf cX8_polygonsOf 6 (some (.array (.object "ShapeJudge$Polygon"))) ∈ hAll := h_in 487 (by decide +kernel) (by decide +kernel)
theorem km_X8_67 : Cond.methodLink RX8 67 yX8_countPolygons ∈ hAll := h_in 488 (by decide +kernel) (by decide +kernel)
theorem ki_X8_countPolygons : Cond.instanceMethod yX8_countPolygons ∈ hAll := h_in 490 (by decide +kernel) (by decide +kernel)
theorem ko_X8_countPolygons : Cond.code yX8_countPolygons cX8_countPolygons 3 (some .int) ∈ hAll := h_in 491 (by decide +kernel) (by decide +kernel)
theorem km_X8_70 : Cond.methodLink RX8 70 yJ9_max_7cf53 ∈ hAll := h_in 492 (by decide +kernel) (by decide +kernel)
theorem kt_J9_max_7cf53 : Cond.static yJ9_max_7cf53 ∈ hAll := h_in 493 (by decide +kernel) (by decide +kernel)
theorem ko_Math_max : Cond.code yJ9_max_7cf53 Lib.Math.max.code 2 (some .int) ∈ hAll := h_in 494 (by decide +kernel) (by decide +kernel)
theorem kc_X8_76 : Cond.classLink RX8 76 RX4 ∈ hAll := h_in 495 (by decide +kernel) (by decide +kernel)
theorem km_X8_78 : Cond.methodLink RX8 78 yX8_toPolygon ∈ hAll := h_in 497 (by decide +kernel) (by decide +kernel)
theorem ki_X8_toPolygon : Cond.instanceMethod yX8_toPolygon ∈ hAll := h_in 499 (by decide +kernel) (by decide +kernel)
theorem ko_X8_toPolygon : Cond.code yX8_toPolygon cX8_toPolygon 7 (some (.object "ShapeJudge$Polygon")) ∈ hAll := h_in 500 (by decide +kernel) (by decide +kernel)
theorem kc_X8_82 : Cond.classLink RX8 82 RX5 ∈ hAll := h_in 501 (by decide +kernel) (by decide +kernel)
theorem km_X8_84 : Cond.methodLink RX8 84 yX8_toRing ∈ hAll := h_in 503 (by decide +kernel) (by decide +kernel)
theorem ki_X8_toRing : Cond.instanceMethod yX8_toRing ∈ hAll := h_in 505 (by decide +kernel) (by decide +kernel)
theorem ko_X8_toRing : Cond.code yX8_toRing cX8_toRing 8 (some (.object "ShapeJudge$Ring")) ∈ hAll := h_in 506 (by decide +kernel) (by decide +kernel)
theorem ka_X5 : Cond.instantiable RX5 7 ∈ hAll := h_in 507 (by decide +kernel) (by decide +kernel)
theorem km_X8_94 : Cond.methodLink RX8 94 yX5_init ∈ hAll := h_in 508 (by decide +kernel) (by decide +kernel)
theorem ki_X5_init : Cond.instanceMethod yX5_init ∈ hAll := h_in 509 (by decide +kernel) (by decide +kernel)
theorem ko_X5_init : Cond.code yX5_init cX5_init 4 none ∈ hAll := h_in 510 (by decide +kernel) (by decide +kernel)
theorem km_X5_1 : Cond.methodLink RX5 1 objectInit ∈ hAll := h_in 511 (by decide +kernel) (by decide +kernel)
theorem kc_X5_16 : Cond.classLink RX5 16 RX0 ∈ hAll := h_in 512 (by decide +kernel) (by decide +kernel)
theorem ka_X0 : Cond.instantiable RX0 4 ∈ hAll := h_in 513 (by decide +kernel) (by decide +kernel)
theorem ki_X0_init : Cond.instanceMethod yX0_init ∈ hAll := h_in 515 (by decide +kernel) (by decide +kernel)
theorem ko_X0_init : Cond.code yX0_init cX0_init 1 none ∈ hAll := h_in 516 (by decide +kernel) (by decide +kernel)
theorem km_X0_1 : Cond.methodLink RX0 1 objectInit ∈ hAll := h_in 517 (by decide +kernel) (by decide +kernel)
theorem kk_X0_9 : Cond.constant RX0 9 (2147483647) ∈ hAll := h_in 518 (by decide +kernel) (by decide +kernel)
theorem kk_X0_19 : Cond.constant RX0 19 (-2147483648) ∈ hAll := h_in 519 (by decide +kernel) (by decide +kernel)
theorem kf_X0_10 : Cond.fieldLink RX0 10 "ShapeJudge$Box" "lowX" "I" ∈ hAll := h_in 520 (by decide +kernel) (by decide +kernel)
theorem kf_X0_16 : Cond.fieldLink RX0 16 "ShapeJudge$Box" "lowY" "I" ∈ hAll := h_in 522 (by decide +kernel) (by decide +kernel)
theorem kf_X0_20 : Cond.fieldLink RX0 20 "ShapeJudge$Box" "highX" "I" ∈ hAll := h_in 524 (by decide +kernel) (by decide +kernel)
theorem kf_X0_23 : Cond.fieldLink RX0 23 "ShapeJudge$Box" "highY" "I" ∈ hAll := h_in 526 (by decide +kernel) (by decide +kernel)
theorem km_X5_23 : Cond.methodLink RX5 23 yJ9_max_7cf53 ∈ hAll := h_in 537 (by decide +kernel) (by decide +kernel)
theorem kc_X5_29 : Cond.classLink RX5 29 RX7 ∈ hAll := h_in 538 (by decide +kernel) (by decide +kernel)
theorem kf_X5_7 : Cond.fieldLink RX5 7 "ShapeJudge$Ring" "part" "I" ∈ hAll := h_in 540 (by decide +kernel) (by decide +kernel)
theorem kf_X5_13 : Cond.fieldLink RX5 13 "ShapeJudge$Ring" "number" "I" ∈ hAll := h_in 542 (by decide +kernel) (by decide +kernel)
theorem kf_X5_19 : Cond.fieldLink RX5 19 "ShapeJudge$Ring" "box" "LShapeJudge$Box;" ∈ hAll := h_in 544 (by decide +kernel) (by decide +kernel)
theorem kf_X5_31 : Cond.fieldLink RX5 31 "ShapeJudge$Ring" "segments" "[LShapeJudge$Segment;" ∈ hAll := h_in 547 (by decide +kernel) (by decide +kernel)
theorem kf_X5_35 : Cond.fieldLink RX5 35 "ShapeJudge$Ring" "count" "I" ∈ hAll := h_in 550 (by decide +kernel) (by decide +kernel)
theorem kc_X8_107 : Cond.classLink RX8 107 RX7 ∈ hAll := h_in 572 (by decide +kernel) (by decide +kernel)
theorem ka_X7 : Cond.instantiable RX7 8 ∈ hAll := h_in 573 (by decide +kernel) (by decide +kernel)
theorem km_X8_109 : Cond.methodLink RX8 109 yX7_init ∈ hAll := h_in 574 (by decide +kernel) (by decide +kernel)
theorem ki_X7_init : Cond.instanceMethod yX7_init ∈ hAll := h_in 575 (by decide +kernel) (by decide +kernel)
theorem ko_X7_init : Cond.code yX7_init cX7_init 7 none ∈ hAll := h_in 576 (by decide +kernel) (by decide +kernel)
theorem km_X7_1 : Cond.methodLink RX7 1 objectInit ∈ hAll := h_in 577 (by decide +kernel) (by decide +kernel)
theorem kc_X7_29 : Cond.classLink RX7 29 RX0 ∈ hAll := h_in 578 (by decide +kernel) (by decide +kernel)
theorem km_X7_36 : Cond.methodLink RX7 36 yX0_take ∈ hAll := h_in 580 (by decide +kernel) (by decide +kernel)
theorem ki_X0_take : Cond.instanceMethod yX0_take ∈ hAll := h_in 581 (by decide +kernel) (by decide +kernel)
theorem ks_X0_take : Cond.selects RX0 yX0_take yX0_take ∈ hAll := h_in 582 (by decide +kernel) (by decide +kernel)
theorem ko_X0_take : Cond.code yX0_take cX0_take 3 none ∈ hAll := h_in 583 (by decide +kernel) (by decide +kernel)
theorem km_X0_26 : Cond.methodLink RX0 26 yJ9_min_7cf53 ∈ hAll := h_in 584 (by decide +kernel) (by decide +kernel)
theorem km_X0_32 : Cond.methodLink RX0 32 yJ9_max_7cf53 ∈ hAll := h_in 585 (by decide +kernel) (by decide +kernel)
theorem kf_X7_7 : Cond.fieldLink RX7 7 "ShapeJudge$Segment" "ring" "LShapeJudge$Ring;" ∈ hAll := h_in 586 (by decide +kernel) (by decide +kernel)
theorem kf_X7_13 : Cond.fieldLink RX7 13 "ShapeJudge$Segment" "number" "I" ∈ hAll := h_in 589 (by decide +kernel) (by decide +kernel)
theorem kf_X7_17 : Cond.fieldLink RX7 17 "ShapeJudge$Segment" "fromX" "I" ∈ hAll := h_in 591 (by decide +kernel) (by decide +kernel)
theorem kf_X7_20 : Cond.fieldLink RX7 20 "ShapeJudge$Segment" "fromY" "I" ∈ hAll := h_in 595 (by decide +kernel) (by decide +kernel)
theorem kf_X7_23 : Cond.fieldLink RX7 23 "ShapeJudge$Segment" "toX" "I" ∈ hAll := h_in 599 (by decide +kernel) (by decide +kernel)
theorem kf_X7_26 : Cond.fieldLink RX7 26 "ShapeJudge$Segment" "toY" "I" ∈ hAll := h_in 602 (by decide +kernel) (by decide +kernel)
theorem kf_X7_32 : Cond.fieldLink RX7 32 "ShapeJudge$Segment" "box" "LShapeJudge$Box;" ∈ hAll := h_in 605 (by decide +kernel) (by decide +kernel)
theorem kf_X7_40 : Cond.fieldLink RX7 40 "ShapeJudge$Segment" "next" "LShapeJudge$Segment;" ∈ hAll := h_in 609 (by decide +kernel) (by decide +kernel)
theorem km_X8_112 : Cond.methodLink RX8 112 yX5_add ∈ hAll := h_in 628 (by decide +kernel) (by decide +kernel)
theorem ki_X5_add : Cond.instanceMethod yX5_add ∈ hAll := h_in 629 (by decide +kernel) (by decide +kernel)
theorem ks_X5_add : Cond.selects RX5 yX5_add yX5_add ∈ hAll := h_in 630 (by decide +kernel) (by decide +kernel)
theorem ko_X5_add : Cond.code yX5_add cX5_add 2 none ∈ hAll := h_in 631 (by decide +kernel) (by decide +kernel)
theorem km_X5_48 : Cond.methodLink RX5 48 yX0_take ∈ hAll := h_in 632 (by decide +kernel) (by decide +kernel)
theorem ka_X4 : Cond.instantiable RX4 2 ∈ hAll := h_in 633 (by decide +kernel) (by decide +kernel)
theorem km_X8_88 : Cond.methodLink RX8 88 yX4_init ∈ hAll := h_in 634 (by decide +kernel) (by decide +kernel)
theorem ki_X4_init : Cond.instanceMethod yX4_init ∈ hAll := h_in 635 (by decide +kernel) (by decide +kernel)
theorem ko_X4_init : Cond.code yX4_init cX4_init 3 none ∈ hAll := h_in 636 (by decide +kernel) (by decide +kernel)
theorem km_X4_3 : Cond.methodLink RX4 3 objectInit ∈ hAll := h_in 637 (by decide +kernel) (by decide +kernel)
theorem kf_X4_9 : Cond.fieldLink RX4 9 "ShapeJudge$Polygon" "part" "I" ∈ hAll := h_in 638 (by decide +kernel) (by decide +kernel)
theorem kf_X4_15 : Cond.fieldLink RX4 15 "ShapeJudge$Polygon" "rings" "[LShapeJudge$Ring;" ∈ hAll := h_in 640 (by decide +kernel) (by decide +kernel)
theorem km_X2_43 : Cond.methodLink RX2 43 yX2_inspectRings ∈ hAll := h_in 647 (by decide +kernel) (by decide +kernel)
theorem ki_X2_inspectRings : Cond.instanceMethod yX2_inspectRings ∈ hAll := h_in 649 (by decide +kernel) (by decide +kernel)
theorem ko_X2_inspectRings : Cond.code yX2_inspectRings cX2_inspectRings 4 (some .boolean) ∈ hAll := h_in 650 (by decide +kernel) (by decide +kernel)
theorem km_X2_95 : Cond.methodLink RX2 95 yX1_tellOne ∈ hAll := h_in 651 (by decide +kernel) (by decide +kernel)
theorem ki_X1_tellOne : Cond.instanceMethod yX1_tellOne ∈ hAll := h_in 652 (by decide +kernel) (by decide +kernel)
theorem ks_X1_tellOne : Cond.selects RX1 yX1_tellOne yX1_tellOne ∈ hAll := h_in 653 (by decide +kernel) (by decide +kernel)
theorem ko_X1_tellOne : Cond.code yX1_tellOne cX1_tellOne 4 none ∈ hAll := h_in 654 (by decide +kernel) (by decide +kernel)
theorem km_X1_25 : Cond.methodLink RX1 25 yX1_tellAt ∈ hAll := h_in 655 (by decide +kernel) (by decide +kernel)
theorem ki_X1_tellAt : Cond.instanceMethod yX1_tellAt ∈ hAll := h_in 657 (by decide +kernel) (by decide +kernel)
theorem ko_X1_tellAt : Cond.code yX1_tellAt cX1_tellAt 5 none ∈ hAll := h_in 658 (by decide +kernel) (by decide +kernel)
theorem km_X2_53 : Cond.methodLink RX2 53 yX2_inspectSegments ∈ hAll := h_in 659 (by decide +kernel) (by decide +kernel)
theorem ki_X2_inspectSegments : Cond.instanceMethod yX2_inspectSegments ∈ hAll := h_in 661 (by decide +kernel) (by decide +kernel)
theorem ko_X2_inspectSegments : Cond.code yX2_inspectSegments cX2_inspectSegments 9 (some .boolean) ∈ hAll := h_in 662 (by decide +kernel) (by decide +kernel)
theorem km_X2_107 : Cond.methodLink RX2 107 yX2_inspectSegment ∈ hAll := h_in 663 (by decide +kernel) (by decide +kernel)
theorem ki_X2_inspectSegment : Cond.instanceMethod yX2_inspectSegment ∈ hAll := h_in 665 (by decide +kernel) (by decide +kernel)
theorem ko_X2_inspectSegment : Cond.code yX2_inspectSegment cX2_inspectSegment 7 (some .boolean) ∈ hAll := h_in 666 (by decide +kernel) (by decide +kernel)
theorem km_X2_118 : Cond.methodLink RX2 118 yX0_isApartFrom ∈ hAll := h_in 667 (by decide +kernel) (by decide +kernel)
theorem ki_X0_isApartFrom : Cond.instanceMethod yX0_isApartFrom ∈ hAll := h_in 668 (by decide +kernel) (by decide +kernel)
theorem ks_X0_isApartFrom : Cond.selects RX0 yX0_isApartFrom yX0_isApartFrom ∈ hAll := h_in 669 (by decide +kernel) (by decide +kernel)
theorem ko_X0_isApartFrom : Cond.code yX0_isApartFrom cX0_isApartFrom 2 (some .boolean) ∈ hAll := h_in 670 (by decide +kernel) (by decide +kernel)
theorem km_X2_124 : Cond.methodLink RX2 124 yX3_fault ∈ hAll := h_in 671 (by decide +kernel) (by decide +kernel)
theorem ki_X3_fault : Cond.instanceMethod yX3_fault ∈ hAll := h_in 672 (by decide +kernel) (by decide +kernel)
theorem ks_X3_fault : Cond.selects RX3 yX3_fault yX3_fault ∈ hAll := h_in 673 (by decide +kernel) (by decide +kernel)
theorem ko_X3_fault : Cond.code yX3_fault cX3_fault 4 (some .int) ∈ hAll := h_in 674 (by decide +kernel) (by decide +kernel)
theorem km_X3_9 : Cond.methodLink RX3 9 yX3_meet ∈ hAll := h_in 675 (by decide +kernel) (by decide +kernel)
theorem ki_X3_meet : Cond.instanceMethod yX3_meet ∈ hAll := h_in 677 (by decide +kernel) (by decide +kernel)
theorem ko_X3_meet : Cond.code yX3_meet cX3_meet 11 (some .int) ∈ hAll := h_in 678 (by decide +kernel) (by decide +kernel)
theorem km_X3_33 : Cond.methodLink RX3 33 yX0_isApartFrom ∈ hAll := h_in 679 (by decide +kernel) (by decide +kernel)
theorem km_X3_46 : Cond.methodLink RX3 46 yX7_side ∈ hAll := h_in 680 (by decide +kernel) (by decide +kernel)
theorem ki_X7_side : Cond.instanceMethod yX7_side ∈ hAll := h_in 681 (by decide +kernel) (by decide +kernel)
theorem ks_X7_side : Cond.selects RX7 yX7_side yX7_side ∈ hAll := h_in 682 (by decide +kernel) (by decide +kernel)
theorem ko_X7_side : Cond.code yX7_side cX7_side 3 (some .long) ∈ hAll := h_in 683 (by decide +kernel) (by decide +kernel)
theorem km_X3_56 : Cond.methodLink RX3 56 yX3_meetOnOneLine ∈ hAll := h_in 684 (by decide +kernel) (by decide +kernel)
theorem ki_X3_meetOnOneLine : Cond.instanceMethod yX3_meetOnOneLine ∈ hAll := h_in 686 (by decide +kernel) (by decide +kernel)
theorem ko_X3_meetOnOneLine : Cond.code yX3_meetOnOneLine cX3_meetOnOneLine 6 (some .int) ∈ hAll := h_in 687 (by decide +kernel) (by decide +kernel)
theorem km_X3_71 : Cond.methodLink RX3 71 yJ9_max_7cf53 ∈ hAll := h_in 688 (by decide +kernel) (by decide +kernel)
theorem km_X3_82 : Cond.methodLink RX3 82 yJ9_min_7cf53 ∈ hAll := h_in 689 (by decide +kernel) (by decide +kernel)
theorem km_X3_64 : Cond.methodLink RX3 64 yX3_meetAt ∈ hAll := h_in 690 (by decide +kernel) (by decide +kernel)
theorem ki_X3_meetAt : Cond.instanceMethod yX3_meetAt ∈ hAll := h_in 692 (by decide +kernel) (by decide +kernel)
theorem ko_X3_meetAt : Cond.code yX3_meetAt cX3_meetAt 3 (some .int) ∈ hAll := h_in 693 (by decide +kernel) (by decide +kernel)
theorem km_X3_60 : Cond.methodLink RX3 60 yX3_isOneSide ∈ hAll := h_in 694 (by decide +kernel) (by decide +kernel)
theorem kt_X3_isOneSide : Cond.static yX3_isOneSide ∈ hAll := h_in 695 (by decide +kernel) (by decide +kernel)
theorem ko_X3_isOneSide : Cond.code yX3_isOneSide cX3_isOneSide 4 (some .boolean) ∈ hAll := h_in 696 (by decide +kernel) (by decide +kernel)
theorem km_X3_21 : Cond.methodLink RX3 21 yX7_isNeighbourOf ∈ hAll := h_in 697 (by decide +kernel) (by decide +kernel)
theorem ki_X7_isNeighbourOf : Cond.instanceMethod yX7_isNeighbourOf ∈ hAll := h_in 698 (by decide +kernel) (by decide +kernel)
theorem ks_X7_isNeighbourOf : Cond.selects RX7 yX7_isNeighbourOf yX7_isNeighbourOf ∈ hAll := h_in 699 (by decide +kernel) (by decide +kernel)
theorem ko_X7_isNeighbourOf : Cond.code yX7_isNeighbourOf cX7_isNeighbourOf 2 (some .boolean) ∈ hAll := h_in 700 (by decide +kernel) (by decide +kernel)
theorem km_X3_25 : Cond.methodLink RX3 25 yX3_ringsCross ∈ hAll := h_in 701 (by decide +kernel) (by decide +kernel)
theorem ki_X3_ringsCross : Cond.instanceMethod yX3_ringsCross ∈ hAll := h_in 703 (by decide +kernel) (by decide +kernel)
theorem ko_X3_ringsCross : Cond.code yX3_ringsCross cX3_ringsCross 7 (some .boolean) ∈ hAll := h_in 704 (by decide +kernel) (by decide +kernel)
theorem km_X3_94 : Cond.methodLink RX3 94 yX7_beginsAt ∈ hAll := h_in 705 (by decide +kernel) (by decide +kernel)
theorem ki_X7_beginsAt : Cond.instanceMethod yX7_beginsAt ∈ hAll := h_in 706 (by decide +kernel) (by decide +kernel)
theorem ks_X7_beginsAt : Cond.selects RX7 yX7_beginsAt yX7_beginsAt ∈ hAll := h_in 707 (by decide +kernel) (by decide +kernel)
theorem ko_X7_beginsAt : Cond.code yX7_beginsAt cX7_beginsAt 3 (some .boolean) ∈ hAll := h_in 708 (by decide +kernel) (by decide +kernel)
theorem km_X3_102 : Cond.methodLink RX3 102 yX7_hasOnLeft ∈ hAll := h_in 709 (by decide +kernel) (by decide +kernel)
theorem ki_X7_hasOnLeft : Cond.instanceMethod yX7_hasOnLeft ∈ hAll := h_in 710 (by decide +kernel) (by decide +kernel)
theorem ks_X7_hasOnLeft : Cond.selects RX7 yX7_hasOnLeft yX7_hasOnLeft ∈ hAll := h_in 711 (by decide +kernel) (by decide +kernel)
theorem ko_X7_hasOnLeft : Cond.code yX7_hasOnLeft cX7_hasOnLeft 23 (some .boolean) ∈ hAll := h_in 712 (by decide +kernel) (by decide +kernel)
theorem km_X2_128 : Cond.methodLink RX2 128 yX2_tellSegments ∈ hAll := h_in 713 (by decide +kernel) (by decide +kernel)
theorem ki_X2_tellSegments : Cond.instanceMethod yX2_tellSegments ∈ hAll := h_in 715 (by decide +kernel) (by decide +kernel)
theorem ko_X2_tellSegments : Cond.code yX2_tellSegments cX2_tellSegments 5 none ∈ hAll := h_in 716 (by decide +kernel) (by decide +kernel)
theorem km_X2_140 : Cond.methodLink RX2 140 yX1_tellOther ∈ hAll := h_in 717 (by decide +kernel) (by decide +kernel)
theorem ki_X1_tellOther : Cond.instanceMethod yX1_tellOther ∈ hAll := h_in 718 (by decide +kernel) (by decide +kernel)
theorem ks_X1_tellOther : Cond.selects RX1 yX1_tellOther yX1_tellOther ∈ hAll := h_in 719 (by decide +kernel) (by decide +kernel)
theorem ko_X1_tellOther : Cond.code yX1_tellOther cX1_tellOther 4 none ∈ hAll := h_in 720 (by decide +kernel) (by decide +kernel)
theorem km_X2_57 : Cond.methodLink RX2 57 yX2_inspectHoles ∈ hAll := h_in 721 (by decide +kernel) (by decide +kernel)
theorem ki_X2_inspectHoles : Cond.instanceMethod yX2_inspectHoles ∈ hAll := h_in 723 (by decide +kernel) (by decide +kernel)
theorem ko_X2_inspectHoles : Cond.code yX2_inspectHoles cX2_inspectHoles 4 (some .boolean) ∈ hAll := h_in 724 (by decide +kernel) (by decide +kernel)
theorem km_X2_143 : Cond.methodLink RX2 143 yX5_liesIn ∈ hAll := h_in 725 (by decide +kernel) (by decide +kernel)
theorem ki_X5_liesIn : Cond.instanceMethod yX5_liesIn ∈ hAll := h_in 726 (by decide +kernel) (by decide +kernel)
theorem ks_X5_liesIn : Cond.selects RX5 yX5_liesIn yX5_liesIn ∈ hAll := h_in 727 (by decide +kernel) (by decide +kernel)
theorem ko_X5_liesIn : Cond.code yX5_liesIn cX5_liesIn 4 (some .boolean) ∈ hAll := h_in 728 (by decide +kernel) (by decide +kernel)
theorem km_X5_72 : Cond.methodLink RX5 72 yX5_passes ∈ hAll := h_in 729 (by decide +kernel) (by decide +kernel)
theorem ki_X5_passes : Cond.instanceMethod yX5_passes ∈ hAll := h_in 730 (by decide +kernel) (by decide +kernel)
theorem ks_X5_passes : Cond.selects RX5 yX5_passes yX5_passes ∈ hAll := h_in 731 (by decide +kernel) (by decide +kernel)
theorem ko_X5_passes : Cond.code yX5_passes cX5_passes 4 (some .boolean) ∈ hAll := h_in 732 (by decide +kernel) (by decide +kernel)
theorem km_X5_58 : Cond.methodLink RX5 58 yX0_has ∈ hAll := h_in 733 (by decide +kernel) (by decide +kernel)
theorem ki_X0_has : Cond.instanceMethod yX0_has ∈ hAll := h_in 734 (by decide +kernel) (by decide +kernel)
theorem ks_X0_has : Cond.selects RX0 yX0_has yX0_has ∈ hAll := h_in 735 (by decide +kernel) (by decide +kernel)
theorem ko_X0_has : Cond.code yX0_has cX0_has 3 (some .boolean) ∈ hAll := h_in 736 (by decide +kernel) (by decide +kernel)
theorem km_X5_62 : Cond.methodLink RX5 62 yX7_passes ∈ hAll := h_in 737 (by decide +kernel) (by decide +kernel)
theorem ki_X7_passes : Cond.instanceMethod yX7_passes ∈ hAll := h_in 738 (by decide +kernel) (by decide +kernel)
theorem ks_X7_passes : Cond.selects RX7 yX7_passes yX7_passes ∈ hAll := h_in 739 (by decide +kernel) (by decide +kernel)
theorem ko_X7_passes : Cond.code yX7_passes cX7_passes 3 (some .boolean) ∈ hAll := h_in 740 (by decide +kernel) (by decide +kernel)
theorem km_X7_44 : Cond.methodLink RX7 44 yX0_has ∈ hAll := h_in 741 (by decide +kernel) (by decide +kernel)
theorem km_X7_48 : Cond.methodLink RX7 48 yX7_side ∈ hAll := h_in 742 (by decide +kernel) (by decide +kernel)
theorem km_X5_73 : Cond.methodLink RX5 73 yX5_holds ∈ hAll := h_in 743 (by decide +kernel) (by decide +kernel)
theorem ki_X5_holds : Cond.instanceMethod yX5_holds ∈ hAll := h_in 744 (by decide +kernel) (by decide +kernel)
theorem ks_X5_holds : Cond.selects RX5 yX5_holds yX5_holds ∈ hAll := h_in 745 (by decide +kernel) (by decide +kernel)
theorem ko_X5_holds : Cond.code yX5_holds cX5_holds 9 (some .boolean) ∈ hAll := h_in 746 (by decide +kernel) (by decide +kernel)
theorem km_X5_68 : Cond.methodLink RX5 68 yX7_isHitFrom ∈ hAll := h_in 747 (by decide +kernel) (by decide +kernel)
theorem ki_X7_isHitFrom : Cond.instanceMethod yX7_isHitFrom ∈ hAll := h_in 748 (by decide +kernel) (by decide +kernel)
theorem ks_X7_isHitFrom : Cond.selects RX7 yX7_isHitFrom yX7_isHitFrom ∈ hAll := h_in 749 (by decide +kernel) (by decide +kernel)
theorem ko_X7_isHitFrom : Cond.code yX7_isHitFrom cX7_isHitFrom 11 (some .boolean) ∈ hAll := h_in 750 (by decide +kernel) (by decide +kernel)
theorem km_X2_60 : Cond.methodLink RX2 60 yX2_inspectPairsOfHoles ∈ hAll := h_in 751 (by decide +kernel) (by decide +kernel)
theorem ki_X2_inspectPairsOfHoles : Cond.instanceMethod yX2_inspectPairsOfHoles ∈ hAll := h_in 753 (by decide +kernel) (by decide +kernel)
theorem ko_X2_inspectPairsOfHoles : Cond.code yX2_inspectPairsOfHoles cX2_inspectPairsOfHoles 5 (some .boolean) ∈ hAll := h_in 754 (by decide +kernel) (by decide +kernel)
theorem km_X2_63 : Cond.methodLink RX2 63 yX2_inspectWholeness ∈ hAll := h_in 755 (by decide +kernel) (by decide +kernel)
theorem ki_X2_inspectWholeness : Cond.instanceMethod yX2_inspectWholeness ∈ hAll := h_in 757 (by decide +kernel) (by decide +kernel)
theorem ko_X2_inspectWholeness : Cond.code yX2_inspectWholeness cX2_inspectWholeness 2 (some .boolean) ∈ hAll := h_in 758 (by decide +kernel) (by decide +kernel)
theorem km_X2_147 : Cond.methodLink RX2 147 yX4_isSplit ∈ hAll := h_in 759 (by decide +kernel) (by decide +kernel)
theorem ki_X4_isSplit : Cond.instanceMethod yX4_isSplit ∈ hAll := h_in 760 (by decide +kernel) (by decide +kernel)
theorem ks_X4_isSplit : Cond.selects RX4 yX4_isSplit yX4_isSplit ∈ hAll := h_in 761 (by decide +kernel) (by decide +kernel)
theorem ko_X4_isSplit : Cond.code yX4_isSplit cX4_isSplit 6 (some .boolean) ∈ hAll := h_in 762 (by decide +kernel) (by decide +kernel)
theorem km_X4_32 : Cond.methodLink RX4 32 yX4_isNewCorner ∈ hAll := h_in 763 (by decide +kernel) (by decide +kernel)
theorem ki_X4_isNewCorner : Cond.instanceMethod yX4_isNewCorner ∈ hAll := h_in 765 (by decide +kernel) (by decide +kernel)
theorem ko_X4_isNewCorner : Cond.code yX4_isNewCorner cX4_isNewCorner 4 (some .boolean) ∈ hAll := h_in 766 (by decide +kernel) (by decide +kernel)
theorem km_X4_52 : Cond.methodLink RX4 52 yX0_has ∈ hAll := h_in 767 (by decide +kernel) (by decide +kernel)
theorem km_X4_58 : Cond.methodLink RX4 58 yX5_hasCorner ∈ hAll := h_in 768 (by decide +kernel) (by decide +kernel)
theorem ki_X5_hasCorner : Cond.instanceMethod yX5_hasCorner ∈ hAll := h_in 769 (by decide +kernel) (by decide +kernel)
theorem ks_X5_hasCorner : Cond.selects RX5 yX5_hasCorner yX5_hasCorner ∈ hAll := h_in 770 (by decide +kernel) (by decide +kernel)
theorem ko_X5_hasCorner : Cond.code yX5_hasCorner cX5_hasCorner 4 (some .boolean) ∈ hAll := h_in 771 (by decide +kernel) (by decide +kernel)
theorem km_X5_65 : Cond.methodLink RX5 65 yX7_beginsAt ∈ hAll := h_in 772 (by decide +kernel) (by decide +kernel)
theorem km_X4_36 : Cond.methodLink RX4 36 yX4_joinsInRound ∈ hAll := h_in 773 (by decide +kernel) (by decide +kernel)
theorem ki_X4_joinsInRound : Cond.instanceMethod yX4_joinsInRound ∈ hAll := h_in 775 (by decide +kernel) (by decide +kernel)
theorem ko_X4_joinsInRound : Cond.code yX4_joinsInRound cX4_joinsInRound 5 (some .boolean) ∈ hAll := h_in 776 (by decide +kernel) (by decide +kernel)
theorem km_X4_61 : Cond.methodLink RX4 61 yX5_passes ∈ hAll := h_in 777 (by decide +kernel) (by decide +kernel)
theorem km_X4_64 : Cond.methodLink RX4 64 yX4_renameGroup ∈ hAll := h_in 778 (by decide +kernel) (by decide +kernel)
theorem kt_X4_renameGroup : Cond.static yX4_renameGroup ∈ hAll := h_in 779 (by decide +kernel) (by decide +kernel)
theorem ko_X4_renameGroup : Cond.code yX4_renameGroup cX4_renameGroup 4 none ∈ hAll := h_in 780 (by decide +kernel) (by decide +kernel)
theorem km_X2_66 : Cond.methodLink RX2 66 yX2_allRings ∈ hAll := h_in 781 (by decide +kernel) (by decide +kernel)
theorem kt_X2_allRings : Cond.static yX2_allRings ∈ hAll := h_in 782 (by decide +kernel) (by decide +kernel)
theorem ko_X2_allRings : Cond.code yX2_allRings cX2_allRings 7 (some (.array (.object "ShapeJudge$Ring"))) ∈ hAll := h_in 783 (by decide +kernel) (by decide +kernel)
theorem kc_X2_83 : Cond.classLink RX2 83 RX5 ∈ hAll := h_in 784 (by decide +kernel) (by decide +kernel)
theorem km_X2_70 : Cond.methodLink RX2 70 yX2_inspectPairsOfParts ∈ hAll := h_in 785 (by decide +kernel) (by decide +kernel)
theorem ki_X2_inspectPairsOfParts : Cond.instanceMethod yX2_inspectPairsOfParts ∈ hAll := h_in 787 (by decide +kernel) (by decide +kernel)
theorem ko_X2_inspectPairsOfParts : Cond.code yX2_inspectPairsOfParts cX2_inspectPairsOfParts 4 none ∈ hAll := h_in 788 (by decide +kernel) (by decide +kernel)
theorem km_X2_151 : Cond.methodLink RX2 151 yX4_isInside ∈ hAll := h_in 789 (by decide +kernel) (by decide +kernel)
theorem ki_X4_isInside : Cond.instanceMethod yX4_isInside ∈ hAll := h_in 790 (by decide +kernel) (by decide +kernel)
theorem ks_X4_isInside : Cond.selects RX4 yX4_isInside yX4_isInside ∈ hAll := h_in 791 (by decide +kernel) (by decide +kernel)
theorem ko_X4_isInside : Cond.code yX4_isInside cX4_isInside 3 (some .boolean) ∈ hAll := h_in 792 (by decide +kernel) (by decide +kernel)
theorem km_X4_19 : Cond.methodLink RX4 19 yX5_liesIn ∈ hAll := h_in 793 (by decide +kernel) (by decide +kernel)
theorem km_X9_120 : Cond.methodLink RX9 120 yX1_what ∈ hAll := h_in 794 (by decide +kernel) (by decide +kernel)
theorem ki_X1_what : Cond.instanceMethod yX1_what ∈ hAll := h_in 795 (by decide +kernel) (by decide +kernel)
theorem ks_X1_what : Cond.selects RX1 yX1_what yX1_what ∈ hAll := h_in 796 (by decide +kernel) (by decide +kernel)
theorem ko_X1_what : Cond.code yX1_what cX1_what 1 (some .int) ∈ hAll := h_in 797 (by decide +kernel) (by decide +kernel)
theorem km_L_70 : Cond.methodLink RL 70 yL_place ∈ hAll := h_in 798 (by decide +kernel) (by decide +kernel)
theorem kt_L_place : Cond.static yL_place ∈ hAll := h_in 799 (by decide +kernel) (by decide +kernel)
theorem kc_L_36 : Cond.classLink RL 36 "java/lang/IndexOutOfBoundsException" ∈ hAll := h_in 801 (by decide +kernel) (by decide +kernel)
theorem km_L_33 : Cond.methodLink RL 33 yX9_place ∈ hAll := h_in 802 (by decide +kernel) (by decide +kernel)
theorem ki_X9_place : Cond.instanceMethod yX9_place ∈ hAll := h_in 803 (by decide +kernel) (by decide +kernel)
theorem ks_X9_place : Cond.selects RX9 yX9_place yX9_place ∈ hAll := h_in 804 (by decide +kernel) (by decide +kernel)
theorem ko_X9_place : Cond.code yX9_place cX9_place 2 (some .int) ∈ hAll := h_in 805 (by decide +kernel) (by decide +kernel)
theorem kc_X9_123 : Cond.classLink RX9 123 "java/lang/IndexOutOfBoundsException" ∈ hAll := h_in 806 (by decide +kernel) (by decide +kernel)
theorem km_X9_128 : Cond.methodLink RX9 128 yX1_where ∈ hAll := h_in 822 (by decide +kernel) (by decide +kernel)
theorem ki_X1_where : Cond.instanceMethod yX1_where ∈ hAll := h_in 823 (by decide +kernel) (by decide +kernel)
theorem ks_X1_where : Cond.selects RX1 yX1_where yX1_where ∈ hAll := h_in 824 (by decide +kernel) (by decide +kernel)
theorem ko_X1_where : Cond.code yX1_where cX1_where 2 (some .int) ∈ hAll := h_in 825 (by decide +kernel) (by decide +kernel)
theorem kc_L_39 : Cond.classLink RL 39 RX10 ∈ hAll := h_in 826 (by decide +kernel) (by decide +kernel)
theorem ka_X10 : Cond.instantiable RX10 26 ∈ hAll := h_in 827 (by decide +kernel) (by decide +kernel)
theorem km_L_41 : Cond.methodLink RL 41 yX10_init ∈ hAll := h_in 828 (by decide +kernel) (by decide +kernel)
theorem ki_X10_init : Cond.instanceMethod yX10_init ∈ hAll := h_in 829 (by decide +kernel) (by decide +kernel)
theorem ko_X10_init : Cond.code yX10_init cX10_init 1 none ∈ hAll := h_in 830 (by decide +kernel) (by decide +kernel)
theorem km_X10_1 : Cond.methodLink RX10 1 objectInit ∈ hAll := h_in 831 (by decide +kernel) (by decide +kernel)
theorem kf_X10_52 : Cond.fieldLink RX10 52 "ShapeJudgeModel" "thrown" "I" ∈ hAll := h_in 832 (by decide +kernel) (by decide +kernel)
theorem kf_X10_59 : Cond.fieldLink RX10 59 "ShapeJudgeModel" "shapes" "I" ∈ hAll := h_in 833 (by decide +kernel) (by decide +kernel)
theorem kf_X10_56 : Cond.fieldLink RX10 56 "ShapeJudgeModel" "numbers" "I" ∈ hAll := h_in 834 (by decide +kernel) (by decide +kernel)
theorem kf_X10_62 : Cond.fieldLink RX10 62 "ShapeJudgeModel" "points" "I" ∈ hAll := h_in 835 (by decide +kernel) (by decide +kernel)
theorem kf_X10_65 : Cond.fieldLink RX10 65 "ShapeJudgeModel" "rings" "I" ∈ hAll := h_in 836 (by decide +kernel) (by decide +kernel)
theorem kf_X10_7 : Cond.fieldLink RX10 7 "ShapeJudgeModel" "kinds" "[I" ∈ hAll := h_in 837 (by decide +kernel) (by decide +kernel)
theorem kf_X10_13 : Cond.fieldLink RX10 13 "ShapeJudgeModel" "wholes" "[I" ∈ hAll := h_in 838 (by decide +kernel) (by decide +kernel)
theorem kf_X10_16 : Cond.fieldLink RX10 16 "ShapeJudgeModel" "parts" "[I" ∈ hAll := h_in 839 (by decide +kernel) (by decide +kernel)
theorem kf_X10_19 : Cond.fieldLink RX10 19 "ShapeJudgeModel" "firstPoint" "[I" ∈ hAll := h_in 840 (by decide +kernel) (by decide +kernel)
theorem kf_X10_22 : Cond.fieldLink RX10 22 "ShapeJudgeModel" "pointCount" "[I" ∈ hAll := h_in 841 (by decide +kernel) (by decide +kernel)
theorem kf_X10_25 : Cond.fieldLink RX10 25 "ShapeJudgeModel" "firstRing" "[I" ∈ hAll := h_in 842 (by decide +kernel) (by decide +kernel)
theorem kf_X10_28 : Cond.fieldLink RX10 28 "ShapeJudgeModel" "ringCount" "[I" ∈ hAll := h_in 843 (by decide +kernel) (by decide +kernel)
theorem kf_X10_31 : Cond.fieldLink RX10 31 "ShapeJudgeModel" "ringPoint" "[I" ∈ hAll := h_in 844 (by decide +kernel) (by decide +kernel)
theorem kf_X10_34 : Cond.fieldLink RX10 34 "ShapeJudgeModel" "ringPoints" "[I" ∈ hAll := h_in 845 (by decide +kernel) (by decide +kernel)
theorem kf_X10_37 : Cond.fieldLink RX10 37 "ShapeJudgeModel" "xs" "[I" ∈ hAll := h_in 846 (by decide +kernel) (by decide +kernel)
theorem kf_X10_40 : Cond.fieldLink RX10 40 "ShapeJudgeModel" "ys" "[I" ∈ hAll := h_in 847 (by decide +kernel) (by decide +kernel)
theorem kf_X10_68 : Cond.fieldLink RX10 68 "ShapeJudgeModel" "opened" "I" ∈ hAll := h_in 848 (by decide +kernel) (by decide +kernel)
theorem kf_X10_43 : Cond.fieldLink RX10 43 "ShapeJudgeModel" "open" "[I" ∈ hAll := h_in 849 (by decide +kernel) (by decide +kernel)
theorem kf_X10_46 : Cond.fieldLink RX10 46 "ShapeJudgeModel" "place" "[I" ∈ hAll := h_in 850 (by decide +kernel) (by decide +kernel)
theorem kf_X10_114 : Cond.fieldLink RX10 114 "ShapeJudgeModel" "meetX" "I" ∈ hAll := h_in 851 (by decide +kernel) (by decide +kernel)
theorem kf_X10_117 : Cond.fieldLink RX10 117 "ShapeJudgeModel" "meetY" "I" ∈ hAll := h_in 852 (by decide +kernel) (by decide +kernel)
theorem kf_X10_49 : Cond.fieldLink RX10 49 "ShapeJudgeModel" "group" "[I" ∈ hAll := h_in 853 (by decide +kernel) (by decide +kernel)
theorem kf_X10_145 : Cond.fieldLink RX10 145 "ShapeJudgeModel" "backX" "I" ∈ hAll := h_in 854 (by decide +kernel) (by decide +kernel)
theorem kf_X10_148 : Cond.fieldLink RX10 148 "ShapeJudgeModel" "backY" "I" ∈ hAll := h_in 855 (by decide +kernel) (by decide +kernel)
theorem kf_X10_154 : Cond.fieldLink RX10 154 "ShapeJudgeModel" "onX" "I" ∈ hAll := h_in 856 (by decide +kernel) (by decide +kernel)
theorem kf_X10_157 : Cond.fieldLink RX10 157 "ShapeJudgeModel" "onY" "I" ∈ hAll := h_in 857 (by decide +kernel) (by decide +kernel)
theorem km_L_52 : Cond.methodLink RL 52 yX10_thrown ∈ hAll := h_in 911 (by decide +kernel) (by decide +kernel)
theorem ki_X10_thrown : Cond.instanceMethod yX10_thrown ∈ hAll := h_in 912 (by decide +kernel) (by decide +kernel)
theorem ks_X10_thrown : Cond.selects RX10 yX10_thrown yX10_thrown ∈ hAll := h_in 913 (by decide +kernel) (by decide +kernel)
theorem ko_X10_thrown : Cond.code yX10_thrown cX10_thrown 1 (some .int) ∈ hAll := h_in 914 (by decide +kernel) (by decide +kernel)
theorem km_L_45 : Cond.methodLink RL 45 yX10_clear ∈ hAll := h_in 915 (by decide +kernel) (by decide +kernel)
theorem ki_X10_clear : Cond.instanceMethod yX10_clear ∈ hAll := h_in 916 (by decide +kernel) (by decide +kernel)
theorem ks_X10_clear : Cond.selects RX10 yX10_clear yX10_clear ∈ hAll := h_in 917 (by decide +kernel) (by decide +kernel)
theorem ko_X10_clear : Cond.code yX10_clear cX10_clear 2 (some .int) ∈ hAll := h_in 918 (by decide +kernel) (by decide +kernel)
theorem km_X10_71 : Cond.methodLink RX10 71 yX10_noPlace ∈ hAll := h_in 919 (by decide +kernel) (by decide +kernel)
theorem ki_X10_noPlace : Cond.instanceMethod yX10_noPlace ∈ hAll := h_in 921 (by decide +kernel) (by decide +kernel)
theorem ko_X10_noPlace : Cond.code yX10_noPlace cX10_noPlace 2 none ∈ hAll := h_in 922 (by decide +kernel) (by decide +kernel)
theorem km_L_51 : Cond.methodLink RL 51 yX10_open ∈ hAll := h_in 923 (by decide +kernel) (by decide +kernel)
theorem ki_X10_open : Cond.instanceMethod yX10_open ∈ hAll := h_in 924 (by decide +kernel) (by decide +kernel)
theorem ks_X10_open : Cond.selects RX10 yX10_open yX10_open ∈ hAll := h_in 925 (by decide +kernel) (by decide +kernel)
theorem ko_X10_open : Cond.code yX10_open cX10_open 4 (some .int) ∈ hAll := h_in 926 (by decide +kernel) (by decide +kernel)
theorem km_X10_78 : Cond.methodLink RX10 78 yX10_within ∈ hAll := h_in 927 (by decide +kernel) (by decide +kernel)
theorem kt_X10_within : Cond.static yX10_within ∈ hAll := h_in 928 (by decide +kernel) (by decide +kernel)
theorem ko_X10_within : Cond.code yX10_within cX10_within 3 (some .boolean) ∈ hAll := h_in 929 (by decide +kernel) (by decide +kernel)
theorem km_X10_82 : Cond.methodLink RX10 82 yX10_fail ∈ hAll := h_in 930 (by decide +kernel) (by decide +kernel)
theorem ki_X10_fail : Cond.instanceMethod yX10_fail ∈ hAll := h_in 932 (by decide +kernel) (by decide +kernel)
theorem ko_X10_fail : Cond.code yX10_fail cX10_fail 2 (some .int) ∈ hAll := h_in 933 (by decide +kernel) (by decide +kernel)
theorem km_X10_86 : Cond.methodLink RX10 86 yX10_takes ∈ hAll := h_in 934 (by decide +kernel) (by decide +kernel)
theorem ki_X10_takes : Cond.instanceMethod yX10_takes ∈ hAll := h_in 936 (by decide +kernel) (by decide +kernel)
theorem ko_X10_takes : Cond.code yX10_takes cX10_takes 3 (some .boolean) ∈ hAll := h_in 937 (by decide +kernel) (by decide +kernel)
theorem km_X10_74 : Cond.methodLink RX10 74 yX10_top ∈ hAll := h_in 938 (by decide +kernel) (by decide +kernel)
theorem ki_X10_top : Cond.instanceMethod yX10_top ∈ hAll := h_in 940 (by decide +kernel) (by decide +kernel)
theorem ko_X10_top : Cond.code yX10_top cX10_top 1 (some .int) ∈ hAll := h_in 941 (by decide +kernel) (by decide +kernel)
theorem km_L_58 : Cond.methodLink RL 58 yX10_ring ∈ hAll := h_in 942 (by decide +kernel) (by decide +kernel)
theorem ki_X10_ring : Cond.instanceMethod yX10_ring ∈ hAll := h_in 943 (by decide +kernel) (by decide +kernel)
theorem ks_X10_ring : Cond.selects RX10 yX10_ring yX10_ring ∈ hAll := h_in 944 (by decide +kernel) (by decide +kernel)
theorem ko_X10_ring : Cond.code yX10_ring cX10_ring 1 none ∈ hAll := h_in 945 (by decide +kernel) (by decide +kernel)
theorem km_L_62 : Cond.methodLink RL 62 yX10_point ∈ hAll := h_in 946 (by decide +kernel) (by decide +kernel)
theorem ki_X10_point : Cond.instanceMethod yX10_point ∈ hAll := h_in 947 (by decide +kernel) (by decide +kernel)
theorem ks_X10_point : Cond.selects RX10 yX10_point yX10_point ∈ hAll := h_in 948 (by decide +kernel) (by decide +kernel)
theorem ko_X10_point : Cond.code yX10_point cX10_point 6 (some .int) ∈ hAll := h_in 949 (by decide +kernel) (by decide +kernel)
theorem kk_X10_90 : Cond.constant RX10 90 (-1000000000) ∈ hAll := h_in 950 (by decide +kernel) (by decide +kernel)
theorem kk_X10_91 : Cond.constant RX10 91 (1000000000) ∈ hAll := h_in 951 (by decide +kernel) (by decide +kernel)
theorem km_L_66 : Cond.methodLink RL 66 yX10_close ∈ hAll := h_in 952 (by decide +kernel) (by decide +kernel)
theorem ki_X10_close : Cond.instanceMethod yX10_close ∈ hAll := h_in 953 (by decide +kernel) (by decide +kernel)
theorem ks_X10_close : Cond.selects RX10 yX10_close yX10_close ∈ hAll := h_in 954 (by decide +kernel) (by decide +kernel)
theorem ko_X10_close : Cond.code yX10_close cX10_close 1 (some .int) ∈ hAll := h_in 955 (by decide +kernel) (by decide +kernel)
theorem km_L_72 : Cond.methodLink RL 72 yX10_place ∈ hAll := h_in 956 (by decide +kernel) (by decide +kernel)
theorem ki_X10_place : Cond.instanceMethod yX10_place ∈ hAll := h_in 957 (by decide +kernel) (by decide +kernel)
theorem ks_X10_place : Cond.selects RX10 yX10_place yX10_place ∈ hAll := h_in 958 (by decide +kernel) (by decide +kernel)
theorem ko_X10_place : Cond.code yX10_place cX10_place 2 (some .int) ∈ hAll := h_in 959 (by decide +kernel) (by decide +kernel)
theorem km_L_69 : Cond.methodLink RL 69 yX10_judge ∈ hAll := h_in 960 (by decide +kernel) (by decide +kernel)
theorem ki_X10_judge : Cond.instanceMethod yX10_judge ∈ hAll := h_in 961 (by decide +kernel) (by decide +kernel)
theorem ks_X10_judge : Cond.selects RX10 yX10_judge yX10_judge ∈ hAll := h_in 962 (by decide +kernel) (by decide +kernel)
theorem ko_X10_judge : Cond.code yX10_judge cX10_judge 3 (some .int) ∈ hAll := h_in 963 (by decide +kernel) (by decide +kernel)
theorem km_X10_182 : Cond.methodLink RX10 182 yX10_isFew ∈ hAll := h_in 964 (by decide +kernel) (by decide +kernel)
theorem ki_X10_isFew : Cond.instanceMethod yX10_isFew ∈ hAll := h_in 966 (by decide +kernel) (by decide +kernel)
theorem ko_X10_isFew : Cond.code yX10_isFew cX10_isFew 8 (some .boolean) ∈ hAll := h_in 967 (by decide +kernel) (by decide +kernel)
theorem km_X10_103 : Cond.methodLink RX10 103 yX10_same ∈ hAll := h_in 968 (by decide +kernel) (by decide +kernel)
theorem ki_X10_same : Cond.instanceMethod yX10_same ∈ hAll := h_in 970 (by decide +kernel) (by decide +kernel)
theorem ko_X10_same : Cond.code yX10_same cX10_same 3 (some .boolean) ∈ hAll := h_in 971 (by decide +kernel) (by decide +kernel)
theorem km_X10_178 : Cond.methodLink RX10 178 yX10_told ∈ hAll := h_in 972 (by decide +kernel) (by decide +kernel)
theorem ki_X10_told : Cond.instanceMethod yX10_told ∈ hAll := h_in 974 (by decide +kernel) (by decide +kernel)
theorem ko_X10_told : Cond.code yX10_told cX10_told 6 (some .int) ∈ hAll := h_in 975 (by decide +kernel) (by decide +kernel)
theorem km_X10_220 : Cond.methodLink RX10 220 yX10_polygon ∈ hAll := h_in 976 (by decide +kernel) (by decide +kernel)
theorem ki_X10_polygon : Cond.instanceMethod yX10_polygon ∈ hAll := h_in 978 (by decide +kernel) (by decide +kernel)
theorem ko_X10_polygon : Cond.code yX10_polygon cX10_polygon 5 (some .int) ∈ hAll := h_in 979 (by decide +kernel) (by decide +kernel)
theorem km_X10_201 : Cond.methodLink RX10 201 yX10_ringsOf ∈ hAll := h_in 980 (by decide +kernel) (by decide +kernel)
theorem ki_X10_ringsOf : Cond.instanceMethod yX10_ringsOf ∈ hAll := h_in 982 (by decide +kernel) (by decide +kernel)
theorem ko_X10_ringsOf : Cond.code yX10_ringsOf cX10_ringsOf 6 (some .int) ∈ hAll := h_in 983 (by decide +kernel) (by decide +kernel)
theorem km_X10_129 : Cond.methodLink RX10 129 yX10_end ∈ hAll := h_in 984 (by decide +kernel) (by decide +kernel)
theorem ki_X10_end : Cond.instanceMethod yX10_end ∈ hAll := h_in 986 (by decide +kernel) (by decide +kernel)
theorem ko_X10_end : Cond.code yX10_end cX10_end 2 (some .int) ∈ hAll := h_in 987 (by decide +kernel) (by decide +kernel)
theorem km_X10_205 : Cond.methodLink RX10 205 yX10_pairsOf ∈ hAll := h_in 988 (by decide +kernel) (by decide +kernel)
theorem ki_X10_pairsOf : Cond.instanceMethod yX10_pairsOf ∈ hAll := h_in 990 (by decide +kernel) (by decide +kernel)
theorem ko_X10_pairsOf : Cond.code yX10_pairsOf cX10_pairsOf 10 (some .int) ∈ hAll := h_in 991 (by decide +kernel) (by decide +kernel)
theorem km_X10_132 : Cond.methodLink RX10 132 yX10_isSegment ∈ hAll := h_in 992 (by decide +kernel) (by decide +kernel)
theorem ki_X10_isSegment : Cond.instanceMethod yX10_isSegment ∈ hAll := h_in 994 (by decide +kernel) (by decide +kernel)
theorem ko_X10_isSegment : Cond.code yX10_isSegment cX10_isSegment 2 (some .boolean) ∈ hAll := h_in 995 (by decide +kernel) (by decide +kernel)
theorem km_X10_185 : Cond.methodLink RX10 185 yX10_pair ∈ hAll := h_in 996 (by decide +kernel) (by decide +kernel)
theorem ki_X10_pair : Cond.instanceMethod yX10_pair ∈ hAll := h_in 998 (by decide +kernel) (by decide +kernel)
theorem ko_X10_pair : Cond.code yX10_pair cX10_pair 7 (some .int) ∈ hAll := h_in 999 (by decide +kernel) (by decide +kernel)
theorem km_X10_168 : Cond.methodLink RX10 168 yX10_meet ∈ hAll := h_in 1000 (by decide +kernel) (by decide +kernel)
theorem ki_X10_meet : Cond.instanceMethod yX10_meet ∈ hAll := h_in 1002 (by decide +kernel) (by decide +kernel)
theorem ko_X10_meet : Cond.code yX10_meet cX10_meet 6 (some .int) ∈ hAll := h_in 1003 (by decide +kernel) (by decide +kernel)
theorem km_X10_96 : Cond.methodLink RX10 96 yX10_side ∈ hAll := h_in 1004 (by decide +kernel) (by decide +kernel)
theorem ki_X10_side : Cond.instanceMethod yX10_side ∈ hAll := h_in 1006 (by decide +kernel) (by decide +kernel)
theorem ko_X10_side : Cond.code yX10_side cX10_side 5 (some .int) ∈ hAll := h_in 1007 (by decide +kernel) (by decide +kernel)
theorem km_X10_92 : Cond.methodLink RX10 92 yX10_sign ∈ hAll := h_in 1008 (by decide +kernel) (by decide +kernel)
theorem kt_X10_sign : Cond.static yX10_sign ∈ hAll := h_in 1009 (by decide +kernel) (by decide +kernel)
theorem ko_X10_sign : Cond.code yX10_sign cX10_sign 2 (some .int) ∈ hAll := h_in 1010 (by decide +kernel) (by decide +kernel)
theorem km_X10_123 : Cond.methodLink RX10 123 yX10_along ∈ hAll := h_in 1011 (by decide +kernel) (by decide +kernel)
theorem ki_X10_along : Cond.instanceMethod yX10_along ∈ hAll := h_in 1013 (by decide +kernel) (by decide +kernel)
theorem ko_X10_along : Cond.code yX10_along cX10_along 7 (some .int) ∈ hAll := h_in 1014 (by decide +kernel) (by decide +kernel)
theorem km_X10_107 : Cond.methodLink RX10 107 yX10_less ∈ hAll := h_in 1015 (by decide +kernel) (by decide +kernel)
theorem ki_X10_less : Cond.instanceMethod yX10_less ∈ hAll := h_in 1017 (by decide +kernel) (by decide +kernel)
theorem ko_X10_less : Cond.code yX10_less cX10_less 3 (some .int) ∈ hAll := h_in 1018 (by decide +kernel) (by decide +kernel)
theorem km_X10_111 : Cond.methodLink RX10 111 yX10_more ∈ hAll := h_in 1019 (by decide +kernel) (by decide +kernel)
theorem ki_X10_more : Cond.instanceMethod yX10_more ∈ hAll := h_in 1021 (by decide +kernel) (by decide +kernel)
theorem ko_X10_more : Cond.code yX10_more cX10_more 3 (some .int) ∈ hAll := h_in 1022 (by decide +kernel) (by decide +kernel)
theorem km_X10_126 : Cond.methodLink RX10 126 yX10_meets ∈ hAll := h_in 1023 (by decide +kernel) (by decide +kernel)
theorem ki_X10_meets : Cond.instanceMethod yX10_meets ∈ hAll := h_in 1025 (by decide +kernel) (by decide +kernel)
theorem ko_X10_meets : Cond.code yX10_meets cX10_meets 3 (some .boolean) ∈ hAll := h_in 1026 (by decide +kernel) (by decide +kernel)
theorem km_X10_120 : Cond.methodLink RX10 120 yX10_isOn ∈ hAll := h_in 1027 (by decide +kernel) (by decide +kernel)
theorem ki_X10_isOn : Cond.instanceMethod yX10_isOn ∈ hAll := h_in 1029 (by decide +kernel) (by decide +kernel)
theorem ko_X10_isOn : Cond.code yX10_isOn cX10_isOn 4 (some .boolean) ∈ hAll := h_in 1030 (by decide +kernel) (by decide +kernel)
theorem km_X10_100 : Cond.methodLink RX10 100 yX10_between ∈ hAll := h_in 1031 (by decide +kernel) (by decide +kernel)
theorem kt_X10_between : Cond.static yX10_between ∈ hAll := h_in 1032 (by decide +kernel) (by decide +kernel)
theorem ko_X10_between : Cond.code yX10_between cX10_between 3 (some .boolean) ∈ hAll := h_in 1033 (by decide +kernel) (by decide +kernel)
theorem km_X10_171 : Cond.methodLink RX10 171 yX10_begins ∈ hAll := h_in 1034 (by decide +kernel) (by decide +kernel)
theorem ki_X10_begins : Cond.instanceMethod yX10_begins ∈ hAll := h_in 1036 (by decide +kernel) (by decide +kernel)
theorem ko_X10_begins : Cond.code yX10_begins cX10_begins 2 (some .boolean) ∈ hAll := h_in 1037 (by decide +kernel) (by decide +kernel)
theorem km_X10_174 : Cond.methodLink RX10 174 yX10_crosses ∈ hAll := h_in 1038 (by decide +kernel) (by decide +kernel)
theorem ki_X10_crosses : Cond.instanceMethod yX10_crosses ∈ hAll := h_in 1040 (by decide +kernel) (by decide +kernel)
theorem ko_X10_crosses : Cond.code yX10_crosses cX10_crosses 9 (some .boolean) ∈ hAll := h_in 1041 (by decide +kernel) (by decide +kernel)
theorem km_X10_160 : Cond.methodLink RX10 160 yX10_ways ∈ hAll := h_in 1042 (by decide +kernel) (by decide +kernel)
theorem ki_X10_ways : Cond.instanceMethod yX10_ways ∈ hAll := h_in 1044 (by decide +kernel) (by decide +kernel)
theorem ko_X10_ways : Cond.code yX10_ways cX10_ways 5 none ∈ hAll := h_in 1045 (by decide +kernel) (by decide +kernel)
theorem km_X10_151 : Cond.methodLink RX10 151 yX10_next ∈ hAll := h_in 1046 (by decide +kernel) (by decide +kernel)
theorem ki_X10_next : Cond.instanceMethod yX10_next ∈ hAll := h_in 1048 (by decide +kernel) (by decide +kernel)
theorem ko_X10_next : Cond.code yX10_next cX10_next 5 (some .int) ∈ hAll := h_in 1049 (by decide +kernel) (by decide +kernel)
theorem km_X10_164 : Cond.methodLink RX10 164 yX10_isLeft ∈ hAll := h_in 1050 (by decide +kernel) (by decide +kernel)
theorem kt_X10_isLeft : Cond.static yX10_isLeft ∈ hAll := h_in 1051 (by decide +kernel) (by decide +kernel)
theorem ko_X10_isLeft : Cond.code yX10_isLeft cX10_isLeft 10 (some .boolean) ∈ hAll := h_in 1052 (by decide +kernel) (by decide +kernel)
theorem km_X10_142 : Cond.methodLink RX10 142 yX10_cross ∈ hAll := h_in 1053 (by decide +kernel) (by decide +kernel)
theorem kt_X10_cross : Cond.static yX10_cross ∈ hAll := h_in 1054 (by decide +kernel) (by decide +kernel)
theorem ko_X10_cross : Cond.code yX10_cross cX10_cross 4 (some .int) ∈ hAll := h_in 1055 (by decide +kernel) (by decide +kernel)
theorem km_X10_188 : Cond.methodLink RX10 188 yX10_other ∈ hAll := h_in 1056 (by decide +kernel) (by decide +kernel)
theorem ki_X10_other : Cond.instanceMethod yX10_other ∈ hAll := h_in 1058 (by decide +kernel) (by decide +kernel)
theorem ko_X10_other : Cond.code yX10_other cX10_other 4 none ∈ hAll := h_in 1059 (by decide +kernel) (by decide +kernel)
theorem km_X10_208 : Cond.methodLink RX10 208 yX10_holesOf ∈ hAll := h_in 1060 (by decide +kernel) (by decide +kernel)
theorem ki_X10_holesOf : Cond.instanceMethod yX10_holesOf ∈ hAll := h_in 1062 (by decide +kernel) (by decide +kernel)
theorem ko_X10_holesOf : Cond.code yX10_holesOf cX10_holesOf 7 (some .int) ∈ hAll := h_in 1063 (by decide +kernel) (by decide +kernel)
theorem km_X10_192 : Cond.methodLink RX10 192 yX10_liesIn ∈ hAll := h_in 1064 (by decide +kernel) (by decide +kernel)
theorem ki_X10_liesIn : Cond.instanceMethod yX10_liesIn ∈ hAll := h_in 1066 (by decide +kernel) (by decide +kernel)
theorem ko_X10_liesIn : Cond.code yX10_liesIn cX10_liesIn 5 (some .boolean) ∈ hAll := h_in 1067 (by decide +kernel) (by decide +kernel)
theorem km_X10_135 : Cond.methodLink RX10 135 yX10_isOnRing ∈ hAll := h_in 1068 (by decide +kernel) (by decide +kernel)
theorem ki_X10_isOnRing : Cond.instanceMethod yX10_isOnRing ∈ hAll := h_in 1070 (by decide +kernel) (by decide +kernel)
theorem ko_X10_isOnRing : Cond.code yX10_isOnRing cX10_isOnRing 6 (some .boolean) ∈ hAll := h_in 1071 (by decide +kernel) (by decide +kernel)
theorem km_X10_138 : Cond.methodLink RX10 138 yX10_odd ∈ hAll := h_in 1072 (by decide +kernel) (by decide +kernel)
theorem ki_X10_odd : Cond.instanceMethod yX10_odd ∈ hAll := h_in 1074 (by decide +kernel) (by decide +kernel)
theorem ko_X10_odd : Cond.code yX10_odd cX10_odd 11 (some .boolean) ∈ hAll := h_in 1075 (by decide +kernel) (by decide +kernel)
theorem km_X10_211 : Cond.methodLink RX10 211 yX10_splitOf ∈ hAll := h_in 1076 (by decide +kernel) (by decide +kernel)
theorem ki_X10_splitOf : Cond.instanceMethod yX10_splitOf ∈ hAll := h_in 1078 (by decide +kernel) (by decide +kernel)
theorem ko_X10_splitOf : Cond.code yX10_splitOf cX10_splitOf 7 (some .int) ∈ hAll := h_in 1079 (by decide +kernel) (by decide +kernel)
theorem km_X10_195 : Cond.methodLink RX10 195 yX10_isFirst ∈ hAll := h_in 1080 (by decide +kernel) (by decide +kernel)
theorem ki_X10_isFirst : Cond.instanceMethod yX10_isFirst ∈ hAll := h_in 1082 (by decide +kernel) (by decide +kernel)
theorem ko_X10_isFirst : Cond.code yX10_isFirst cX10_isFirst 5 (some .boolean) ∈ hAll := h_in 1083 (by decide +kernel) (by decide +kernel)
theorem km_X10_198 : Cond.methodLink RX10 198 yX10_joins ∈ hAll := h_in 1084 (by decide +kernel) (by decide +kernel)
theorem ki_X10_joins : Cond.instanceMethod yX10_joins ∈ hAll := h_in 1086 (by decide +kernel) (by decide +kernel)
theorem ko_X10_joins : Cond.code yX10_joins cX10_joins 8 (some .boolean) ∈ hAll := h_in 1087 (by decide +kernel) (by decide +kernel)
theorem km_X10_229 : Cond.methodLink RX10 229 yX10_polygons ∈ hAll := h_in 1088 (by decide +kernel) (by decide +kernel)
theorem ki_X10_polygons : Cond.instanceMethod yX10_polygons ∈ hAll := h_in 1090 (by decide +kernel) (by decide +kernel)
theorem ko_X10_polygons : Cond.code yX10_polygons cX10_polygons 5 (some .int) ∈ hAll := h_in 1091 (by decide +kernel) (by decide +kernel)
theorem km_X10_214 : Cond.methodLink RX10 214 yX10_isPart ∈ hAll := h_in 1092 (by decide +kernel) (by decide +kernel)
theorem ki_X10_isPart : Cond.instanceMethod yX10_isPart ∈ hAll := h_in 1094 (by decide +kernel) (by decide +kernel)
theorem ko_X10_isPart : Cond.code yX10_isPart cX10_isPart 3 (some .boolean) ∈ hAll := h_in 1095 (by decide +kernel) (by decide +kernel)
theorem km_X10_223 : Cond.methodLink RX10 223 yX10_apart ∈ hAll := h_in 1096 (by decide +kernel) (by decide +kernel)
theorem ki_X10_apart : Cond.instanceMethod yX10_apart ∈ hAll := h_in 1098 (by decide +kernel) (by decide +kernel)
theorem ko_X10_apart : Cond.code yX10_apart cX10_apart 7 (some .int) ∈ hAll := h_in 1099 (by decide +kernel) (by decide +kernel)
theorem km_X10_217 : Cond.methodLink RX10 217 yX10_against ∈ hAll := h_in 1100 (by decide +kernel) (by decide +kernel)
theorem ki_X10_against : Cond.instanceMethod yX10_against ∈ hAll := h_in 1102 (by decide +kernel) (by decide +kernel)
theorem ko_X10_against : Cond.code yX10_against cX10_against 10 (some .int) ∈ hAll := h_in 1103 (by decide +kernel) (by decide +kernel)
theorem km_X10_226 : Cond.methodLink RX10 226 yX10_isInside ∈ hAll := h_in 1104 (by decide +kernel) (by decide +kernel)
theorem ki_X10_isInside : Cond.instanceMethod yX10_isInside ∈ hAll := h_in 1106 (by decide +kernel) (by decide +kernel)
theorem ko_X10_isInside : Cond.code yX10_isInside cX10_isInside 5 (some .boolean) ∈ hAll := h_in 1107 (by decide +kernel) (by decide +kernel)
theorem kA_long : Cond.arrayClass .long ∈ hAll := h_in 1108 (by decide +kernel) (by decide +kernel)
theorem kl_X0 : ∀ w ∈ wsX00, w ∈ hAll := fun w h => List.mem_filter.mpr (by revert w; decide +kernel)
theorem kl_X1 : ∀ w ∈ wsX10, w ∈ hAll := fun w h => List.mem_filter.mpr (by revert w; decide +kernel)
theorem kl_X2 : ∀ w ∈ wsX20, w ∈ hAll := fun w h => List.mem_filter.mpr (by revert w; decide +kernel)
theorem kl_X3 : ∀ w ∈ wsX30, w ∈ hAll := fun w h => List.mem_filter.mpr (by revert w; decide +kernel)
theorem kl_X4 : ∀ w ∈ wsX40, w ∈ hAll := fun w h => List.mem_filter.mpr (by revert w; decide +kernel)
theorem kl_X5 : ∀ w ∈ wsX50, w ∈ hAll := fun w h => List.mem_filter.mpr (by revert w; decide +kernel)
theorem kl_X6 : ∀ w ∈ wsX60, w ∈ hAll := fun w h => List.mem_filter.mpr (by revert w; decide +kernel)
theorem kl_X7 : ∀ w ∈ wsX70, w ∈ hAll := fun w h => List.mem_filter.mpr (by revert w; decide +kernel)
theorem kl_X8 : ∀ w ∈ wsX80, w ∈ hAll := fun w h => List.mem_filter.mpr (by revert w; decide +kernel)
theorem kl_X9 : ∀ w ∈ wsX90, w ∈ hAll := fun w h => List.mem_filter.mpr (by revert w; decide +kernel)
theorem kl_X10 : ∀ w ∈ wsX100, w ∈ hAll := fun w h => List.mem_filter.mpr (by revert w; decide +kernel)
end
section
/-! THE HEAP AS A FUNCTION: what each address holds, as far as it is known. One such function stands for all that class, reference and law have made; a write changes it at one address, so nothing has to be cut out and joined again at a call. -/
abbrev hA : Type := Nat → Option va_E
def hup (ah : hA) (a : Nat) (e : va_E) : hA := fun q => if q = a then some e else ah q
theorem hup_s {ah : hA} {a : Nat} {e : va_E} : hup ah a e a = some e := if_pos rfl
theorem hup_n {ah : hA} {a q : Nat} {e : va_E} (h : q ≠ a) : hup ah a e q = ah q := if_neg h
theorem hup_hup {ah : hA} {a : Nat} {e e' : va_E} : hup (hup ah a e) a e' = hup ah a e' := by
  funext q
  by_cases h : q = a
  · rw [h, hup_s, hup_s]
  · rw [hup_n h, hup_n h, hup_n h]
theorem hup_comm {ah : hA} {a b : Nat} {e e' : va_E} (h : a ≠ b) : hup (hup ah a e) b e' = hup (hup ah b e') a e := by
  funext q
  by_cases h1 : q = a
  · subst h1; rw [hup_n h, hup_s, hup_s]
  · by_cases h2 : q = b
    · subst h2; rw [hup_s, hup_n h1, hup_s]
    · rw [hup_n h2, hup_n h1, hup_n h1, hup_n h2]
theorem hup_id {ah : hA} {a : Nat} {e : va_E} (h : ah a = some e) : hup ah a e = ah := by
  funext q
  by_cases h1 : q = a
  · subst h1; rw [hup_s, h]
  · rw [hup_n h1]
def hHd (D : va_G) (ah : hA) (H : Heap) : Prop := ∀ (a : Nat) (e : va_E), ah a = some e → va_at D vwCl (a, e) H
def hFr (ah : hA) (sz : Nat) : Nat → Prop := fun q => (∃ e, ah q = some e) ∨ sz ≤ q
def hW (D : va_G) (ah0 : hA) (H0 : Heap) (ah : hA) (H : Heap) (locs : List Loc) : Prop :=
  hHd D ah H ∧ va_S (hFr ah0 H0.size) H0 H locs ∧ ∀ (q : Nat) (e : va_E), ah q = some e → hFr ah0 H0.size q
/-- the array classes that are used: int, long, and three of references -/
def hTy (dT : Nat → ClassId) : List (ClassId × FieldType) := [(dT 0, .int), (dT 1, .long), (dT 2, .object RX7), (dT 3, .object RX5), (dT 4, .object RX4)]
def hN : List Cond := [.fieldLinkNest RX3 68 "ShapeJudge$Box" "lowX" "I" "ShapeJudge", .fieldLinkNest RX3 76 "ShapeJudge$Box" "lowY" "I" "ShapeJudge", .fieldLinkNest RX3 79 "ShapeJudge$Box" "highX" "I" "ShapeJudge", .fieldLinkNest RX3 85 "ShapeJudge$Box" "highY" "I" "ShapeJudge", .fieldLinkNest RX2 102 "ShapeJudge$Ring" "part" "I" "ShapeJudge", .fieldLinkNest RX2 136 "ShapeJudge$Ring" "number" "I" "ShapeJudge", .fieldLinkNest RX4 40 "ShapeJudge$Ring" "box" "LShapeJudge$Box;" "ShapeJudge", .fieldLinkNest RX2 117 "ShapeJudge$Ring" "box" "LShapeJudge$Box;" "ShapeJudge", .fieldLinkNest RX4 28 "ShapeJudge$Ring" "segments" "[LShapeJudge$Segment;" "ShapeJudge", .fieldLinkNest RX2 103 "ShapeJudge$Ring" "segments" "[LShapeJudge$Segment;" "ShapeJudge", .fieldLinkNest RX4 25 "ShapeJudge$Ring" "count" "I" "ShapeJudge", .fieldLinkNest RX2 99 "ShapeJudge$Ring" "count" "I" "ShapeJudge", .fieldLinkNest RX2 85 "ShapeJudge$Ring" "closed" "Z" "ShapeJudge", .fieldLinkNest RX8 101 "ShapeJudge$Ring" "closed" "Z" "ShapeJudge", .fieldLinkNest RX2 89 "ShapeJudge$Ring" "differentPoints" "I" "ShapeJudge", .fieldLinkNest RX8 105 "ShapeJudge$Ring" "differentPoints" "I" "ShapeJudge", .fieldLinkNest RX3 15 "ShapeJudge$Segment" "ring" "LShapeJudge$Ring;" "ShapeJudge", .fieldLinkNest RX2 132 "ShapeJudge$Segment" "ring" "LShapeJudge$Ring;" "ShapeJudge", .fieldLinkNest RX2 139 "ShapeJudge$Segment" "number" "I" "ShapeJudge", .fieldLinkNest RX5 42 "ShapeJudge$Segment" "fromX" "I" "ShapeJudge", .fieldLinkNest RX3 39 "ShapeJudge$Segment" "fromX" "I" "ShapeJudge", .fieldLinkNest RX4 44 "ShapeJudge$Segment" "fromX" "I" "ShapeJudge", .fieldLinkNest RX5 45 "ShapeJudge$Segment" "fromY" "I" "ShapeJudge", .fieldLinkNest RX3 43 "ShapeJudge$Segment" "fromY" "I" "ShapeJudge", .fieldLinkNest RX4 49 "ShapeJudge$Segment" "fromY" "I" "ShapeJudge", .fieldLinkNest RX5 52 "ShapeJudge$Segment" "toX" "I" "ShapeJudge", .fieldLinkNest RX3 50 "ShapeJudge$Segment" "toX" "I" "ShapeJudge", .fieldLinkNest RX5 55 "ShapeJudge$Segment" "toY" "I" "ShapeJudge", .fieldLinkNest RX3 53 "ShapeJudge$Segment" "toY" "I" "ShapeJudge", .fieldLinkNest RX3 29 "ShapeJudge$Segment" "box" "LShapeJudge$Box;" "ShapeJudge", .fieldLinkNest RX2 111 "ShapeJudge$Segment" "box" "LShapeJudge$Box;" "ShapeJudge", .fieldLinkNest RX5 38 "ShapeJudge$Segment" "next" "LShapeJudge$Segment;" "ShapeJudge", .fieldLinkNest RX3 98 "ShapeJudge$Segment" "next" "LShapeJudge$Segment;" "ShapeJudge", .fieldLinkNest RX2 92 "ShapeJudge$Polygon" "part" "I" "ShapeJudge", .fieldLinkNest RX2 47 "ShapeJudge$Polygon" "rings" "[LShapeJudge$Ring;" "ShapeJudge", .methodLinkNest RX9 9 yX8_init "ShapeJudge", .methodLinkNest RX8 11 yX6_init "ShapeJudge", .methodLinkNest RX2 21 yX3_init "ShapeJudge", .methodLinkNest RX5 18 yX0_init "ShapeJudge", .methodLinkNest RX7 31 yX0_init "ShapeJudge"]
def hNest (w : Cond) : Bool := match w with
  | .fieldLinkNest .. => true
  | .methodLinkNest .. => true
  | _ => false
theorem hN_ok : hN.all hNest = true := by decide +kernel
theorem hNest.warm {w : Cond} (hw : hNest w = true) {s U : State} (hW : s.WarmedH U.vm) (h : va_Nw w s) : va_Nw w U := by
  cases w <;> first | (exact va_Nw.warmF hW h) | (exact va_Nw.warmM hW h) | (simp [hNest] at hw)
theorem hNest.same {w : Cond} (hw : hNest w = true) {s U : State} (hvm : s.vm = U.vm) (h : va_Nw w s) : va_Nw w U := by
  cases w <;> first | (exact va_Nw.same rfl hvm h) | (simp [hNest] at hw)
/-- what is known of the tables: classes, array classes, the links among nest mates, what anewarray asks -/
def hC (D : va_G) (dT : Nat → ClassId) (s : State) : Prop := va_K D vwCl (hTy dT) s ∧ (∀ w ∈ hN, va_Nw w s) ∧ va_AO RX7 s ∧ va_AO RX5 s ∧ va_AO RX4 s
theorem hC.warm {D : va_G} {dT : Nat → ClassId} {u U : State} (hW : u.WarmedH U.vm) (h : hC D dT u) : hC D dT U :=
  ⟨va_K.moved hW.alike h.1, fun w hw => hNest.warm (List.all_eq_true.mp hN_ok w hw) hW (h.2.1 w hw), va_AO.moved hW.alike h.2.2.1, va_AO.moved hW.alike h.2.2.2.1, va_AO.moved hW.alike h.2.2.2.2⟩
theorem hC.same {D : va_G} {dT : Nat → ClassId} {u U : State} (hvm : u.vm = U.vm) (h : hC D dT u) : hC D dT U :=
  have ha : u.vm.Alike U.vm := by rw [hvm]; exact Vm.Alike.refl _
  ⟨va_K.moved ha h.1, fun w hw => hNest.same (List.all_eq_true.mp hN_ok w hw) hvm (h.2.1 w hw), va_AO.moved ha h.2.2.1, va_AO.moved ha h.2.2.2.1, va_AO.moved ha h.2.2.2.2⟩
theorem h_one {D : va_G} {H : Heap} {a : Nat} {e : va_E} (h : va_at D vwCl (a, e) H) : va_P D vwCl [(a, e)] H := fun k q hk => by
  match k, hk with
  | 0, hk => cases hk; exact h
  | k + 1, hk => simp at hk
theorem hHd.fresh {D : va_G} {ah : hA} {H : Heap} (h : hHd D ah H) {q : Nat} (hq : H.size ≤ q) : ah q = none := by
  cases he : ah q with
  | none => rfl
  | some e => exact absurd (h q e he).lt (Nat.not_lt.mpr hq)
theorem hW.rf {D : va_G} {ah : hA} {H : Heap} (h : hHd D ah H) : hW D ah H ah H [] := ⟨h, va_S.rf, fun _ e he => Or.inl ⟨e, he⟩⟩
theorem hFr.up {D : va_G} {ah0 ah : hA} {H0 H : Heap} {locs : List Loc} (hw : hW D ah0 H0 ah H locs) {q : Nat} (h : hFr ah H.size q) : hFr ah0 H0.size q :=
  h.elim (fun ⟨e, he⟩ => hw.2.2 q e he) (fun h => Or.inr (Nat.le_trans hw.2.1.1 h))
theorem hW.put {D : va_G} {ah0 ah : hA} {H0 H H1 : Heap} {locs : List Loc} {a i : Nat} {e0 e : va_E} (hw : hW D ah0 H0 ah H locs) (he : ah a = some e0) (z : H1.size = H.size) (o : ∀ q : Nat, q ≠ a → H1[q]? = H[q]?) (hat : va_at D vwCl (a, e) H1) :
    hW D ah0 H0 (hup ah a e) H1 (locs ++ [⟨a, i⟩]) := by
  refine ⟨fun q e' hq => ?_, hw.2.1.put z o (hw.2.2 a _ he), fun q e' hq => ?_⟩
  · by_cases h : q = a
    · subst h; rw [hup_s] at hq; cases hq; exact hat
    · rw [hup_n h] at hq; exact (hw.1 q e' hq).kept (o q h)
  · by_cases h : q = a
    · subst h; exact hw.2.2 q _ he
    · rw [hup_n h] at hq; exact hw.2.2 q e' hq
theorem hW.push {D : va_G} {ah0 ah : hA} {H0 H H1 : Heap} {locs : List Loc} {e : va_E} (hw : hW D ah0 H0 ah H locs) (z : H1.size = H.size + 1) (o : ∀ q : Nat, q < H.size → H1[q]? = H[q]?) (hat : va_at D vwCl (H.size, e) H1) :
    hW D ah0 H0 (hup ah H.size e) H1 locs := by
  have hS := hw.2.1
  refine ⟨fun q e' hq => ?_, ⟨Nat.le_trans hS.1 (by omega), fun q h1 h2 => (o q (Nat.lt_of_lt_of_le h1 hS.1)).trans (hS.2.1 q h1 h2), hS.2.2⟩, fun q e' hq => ?_⟩
  · by_cases h : q = H.size
    · subst h; rw [hup_s] at hq; cases hq; exact hat
    · rw [hup_n h] at hq; exact (hw.1 q e' hq).kept (o q (hw.1 q e' hq).lt)
  · by_cases h : q = H.size
    · subst h; exact Or.inr hS.1
    · rw [hup_n h] at hq; exact hw.2.2 q e' hq
section HROWS
variable {p : Program} {l : Launch} {e : Env} {R : Room} {s : State} {m : MethodId} {args : Array Value} {below : List Frame} {meth : Method} {c : Code} {H : Heap} {locs : List Loc} {cells slots : Nat} {Q : State → Prop}
variable {cc : ByteArray} {pc : Nat} {ls : Array Slot} {rest : List Value} {D : va_G} {dT : Nat → ClassId} {ah0 ah : hA} {H0 : Heap} {a : Nat}
theorem h_get (hexec : p.tables.exec = Jvm.exec) (hb : c.code = cc) {own ref C : String} {T : u_T} {N ci index : Nat} {Ts : List Cond} (hts : ∀ w ∈ Ts, w.before args s = true) (hin : ∀ w ∈ u_ws C T N, w ∈ Ts) (hown : s.vm.findClass own = some m.cls) (hK : hC D dT s) (hw : hW D ah0 H0 ah H locs) {fs : List Value} (he : ah a = some (.inr (ci, fs))) (hc : vwCl[ci]? = some (C, T, N)) (k : Nat) (hk : k < N) (hlink : (Cond.fieldLink own index ref (T k).2.1 (T k).2.2.1).before args s = true) (href : (T k).1 = ref) {v : Value} (hv : fs[k]? = some v) (hdg : decode cc pc = .ok (.getfield index, 3))
    (kk : W p l e R s m args below meth c H locs cells slots Q (F0 m (pc + 3) ls (v :: rest))) : W p l e R s m args below meth c H locs cells slots Q (F0 m pc ls (.ref a :: rest)) :=
  va_get hexec hb hts hin hown hK.1 (h_one (hw.1 a _ he)) 0 rfl hc k hk hlink (fun _ h => href ▸ h) hv hdg kk
theorem h_getN (hexec : p.tables.exec = Jvm.exec) (hb : c.code = cc) {own ref C host : String} {T : u_T} {N ci index : Nat} {Ts : List Cond} (hts : ∀ w ∈ Ts, w.before args s = true) (hin : ∀ w ∈ u_ws C T N, w ∈ Ts) (hown : s.vm.findClass own = some m.cls) (hK : hC D dT s) (hw : hW D ah0 H0 ah H locs) {fs : List Value} (he : ah a = some (.inr (ci, fs))) (hc : vwCl[ci]? = some (C, T, N)) (k : Nat) (hk : k < N) (hlink : (Cond.fieldLinkNest own index ref (T k).2.1 (T k).2.2.1 host).before args s = true) (href : (T k).1 = ref) {v : Value} (hv : fs[k]? = some v) (hdg : decode cc pc = .ok (.getfield index, 3))
    (kk : W p l e R s m args below meth c H locs cells slots Q (F0 m (pc + 3) ls (v :: rest))) : W p l e R s m args below meth c H locs cells slots Q (F0 m pc ls (.ref a :: rest)) :=
  va_getN hexec hb hts hin hown hK.1 (h_one (hw.1 a _ he)) 0 rfl hc k hk hlink (fun _ h => href ▸ h) hv hdg kk
theorem h_put (hexec : p.tables.exec = Jvm.exec) (hb : c.code = cc) {own ref C : String} {T : u_T} {N ci index : Nat} {Ts : List Cond} (hts : ∀ w ∈ Ts, w.before args s = true) (hin : ∀ w ∈ u_ws C T N, w ∈ Ts) (ty0 : Nat → FieldType) (hty : ∀ k, k < N → parseFieldDescriptor (T k).2.2.1 = some (ty0 k)) (hnm : ∀ a, a < N → ∀ b, b < N → a ≠ b → (T a).2.1 ≠ (T b).2.1) (hown : s.vm.findClass own = some m.cls) (hK : hC D dT s) (hw : hW D ah0 H0 ah H locs) {fs : List Value} (he : ah a = some (.inr (ci, fs))) (hc : vwCl[ci]? = some (C, T, N)) (k : Nat) (hk : k < N) (hlink : (Cond.fieldLink own index ref (T k).2.1 (T k).2.2.1).before args s = true) (href : (T k).1 = ref) (hfin : (T k).2.2.2 = false) {ty : FieldType} {v : Value} (hd : parseFieldDescriptor (T k).2.2.1 = some ty) (hn : narrow ty v = v) (hfit : fits ty v = true) (hl : k < fs.length)
    (hdg : decode cc pc = .ok (.putfield index, 3)) (kk : ∀ (H1 : Heap) (locs1 : List Loc), hW D ah0 H0 (hup ah a (.inr (ci, fs.set k v))) H1 locs1 → W p l e R s m args below meth c H1 locs1 cells slots Q (F0 m (pc + 3) ls rest)) : W p l e R s m args below meth c H locs cells slots Q (F0 m pc ls (v :: .ref a :: rest)) := by
  have hap := va_apart (own := own) hts hin ty0 hty hnm hK.1 hc
  obtain ⟨r, h1, cell, q1, q2, q3, q4⟩ := hw.1 a _ he
  have hr : r = (C, T, N) := Option.some.inj (h1.symm.trans hc)
  subst hr
  obtain ⟨hS, hfc, kC, hkC, hkind⟩ := hK.1.1 ci _ hc
  obtain ⟨cf, kf, fi, f, hi, hsl⟩ := hS k hk
  have hlay := hts _ (hin _ (u_in_lay hk))
  unfold u_lay at hlay
  rw [if_neg (by rw [hfin]; decide)] at hlay
  have hst := (u_facts hfc hkC (u_lays hts hin hk) hi).1
  have h6 := u_store hfc hkC hkind hlay hi hd hn hfit
  refine W.putK hexec hb (f := f) ⟨hown, hlink, ⟨_, _, _, href ▸ hi⟩, hst⟩ (by rw [q2]; exact h6) q1 q3 (by rw [hsl]; exact k2_hasslot (q4 k hk)) rfl rfl hdg fun H' e1 e2 e3 => ?_
  rw [hsl] at e1 ⊢
  exact kk H' _ (hw.put he e2 e3 ⟨_, hc, t_OB.to (V := updV (vp_V fs) k v) ⟨_, e1, q2, q3, t_set q4 hap hk v⟩ (fun j _ => vp_updV_set hl v j)⟩)
theorem h_putN (hexec : p.tables.exec = Jvm.exec) (hb : c.code = cc) {own ref C host : String} {T : u_T} {N ci index : Nat} {Ts : List Cond} (hts : ∀ w ∈ Ts, w.before args s = true) (hin : ∀ w ∈ u_ws C T N, w ∈ Ts) (ty0 : Nat → FieldType) (hty : ∀ k, k < N → parseFieldDescriptor (T k).2.2.1 = some (ty0 k)) (hnm : ∀ a, a < N → ∀ b, b < N → a ≠ b → (T a).2.1 ≠ (T b).2.1) (hown : s.vm.findClass own = some m.cls) (hK : hC D dT s) (hw : hW D ah0 H0 ah H locs) {fs : List Value} (he : ah a = some (.inr (ci, fs))) (hc : vwCl[ci]? = some (C, T, N)) (k : Nat) (hk : k < N) (hlink : (Cond.fieldLinkNest own index ref (T k).2.1 (T k).2.2.1 host).before args s = true) (href : (T k).1 = ref) (hfin : (T k).2.2.2 = false) {ty : FieldType} {v : Value} (hd : parseFieldDescriptor (T k).2.2.1 = some ty) (hn : narrow ty v = v) (hfit : fits ty v = true) (hl : k < fs.length)
    (hdg : decode cc pc = .ok (.putfield index, 3)) (kk : ∀ (H1 : Heap) (locs1 : List Loc), hW D ah0 H0 (hup ah a (.inr (ci, fs.set k v))) H1 locs1 → W p l e R s m args below meth c H1 locs1 cells slots Q (F0 m (pc + 3) ls rest)) : W p l e R s m args below meth c H locs cells slots Q (F0 m pc ls (v :: .ref a :: rest)) := by
  have hap := va_apart (own := own) hts hin ty0 hty hnm hK.1 hc
  obtain ⟨r, h1, cell, q1, q2, q3, q4⟩ := hw.1 a _ he
  have hr : r = (C, T, N) := Option.some.inj (h1.symm.trans hc)
  subst hr
  obtain ⟨hS, hfc, kC, hkC, hkind⟩ := hK.1.1 ci _ hc
  obtain ⟨cf, kf, fi, f, hi, hsl⟩ := hS k hk
  have hlay := hts _ (hin _ (u_in_lay hk))
  unfold u_lay at hlay
  rw [if_neg (by rw [hfin]; decide)] at hlay
  have hst := (u_facts hfc hkC (u_lays hts hin hk) hi).1
  have h6 := u_store hfc hkC hkind hlay hi hd hn hfit
  refine va_WputK hexec hb (f := f) hown hlink (href ▸ hi) hst (by rw [q2]; exact h6) q1 q3 (by rw [hsl]; exact k2_hasslot (q4 k hk)) rfl rfl hdg fun H' e1 e2 e3 => ?_
  rw [hsl] at e1 ⊢
  exact kk H' _ (hw.put he e2 e3 ⟨_, hc, t_OB.to (V := updV (vp_V fs) k v) ⟨_, e1, q2, q3, t_set q4 hap hk v⟩ (fun j _ => vp_updV_set hl v j)⟩)
theorem h_putF (hexec : p.tables.exec = Jvm.exec) (hb : c.code = cc) {own ref C : String} {T : u_T} {N ci index : Nat} {Ts : List Cond} (hts : ∀ w ∈ Ts, w.before args s = true) (hin : ∀ w ∈ u_ws C T N, w ∈ Ts) (ty0 : Nat → FieldType) (hty : ∀ k, k < N → parseFieldDescriptor (T k).2.2.1 = some (ty0 k)) (hnm : ∀ a, a < N → ∀ b, b < N → a ≠ b → (T a).2.1 ≠ (T b).2.1) (hown : s.vm.findClass own = some m.cls) (hK : hC D dT s) (hw : hW D ah0 H0 ah H locs) {fs : List Value} (he : ah a = some (.inr (ci, fs))) (hc : vwCl[ci]? = some (C, T, N)) (k : Nat) (hk : k < N) (hlink : (Cond.fieldLink own index ref (T k).2.1 (T k).2.2.1).before args s = true) (href : (T k).1 = ref) (hfin : (T k).2.2.2 = true) (hin2 : meth.name = "<init>") (hdecl : (T k).1 = own) {ty : FieldType} {v : Value} (hd : parseFieldDescriptor (T k).2.2.1 = some ty) (hn : narrow ty v = v) (hfit : fits ty v = true) (hl : k < fs.length)
    (hdg : decode cc pc = .ok (.putfield index, 3)) (kk : ∀ (H1 : Heap) (locs1 : List Loc), hW D ah0 H0 (hup ah a (.inr (ci, fs.set k v))) H1 locs1 → W p l e R s m args below meth c H1 locs1 cells slots Q (F0 m (pc + 3) ls rest)) : W p l e R s m args below meth c H locs cells slots Q (F0 m pc ls (v :: .ref a :: rest)) := by
  have hap := va_apart (own := own) hts hin ty0 hty hnm hK.1 hc
  obtain ⟨r, h1, cell, q1, q2, q3, q4⟩ := hw.1 a _ he
  have hr : r = (C, T, N) := Option.some.inj (h1.symm.trans hc)
  subst hr
  obtain ⟨hS, hfc, kC, hkC, hkind⟩ := hK.1.1 ci _ hc
  obtain ⟨cf, kf, fi, f, hi, hsl⟩ := hS k hk
  have hlay := hts _ (hin _ (u_in_lay hk))
  unfold u_lay at hlay
  rw [if_pos hfin] at hlay
  have hst := (u_facts hfc hkC (u_lays hts hin hk) hi).1
  have hcf : m.cls = cf := by
    obtain ⟨_, _, c', _, _, _, -, -, hf', -, -, -, hown2, -⟩ := Cond.laysFinal_spec hlay
    have e1 : c' = cf := by have := hi.symm.trans hf'; simp at this; exact this.1.symm
    rw [hdecl] at hown2
    rw [← e1]; exact Option.some.inj (hown.symm.trans hown2)
  have h6 := u_fits hfc hkC hkind (Or.inr hlay) hi hd hn hfit
  refine W.putFinK hexec hb hown hlink (href ▸ hi) hst hcf hin2 (by rw [q2]; exact h6) q1 q3 (by rw [hsl]; exact k2_hasslot (q4 k hk)) rfl rfl hdg fun H' e1 e2 e3 => ?_
  rw [hsl] at e1 ⊢
  exact kk H' _ (hw.put he e2 e3 ⟨_, hc, t_OB.to (V := updV (vp_V fs) k v) ⟨_, e1, q2, q3, t_set q4 hap hk v⟩ (fun j _ => vp_updV_set hl v j)⟩)
theorem h_iald (hexec : p.tables.exec = Jvm.exec) (hb : c.code = cc) (hK : hC D dT s) (hw : hW D ah0 H0 ah H locs) {n : Nat} {f : Nat → Int32} (ha : ah a = some (.inl (dT 0, n, .inl f))) {i : Int32} (j : Nat) (hj : i = nI j) (hjn : j < n) (hn : n < 2 ^ 31) (hdg : decode cc pc = .ok (.iaload, 1))
    (kk : W p l e R s m args below meth c H locs cells slots Q (F0 m (pc + 1) ls (.int (f j) :: rest))) : W p l e R s m args below meth c H locs cells slots Q (F0 m pc ls (.int i :: .ref a :: rest)) := by
  subst hj
  refine va_iald hexec hb hK.1 (h_one (hw.1 a _ ha)) 0 0 rfl rfl (vp_in_nI hjn hn) hdg ?_
  rw [nI_clamp (by omega)]
  exact kk
theorem h_lald (hexec : p.tables.exec = Jvm.exec) (hb : c.code = cc) (hK : hC D dT s) (hw : hW D ah0 H0 ah H locs) {n : Nat} {f : Nat → Int64} (ha : ah a = some (.inl (dT 1, n, .inr (.inl f)))) {i : Int32} (j : Nat) (hj : i = nI j) (hjn : j < n) (hn : n < 2 ^ 31) (hdg : decode cc pc = .ok (.laload, 1))
    (kk : W p l e R s m args below meth c H locs cells slots Q (F0 m (pc + 1) ls (.long (f j) :: rest))) : W p l e R s m args below meth c H locs cells slots Q (F0 m pc ls (.int i :: .ref a :: rest)) := by
  subst hj
  refine va_lald hexec hb hK.1 (h_one (hw.1 a _ ha)) 0 1 rfl rfl (vp_in_nI hjn hn) hdg ?_
  rw [nI_clamp (by omega)]
  exact kk
theorem h_aald (hexec : p.tables.exec = Jvm.exec) (hb : c.code = cc) (hK : hC D dT s) (hw : hW D ah0 H0 ah H locs) (t0 : Nat) {C : String} (ht : (hTy dT)[t0]? = some (dT t0, .object C)) {n : Nat} {f : Nat → Option Nat} (ha : ah a = some (.inl (dT t0, n, .inr (.inr (.inr (.inr f)))))) {i : Int32} (j : Nat) (hj : i = nI j) (hjn : j < n) (hn : n < 2 ^ 31) {b : Nat} (hf : f j = some b) (hdg : decode cc pc = .ok (.aaload, 1))
    (kk : W p l e R s m args below meth c H locs cells slots Q (F0 m (pc + 1) ls (.ref b :: rest))) : W p l e R s m args below meth c H locs cells slots Q (F0 m pc ls (.int i :: .ref a :: rest)) := by
  subst hj
  refine va_aldq (C := C) hexec hb hK.1 (h_one (hw.1 a _ ha)) 0 t0 rfl ht (vp_in_nI hjn hn) hdg ?_
  rw [nI_clamp (by omega), hf]
  exact kk
theorem h_alen (hexec : p.tables.exec = Jvm.exec) (hb : c.code = cc) (hK : hC D dT s) (hw : hW D ah0 H0 ah H locs) (t0 : Nat) {ty : FieldType} (ht : (hTy dT)[t0]? = some (dT t0, ty)) {x : vp_A} (ha : ah a = some (.inl (dT t0, x))) (hdg : decode cc pc = .ok (.arraylength, 1))
    (kk : W p l e R s m args below meth c H locs cells slots Q (F0 m (pc + 1) ls (.int (nI x.1) :: rest))) : W p l e R s m args below meth c H locs cells slots Q (F0 m pc ls (.ref a :: rest)) :=
  va_alen hexec hb hK.1 (h_one (hw.1 a _ ha)) 0 t0 rfl ht rfl hdg kk
theorem h_iast (hexec : p.tables.exec = Jvm.exec) (hb : c.code = cc) (hK : hC D dT s) (hw : hW D ah0 H0 ah H locs) {n : Nat} {f : Nat → Int32} (ha : ah a = some (.inl (dT 0, n, .inl f))) {i x : Int32} (j : Nat) (hj : i = nI j) (hjn : j < n) (hn : n < 2 ^ 31) (hdg : decode cc pc = .ok (.iastore, 1))
    (kk : ∀ (H1 : Heap) (locs1 : List Loc), hW D ah0 H0 (hup ah a (.inl (dT 0, n, .inl (upd f j x)))) H1 locs1 → W p l e R s m args below meth c H1 locs1 cells slots Q (F0 m (pc + 1) ls rest)) : W p l e R s m args below meth c H locs cells slots Q (F0 m pc ls (.int x :: .int i :: .ref a :: rest)) := by
  subst hj
  refine W.iast hexec hb (hw.1 a _ ha) ((hK.1.2 0 _ rfl).1 n (fun j => .int (f j))) (fun q => by cases q) (by show ¬ (_ < 0 ∨ (arrV _ _ _).slots.size ≤ _); rw [arrV_size]; exact vp_in_nI hjn hn) rfl rfl hdg fun H1 e z oq => ?_
  refine kk H1 _ (hw.put ha z oq ?_)
  show H1[a]? = some (vp_cell _ _)
  rw [e, nI_clamp (by omega), vp_cell_i, vp_cell_i, arrV_store]
  congr 2
  funext q
  by_cases hq : q = j
  · subst hq; simp [updV, upd]
  · simp [updV, upd, hq]
theorem h_last (hexec : p.tables.exec = Jvm.exec) (hb : c.code = cc) (hK : hC D dT s) (hw : hW D ah0 H0 ah H locs) {n : Nat} {f : Nat → Int64} (ha : ah a = some (.inl (dT 1, n, .inr (.inl f)))) {i : Int32} {x : Int64} (j : Nat) (hj : i = nI j) (hjn : j < n) (hn : n < 2 ^ 31) (hdg : decode cc pc = .ok (.lastore, 1))
    (kk : ∀ (H1 : Heap) (locs1 : List Loc), hW D ah0 H0 (hup ah a (.inl (dT 1, n, .inr (.inl (vp_updL f j x))))) H1 locs1 → W p l e R s m args below meth c H1 locs1 cells slots Q (F0 m (pc + 1) ls rest)) : W p l e R s m args below meth c H locs cells slots Q (F0 m pc ls (.long x :: .int i :: .ref a :: rest)) := by
  subst hj
  refine W.last hexec hb (hw.1 a _ ha) ((hK.1.2 1 _ rfl).1 n (fun j => .long (f j))) (fun q => by cases q) (by show ¬ (_ < 0 ∨ (arrV _ _ _).slots.size ≤ _); rw [arrV_size]; exact vp_in_nI hjn hn) rfl rfl hdg fun H1 e z oq => ?_
  refine kk H1 _ (hw.put ha z oq ?_)
  show H1[a]? = some (vp_cell _ _)
  rw [e, nI_clamp (by omega), vp_cell_l, vp_cell_l, arrV_store]
  congr 2
  funext q
  by_cases hq : q = j
  · subst hq; simp [updV, vp_updL]
  · simp [updV, vp_updL, hq]
theorem h_aast (hexec : p.tables.exec = Jvm.exec) (hb : c.code = cc) (hK : hC D dT s) (hw : hW D ah0 H0 ah H locs) (t0 ci : Nat) {r : vw_C} {n v : Nat} {vs : List Value} {f : Nat → Option Nat} (ha : ah a = some (.inl (dT t0, n, .inr (.inr (.inr (.inr f)))))) (ht : (hTy dT)[t0]? = some (dT t0, .object r.1)) (hv : ah v = some (.inr (ci, vs))) (hc : vwCl[ci]? = some r) {i : Int32} (j : Nat) (hj : i = nI j) (hjn : j < n) (hn : n < 2 ^ 31) (hdg : decode cc pc = .ok (.aastore, 1))
    (kk : ∀ (H1 : Heap) (locs1 : List Loc), hW D ah0 H0 (hup ah a (.inl (dT t0, n, .inr (.inr (.inr (.inr (va_up f j (some v)))))))) H1 locs1 → W p l e R s m args below meth c H1 locs1 cells slots Q (F0 m (pc + 1) ls rest)) : W p l e R s m args below meth c H locs cells slots Q (F0 m pc ls (.ref v :: .int i :: .ref a :: rest)) := by
  subst hj
  have hin := vp_in_nI hjn hn
  have hlt : (nI j).toNatClampNeg < n := Nat.not_le.mp fun q => hin (Or.inr q)
  have h0 : ¬ nI j < 0 := fun q => hin (Or.inl q)
  obtain ⟨r', hr', cellV, g1, g2, g3, -⟩ := hw.1 v _ hv
  have hcls := (hK.1.1 ci r hc).2
  obtain ⟨kA, comp, k1, k2, k3, -⟩ := (hK.1.2 t0 _ ht).2
  have hcomp : comp = D.1 ci := Option.some.inj (k3.symm.trans hcls.1)
  subst hcomp
  obtain ⟨kC, hkC, -⟩ := hcls.2
  refine W.aast hexec hb (hw.1 a _ ha) (fun q h => by cases h) (fun h => by cases h) k1 k2 rfl hkC ⟨h0, by show _ < (arrV _ _ _).slots.size; rw [arrV_size]; exact hlt⟩ g1 (fun q h => by rw [g3] at h; cases h) (by rw [g2]; exact hkC) (by rw [g2]; exact va_assign hcls) rfl rfl hdg fun H1 e z oq => ?_
  refine kk H1 _ (hw.put ha z oq ?_)
  show H1[a]? = some (vp_cell _ _)
  rw [e, nI_clamp (by omega), vp_cell_q, vp_cell_q, arrV_store]
  congr 2
  funext q
  by_cases hq : q = j
  · subst hq; simp [updV, va_up, va_rf]
  · simp [updV, va_up, hq]
theorem h_new (hexec : p.tables.exec = Jvm.exec) (hb : c.code = cc) {own C : String} {T : u_T} {N ci index : Nat} {Ts : List Cond} (hts : ∀ w ∈ Ts, w.before args s = true) (hin : ∀ w ∈ u_ws C T N, w ∈ Ts) (ty : Nat → FieldType) (hty : ∀ k, k < N → parseFieldDescriptor (T k).2.2.1 = some (ty k)) (hown : s.vm.findClass own = some m.cls) (hcl : (Cond.classLink own index C).before args s = true) (hinst : (Cond.instantiable C N).before args s = true) (hini : (Cond.initialized C).before args s = true)
    (hK : hC D dT s) (hw : hW D ah0 H0 ah H locs) (hc : vwCl[ci]? = some (C, T, N)) {fs : List Value} (hfs : ∀ j, j < N → defaultValue (ty j) = vp_V fs j) (hcells : cells + 1 ≤ R.cells) (hslots : slots + N ≤ R.slots) (hdg : decode cc pc = .ok (.new index, 3))
    (kk : ∀ (q : Nat) (H1 : Heap), ah q = none → hW D ah0 H0 (hup ah q (.inr (ci, fs))) H1 locs → W p l e R s m args below meth c H1 locs (cells + 1) (slots + N) Q (F0 m (pc + 3) ls (.ref q :: rest))) : W p l e R s m args below meth c H locs cells slots Q (F0 m pc ls rest) := by
  have hKn := hK.1.1 ci _ hc
  refine W.newcK hexec hb hown hcl hinst hini rfl hdg hcells hslots hKn.2.1 rfl fun H1 kC hkC e1 z1 o1 => ?_
  exact kk H.size H1 (hw.1.fresh (Nat.le_refl _)) (hw.push z1 o1 ⟨_, hc, (u_born ty hts hin hKn hkC e1 hty).to hfs⟩)
theorem h_newi (hexec : p.tables.exec = Jvm.exec) (hb : c.code = cc) (harr : (Cond.arrayClass .int).before args s = true) (hK : hC D dT s) (hw : hW D ah0 H0 ah H locs) {i : Int32} (n : Nat) (hi : i = nI n) (hn : n ≤ 100000000) (hcells : cells + 1 ≤ R.cells) (hslots : slots + n ≤ R.slots) (hdg : decode cc pc = .ok (.newarray .int, 2))
    (kk : ∀ (q : Nat) (H1 : Heap), ah q = none → hW D ah0 H0 (hup ah q (.inl (dT 0, n, .inl (fun _ => 0)))) H1 locs → W p l e R s m args below meth c H1 locs (cells + 1) (slots + n) Q (F0 m (pc + 2) ls (.ref q :: rest))) : W p l e R s m args below meth c H locs cells slots Q (F0 m pc ls (.int i :: rest)) := by
  subst hi
  refine va_newaK (atype := .int) (N := n) hexec hb harr rfl hdg rfl (nI_pos (by omega)) (nI_clamp (by omega)) (by show n * 4 ≤ _; omega) hcells hslots rfl fun H1 cA e1 z1 o1 hAr hNm => ?_
  have hcA : cA = dT 0 := Option.some.inj (hNm.symm.trans (hK.1.2 0 _ rfl).2)
  subst hcA
  refine kk H.size H1 (hw.1.fresh (Nat.le_refl _)) (hw.push z1 o1 ?_)
  show H1[H.size]? = some (vp_cell _ _)
  rw [e1, vp_cell_i]; rfl
theorem h_newl (hexec : p.tables.exec = Jvm.exec) (hb : c.code = cc) (harr : (Cond.arrayClass .long).before args s = true) (hK : hC D dT s) (hw : hW D ah0 H0 ah H locs) {i : Int32} (n : Nat) (hi : i = nI n) (hn : n ≤ 10000000) (hcells : cells + 1 ≤ R.cells) (hslots : slots + n ≤ R.slots) (hdg : decode cc pc = .ok (.newarray .long, 2))
    (kk : ∀ (q : Nat) (H1 : Heap), ah q = none → hW D ah0 H0 (hup ah q (.inl (dT 1, n, .inr (.inl (fun _ => 0))))) H1 locs → W p l e R s m args below meth c H1 locs (cells + 1) (slots + n) Q (F0 m (pc + 2) ls (.ref q :: rest))) : W p l e R s m args below meth c H locs cells slots Q (F0 m pc ls (.int i :: rest)) := by
  subst hi
  refine va_newaK (atype := .long) (N := n) hexec hb harr rfl hdg rfl (nI_pos (by omega)) (nI_clamp (by omega)) (by show n * 8 ≤ _; omega) hcells hslots rfl fun H1 cA e1 z1 o1 hAr hNm => ?_
  have hcA : cA = dT 1 := Option.some.inj (hNm.symm.trans (hK.1.2 1 _ rfl).2)
  subst hcA
  refine kk H.size H1 (hw.1.fresh (Nat.le_refl _)) (hw.push z1 o1 ?_)
  show H1[H.size]? = some (vp_cell _ _)
  rw [e1, vp_cell_l]; rfl
theorem h_newq (hexec : p.tables.exec = Jvm.exec) (hb : c.code = cc) {own C : String} {index : Nat} (hown : s.vm.findClass own = some m.cls) (hclink : (Cond.classLink own index C).before args s = true) (hover : va_AO C s) (hK : hC D dT s) (hw : hW D ah0 H0 ah H locs) (t0 : Nat) (ht : (hTy dT)[t0]? = some (dT t0, .object C)) {i : Int32} (n : Nat) (hi : i = nI n) (hn : n ≤ 100000000) (hcells : cells + 1 ≤ R.cells) (hslots : slots + n ≤ R.slots) (hdg : decode cc pc = .ok (.anewarray index, 3))
    (kk : ∀ (q : Nat) (H1 : Heap), ah q = none → hW D ah0 H0 (hup ah q (.inl (dT t0, n, .inr (.inr (.inr (.inr (fun _ => none))))))) H1 locs → W p l e R s m args below meth c H1 locs (cells + 1) (slots + n) Q (F0 m (pc + 3) ls (.ref q :: rest))) : W p l e R s m args below meth c H locs cells slots Q (F0 m pc ls (.int i :: rest)) := by
  subst hi
  have hcl : (nI n).toNatClampNeg = n := nI_clamp (by omega)
  refine W.anew hexec hb hown hclink (va_AO.use hover) rfl hdg rfl (nI_pos (by omega)) (by rw [hcl]; omega) hcells (by rw [hcl]; exact hslots) fun cA kA comp f1 f2 f3 f4 => ?_
  rw [hcl]
  generalize hH1 : H.push ({ cls := cA, slots := Array.replicate n .null, vm := .none } : Cell) = H1
  have z1 : H1.size = H.size + 1 := by rw [← hH1, Array.size_push]
  have e1 : H1[H.size]? = some (arrV cA n (fun _ => .null)) := by rw [← hH1, Array.getElem?_push_size, ← arrV_new]
  have o1 : ∀ q : Nat, q < H.size → H1[q]? = H[q]? := fun q hq => by rw [← hH1, Array.getElem?_push, if_neg (Nat.ne_of_lt hq)]
  obtain ⟨kA', comp', k1, k2, k3, k4⟩ := (hK.1.2 t0 _ ht).2
  have hcA : cA = dT t0 := Option.some.inj (f1.symm.trans k4)
  subst hcA
  refine kk H.size H1 (hw.1.fresh (Nat.le_refl _)) (hw.push z1 o1 ?_)
  show H1[H.size]? = some (vp_cell _ _)
  rw [vp_cell_q]
  exact e1
/-! CONTRACTS over such a heap. -/
def hPre (D : va_G) (dT : Nat → ClassId) (av : List Value) (ah : hA) (sz : Nat) : Array Value → State → Prop := va_Pc av (fun U => U.heap.size = sz ∧ hHd D ah U.heap ∧ hC D dT U)
def hPost (D : va_G) (ah : hA) (sz : Nat) (post : Option Value → hA → Prop) : Array Value → State → Outcome → State → Prop := fun _ st oc t =>
  ∃ (r : Option Value) (ah' : hA), oc = .returned r ∧ post r ah' ∧ hHd D ah' t.heap ∧ va_F (hFr ah sz) st t ∧ ∀ (q : Nat) (e : va_E), ah' q = some e → hFr ah sz q
/-- the method's contract: from every heap that holds ah it returns r with a heap that holds ah', post r ah'; at most mc cells of ms slots are new; nothing else is written -/
def hMet (l : Launch) (y : MethodName) (cc : ByteArray) (maxL : Nat) (ret : Option FieldType) (rm : Room) (D : va_G) (dT : Nat → ClassId) (av : List Value) (ah : hA) (sz : Nat) (post : Option Value → hA → Prop) (mc ms : Nat) : Prop :=
  Met l y (Cond.code y cc maxL ret :: hAll) rm (hPre D dT av ah sz) (hPost D ah sz post) mc ms (hFr ah sz)
theorem h_blind {av : List Value} {sz : Nat} : FrameBlind (hPre D dT av ah sz) := fun a9 U g mk q => by
  obtain ⟨q0, q1, q2, q3⟩ := q
  exact ⟨q0, q1, q2, hC.same (u := U) (U := U.calling g mk a9) rfl q3⟩
theorem h_pre (hK : hC D dT s) (hw : hW D ah0 H0 ah H locs) {av : List Value} : ∀ U : State, U.heap = H → s.WarmedH U.vm → hPre D dT av ah H.size av.toArray U := fun U hU hWm =>
  ⟨rfl, by rw [hU], by rw [hU]; exact hw.1, hC.warm hWm hK⟩
theorem h_preS (hK : hC D dT s) (hw : hW D ah0 H0 ah H locs) {av : List Value} : PreS s H (hPre D dT av ah H.size) av := ⟨h_blind, fun U hU hWm => h_pre hK hw U hU hWm⟩
theorem h_recv (hK : hC D dT s) (hw : hW D ah0 H0 ah H locs) {ci : Nat} {q : vw_C} {fs : List Value} (hc : vwCl[ci]? = some q) (he : ah a = some (.inr (ci, fs))) : ∃ cell : Cell, H[a]? = some cell ∧ cell.vm.isStatics = false ∧ s.vm.findClass q.1 = some cell.cls :=
  va_recv hK.1 (h_one (hw.1 a _ he)) hc (q0 := 0) rfl
theorem h_preV (hK : hC D dT s) (hw : hW D ah0 H0 ah H locs) {ci : Nat} {C : String} {T : u_T} {N : Nat} {fs As : List Value} (hc : vwCl[ci]? = some (C, T, N)) (he : ah a = some (.inr (ci, fs))) : PreV s H C a (hPre D dT (.ref a :: As) ah H.size) As :=
  ⟨h_blind, h_recv hK hw hc he, fun U hU hWm => h_pre hK hw U hU hWm⟩
theorem h_call {mc ms : Nat} {post : Option Value → hA → Prop} {st0 : List Value} {aa : Array Value} (hr : va_Run p l e R s m args below meth c H locs cells slots mc ms (F0 m pc ls st0) rest (hPost D ah H.size post aa) (hFr ah H.size)) (hw : hW D ah0 H0 ah H locs)
    (kk : ∀ (r : Option Value) (ah' : hA) (H1 : Heap) (locs1 : List Loc) (st1 : List Value), post r ah' → hW D ah0 H0 ah' H1 locs1 → st1 = r.toList ++ rest → W p l e R s m args below meth c H1 locs1 (cells + mc) (slots + ms) Q (F0 m (pc + 3) ls st1)) : W p l e R s m args below meth c H locs cells slots Q (F0 m pc ls st0) := by
  intro T hT X
  obtain ⟨v, st₀, t, T', L, h0, X', hL, e1, e2, ⟨r, ah', hv, hp, hh, hF, hd⟩, st⟩ := hr T hT X
  cases hv
  have hS := hw.2.1
  rw [va_F, h0] at hF
  have k1 : ∀ q : Nat, q < H0.size → ¬ hFr ah0 H0.size q → T'.heap[q]? = H0[q]? := fun q h1 h2 => by
    rw [e1, hF.2 q (Nat.lt_of_lt_of_le h1 hS.1) (fun h => h2 (hFr.up hw h))]
    exact hS.2.1 q h1 h2
  have k2 : ∀ z ∈ locs ++ L, hFr ah0 H0.size z.base := fun z hz => by
    rcases List.mem_append.mp hz with h | h
    · exact hS.2.2 z h
    · exact hFr.up hw (hL z h)
  have hw1 : hW D ah0 H0 ah' T'.heap (locs ++ L) := ⟨by rw [e1]; exact hh, ⟨Nat.le_trans hS.1 (by rw [e1]; exact hF.1), k1, k2⟩, fun q e' hq => hFr.up hw (hd q e' hq)⟩
  obtain ⟨t2, a1, b1⟩ := kk v ah' T'.heap (locs ++ L) _ hp hw1 rfl T' rfl X'
  exact ⟨t2, st t2 a1, b1⟩
theorem h_iret {mc ms : Nat} {post : Option Value → hA → Prop} {sz : Nat} {v : Int32} (hexec : p.tables.exec = Jvm.exec) (hb : c.code = cc) (hr : meth.sig.returnType = some .int) (hlocks : meth.locks = false) (hsz : s.heap.size = sz) (hw : hW D ah0 s.heap ah H locs) (hc : cells ≤ mc) (hs : slots ≤ ms) (hdg : decode cc pc = .ok (.ireturn, 1)) (hp : post (some (.int v)) ah) :
    W p l e R s m args below meth c H locs cells slots (MQ below (hPost D ah0 sz post) args s mc ms (hFr ah0 sz)) (F0 m pc ls [.int v]) := by
  subst hsz
  exact W.widen hc hs (W.iret hexec hb hr (fun t ht _ => ⟨_, ah, rfl, hp, by rw [ht]; exact hw.1, hw.2.1.F ht, hw.2.2⟩) hw.2.1.2.2 hdg hlocks)
theorem h_zret {mc ms : Nat} {post : Option Value → hA → Prop} {sz : Nat} {v : Int32} (hexec : p.tables.exec = Jvm.exec) (hb : c.code = cc) (hr : meth.sig.returnType = some .boolean) (hlocks : meth.locks = false) (hsz : s.heap.size = sz) (hw : hW D ah0 s.heap ah H locs) (hc : cells ≤ mc) (hs : slots ≤ ms) (hdg : decode cc pc = .ok (.ireturn, 1)) (hv : v = 0 ∨ v = 1) (hp : post (some (.int v)) ah) :
    W p l e R s m args below meth c H locs cells slots (MQ below (hPost D ah0 sz post) args s mc ms (hFr ah0 sz)) (F0 m pc ls [.int v]) := by
  subst hsz
  exact W.widen hc hs (W.zret hexec hb hr (by rcases hv with rfl | rfl <;> rfl) (fun t ht _ => ⟨_, ah, rfl, hp, by rw [ht]; exact hw.1, hw.2.1.F ht, hw.2.2⟩) hw.2.1.2.2 hdg hlocks)
theorem h_lret {mc ms : Nat} {post : Option Value → hA → Prop} {sz : Nat} {v : Int64} (hexec : p.tables.exec = Jvm.exec) (hb : c.code = cc) (hr : meth.sig.returnType = some .long) (hlocks : meth.locks = false) (hsz : s.heap.size = sz) (hw : hW D ah0 s.heap ah H locs) (hc : cells ≤ mc) (hs : slots ≤ ms) (hdg : decode cc pc = .ok (.lreturn, 1)) (hp : post (some (.long v)) ah) :
    W p l e R s m args below meth c H locs cells slots (MQ below (hPost D ah0 sz post) args s mc ms (hFr ah0 sz)) (F0 m pc ls [.long v]) := by
  subst hsz
  exact W.widen hc hs (W.lret hexec hb hr (fun t ht _ => ⟨_, ah, rfl, hp, by rw [ht]; exact hw.1, hw.2.1.F ht, hw.2.2⟩) hw.2.1.2.2 hdg hlocks)
theorem h_vret {mc ms : Nat} {post : Option Value → hA → Prop} {sz : Nat} (hexec : p.tables.exec = Jvm.exec) (hb : c.code = cc) (hr : meth.sig.returnType = none) (hlocks : meth.locks = false) (hsz : s.heap.size = sz) (hw : hW D ah0 s.heap ah H locs) (hc : cells ≤ mc) (hs : slots ≤ ms) (hdg : decode cc pc = .ok (.return_, 1)) (hp : post none ah) :
    W p l e R s m args below meth c H locs cells slots (MQ below (hPost D ah0 sz post) args s mc ms (hFr ah0 sz)) (F0 m pc ls []) := by
  subst hsz
  exact W.widen hc hs (W.vret hexec hb hr (fun t ht _ => ⟨_, ah, rfl, hp, by rw [ht]; exact hw.1, hw.2.1.F ht, hw.2.2⟩) hw.2.1.2.2 hdg hlocks)
theorem h_aret {mc ms : Nat} {post : Option Value → hA → Prop} {sz : Nat} {b : Nat} {rt : FieldType} (hexec : p.tables.exec = Jvm.exec) (hb : c.code = cc) (hr : meth.sig.returnType = some rt) (hrt : (∃ n, rt = .object n) ∨ ∃ t, rt = .array t) (hlocks : meth.locks = false) (hsz : s.heap.size = sz) (hw : hW D ah0 s.heap ah H locs) (hc : cells ≤ mc) (hs : slots ≤ ms) (hdg : decode cc pc = .ok (.areturn, 1)) (hp : post (some (.ref b)) ah) :
    W p l e R s m args below meth c H locs cells slots (MQ below (hPost D ah0 sz post) args s mc ms (hFr ah0 sz)) (F0 m pc ls [.ref b]) := by
  subst hsz
  exact W.widen hc hs (W.aret hexec hb hr hrt (Or.inr ⟨b, rfl⟩) (fun t ht _ => ⟨_, ah, rfl, hp, by rw [ht]; exact hw.1, hw.2.1.F ht, hw.2.2⟩) hw.2.1.2.2 hdg hlocks)
end HROWS
theorem h_gV {own C : String} {index : Nat} {y : MethodName} {w : Cond} (km : Cond.methodLink own index y ∈ hAll) (ki : Cond.instanceMethod y ∈ hAll) (ks : Cond.selects C y y ∈ hAll) (kn : Cond.initialized C ∈ hAll) (ko : w ∈ hAll) : GoodIn hAll (wsV own index C y (w :: hAll)) := fun x hx => by
  simp only [wsV, List.cons_append, List.nil_append, List.mem_cons] at hx
  rcases hx with h | h | h | h | h | h
  · rw [h]; exact hAll_good _ km
  · rw [h]; exact hAll_good _ ki
  · rw [h]; exact hAll_good _ ks
  · rw [h]; exact hAll_good _ kn
  · rw [h]; exact hAll_good _ ko
  · exact hAll_good _ h
theorem h_gS {own : String} {index : Nat} {y : MethodName} {w : Cond} (km : Cond.methodLink own index y ∈ hAll) (kt : Cond.static y ∈ hAll) (kn : Cond.initialized y.cls ∈ hAll) (ko : w ∈ hAll) : GoodIn hAll (va_wsS own index y (w :: hAll)) := fun x hx => by
  simp only [va_wsS, List.cons_append, List.nil_append, List.mem_cons] at hx
  rcases hx with h | h | h | h | h
  · rw [h]; exact hAll_good _ km
  · rw [h]; exact hAll_good _ kt
  · rw [h]; exact hAll_good _ kn
  · rw [h]; exact hAll_good _ ko
  · exact hAll_good _ h
/-- is the callee's room within the caller's? -/
def hRm (rm R : Room) (maxL mc ms cells slots : Nat) : Prop := rm.cells = mc ∧ rm.slots = ms ∧ rm.frames + 1 ≤ R.frames ∧ 8 + (maxL + 11) + rm.locals ≤ R.locals ∧ cells + mc ≤ R.cells ∧ slots + ms ≤ R.slots
section HCALLS
variable {p : Program} {l : Launch} {e : Env} {R : Room} {s : State} {m : MethodId} {args : Array Value} {below : List Frame} {meth : Method} {c : Code} {H : Heap} {locs : List Loc} {cells slots : Nat} {Q : State → Prop}
variable {cc : ByteArray} {pc : Nat} {ls : Array Slot} {rest : List Value} {D : va_G} {dT : Nat → ClassId} {ah0 ah : hA} {H0 : Heap}
theorem h_callV {own C : String} {index nL n ci N b maxL' mc ms : Nat} {y : MethodName} {cc' : ByteArray} {ret' : Option FieldType} {rm' : Room} {T : u_T} {fs As st0 : List Value} {post : Option Value → hA → Prop}
    (S : CallFix p m c cc nL s args hAll own) (hK : hC D dT s) (hw : hW D ah0 H0 ah H locs) (hM : hMet l y cc' maxL' ret' rm' D dT (.ref b :: As) ah H.size post mc ms)
    (ko : Cond.code y cc' maxL' ret' ∈ hAll) (km : Cond.methodLink own index y ∈ hAll) (ki : Cond.instanceMethod y ∈ hAll) (ks : Cond.selects C y y ∈ hAll) (kn : Cond.initialized C ∈ hAll)
    (hd : y.cls = C ∧ y.cls ≠ "java/lang/invoke/MethodHandle" ∧ y.cls ≠ "java/lang/invoke/VarHandle" ∧ (parseMethodDescriptor y.desc).map (fun d => d.parameters.length) = some n)
    (hc : vwCl[ci]? = some (C, T, N)) (he : ah b = some (.inr (ci, fs))) (hn : As.length = n) (hsize : ls.size = nL) (hstack : st0 = As.reverse ++ .ref b :: rest) (hcat : (rest.map fun v => v.category).sum ≤ 8) (hdg : decode cc pc = .ok (.invokevirtual index, 3)) (hR : hRm rm' R maxL' mc ms cells slots)
    (kk : ∀ (r : Option Value) (ah' : hA) (H1 : Heap) (locs1 : List Loc) (st1 : List Value), post r ah' → hW D ah0 H0 ah' H1 locs1 → st1 = r.toList ++ rest → W p l e R s m args below meth c H1 locs1 (cells + mc) (slots + ms) Q (F0 m (pc + 3) ls st1)) : W p l e R s m args below meth c H locs cells slots Q (F0 m pc ls st0) :=
  h_call (va_runV S hM (cwV n S.2.2.2.2 (h_gV km ki ks kn ko) rfl hR.1 hR.2.1 hd ⟨hR.2.2.1, hR.2.2.2.1⟩) (h_preV hK hw hc he) rfl hn hsize hstack (lv_room hcat) hdg hR.2.2.2.2) hw kk
theorem h_callS {own : String} {index nL n maxL' mc ms : Nat} {y : MethodName} {cc' : ByteArray} {ret' : Option FieldType} {rm' : Room} {As st0 : List Value} {post : Option Value → hA → Prop}
    (S : CallFix p m c cc nL s args hAll own) (hK : hC D dT s) (hw : hW D ah0 H0 ah H locs) (hM : hMet l y cc' maxL' ret' rm' D dT As ah H.size post mc ms)
    (ko : Cond.code y cc' maxL' ret' ∈ hAll) (km : Cond.methodLink own index y ∈ hAll) (kt : Cond.static y ∈ hAll) (kn : Cond.initialized y.cls ∈ hAll)
    (hd : y.cls ≠ "java/lang/invoke/MethodHandle" ∧ y.cls ≠ "java/lang/invoke/VarHandle" ∧ (parseMethodDescriptor y.desc).map (fun d => d.parameters.length) = some n)
    (hn : As.length = n) (hsize : ls.size = nL) (hstack : st0 = As.reverse ++ rest) (hcat : (rest.map fun v => v.category).sum ≤ 8) (hdg : decode cc pc = .ok (.invokestatic index, 3)) (hR : hRm rm' R maxL' mc ms cells slots)
    (kk : ∀ (r : Option Value) (ah' : hA) (H1 : Heap) (locs1 : List Loc) (st1 : List Value), post r ah' → hW D ah0 H0 ah' H1 locs1 → st1 = r.toList ++ rest → W p l e R s m args below meth c H1 locs1 (cells + mc) (slots + ms) Q (F0 m (pc + 3) ls st1)) : W p l e R s m args below meth c H locs cells slots Q (F0 m pc ls st0) :=
  h_call (va_runS S hM (va_cwS n S.2.2.2.2 (h_gS km kt kn ko) rfl hR.1 hR.2.1 hd ⟨hR.2.2.1, hR.2.2.2.1⟩) (h_preS hK hw) rfl hn hsize hstack (lv_room hcat) hdg hR.2.2.2.2) hw kk
theorem h_callI {own : String} {index nL n b maxL' mc ms : Nat} {y : MethodName} {cc' : ByteArray} {rm' : Room} {As st0 : List Value} {post : Option Value → hA → Prop}
    (S : CallFix p m c cc nL s args hAll own) (hK : hC D dT s) (hw : hW D ah0 H0 ah H locs) (hM : hMet l y cc' maxL' none rm' D dT (.ref b :: As) ah H.size post mc ms)
    (ko : Cond.code y cc' maxL' none ∈ hAll) (km : Cond.methodLink own index y ∈ hAll) (ki : Cond.instanceMethod y ∈ hAll) (kn : Cond.initialized y.cls ∈ hAll) (hy1 : y.name = "<init>")
    (hd : y.cls ≠ "java/lang/invoke/MethodHandle" ∧ y.cls ≠ "java/lang/invoke/VarHandle" ∧ (parseMethodDescriptor y.desc).map (fun d => d.parameters.length) = some n)
    (hn : As.length = n) (hsize : ls.size = nL) (hstack : st0 = As.reverse ++ .ref b :: rest) (hcat : (rest.map fun v => v.category).sum ≤ 8) (hdg : decode cc pc = .ok (.invokespecial index, 3)) (hR : hRm rm' R maxL' mc ms cells slots)
    (kk : ∀ (r : Option Value) (ah' : hA) (H1 : Heap) (locs1 : List Loc) (st1 : List Value), post r ah' → hW D ah0 H0 ah' H1 locs1 → st1 = r.toList ++ rest → W p l e R s m args below meth c H1 locs1 (cells + mc) (slots + ms) Q (F0 m (pc + 3) ls st1)) : W p l e R s m args below meth c H locs cells slots Q (F0 m pc ls st0) :=
  h_call (va_runI S hM (cwI n S.2.2.2.2 (hAll_c ko) rfl hR.1 hR.2.1 (S.2.2.2.2 _ kn) (S.2.2.2.2 _ km) (S.2.2.2.2 _ ki) hy1 hd ⟨hR.2.2.1, hR.2.2.2.1⟩) (h_preS hK hw) rfl hn hsize hstack (lv_room hcat) hdg hR.2.2.2.2) hw kk
theorem h_callIN {own host : String} {index nL n b maxL' mc ms : Nat} {y : MethodName} {cc' : ByteArray} {rm' : Room} {As st0 : List Value} {post : Option Value → hA → Prop}
    (S : CallFix p m c cc nL s args hAll own) (hK : hC D dT s) (hw : hW D ah0 H0 ah H locs) (hM : hMet l y cc' maxL' none rm' D dT (.ref b :: As) ah H.size post mc ms)
    (ko : Cond.code y cc' maxL' none ∈ hAll) (km : Cond.methodLinkNest own index y host ∈ hN) (ki : Cond.instanceMethod y ∈ hAll) (kn : Cond.initialized y.cls ∈ hAll) (hy1 : y.name = "<init>")
    (hd : y.cls ≠ "java/lang/invoke/MethodHandle" ∧ y.cls ≠ "java/lang/invoke/VarHandle" ∧ (parseMethodDescriptor y.desc).map (fun d => d.parameters.length) = some n)
    (hn : As.length = n) (hsize : ls.size = nL) (hstack : st0 = As.reverse ++ .ref b :: rest) (hcat : (rest.map fun v => v.category).sum ≤ 8) (hdg : decode cc pc = .ok (.invokespecial index, 3)) (hR : hRm rm' R maxL' mc ms cells slots)
    (kk : ∀ (r : Option Value) (ah' : hA) (H1 : Heap) (locs1 : List Loc) (st1 : List Value), post r ah' → hW D ah0 H0 ah' H1 locs1 → st1 = r.toList ++ rest → W p l e R s m args below meth c H1 locs1 (cells + mc) (slots + ms) Q (F0 m (pc + 3) ls st1)) : W p l e R s m args below meth c H locs cells slots Q (F0 m pc ls st0) :=
  h_call (va_runIN S hM ⟨va_cnB n S.2.2.2.2 (hAll_c ko) rfl hR.1 hR.2.1 (hK.2.1 _ km) (S.2.2.2.2 _ kn) hd ⟨hR.2.2.1, hR.2.2.2.1⟩, hy1, S.2.2.2.2 _ ki⟩ (h_preS hK hw) rfl hn hsize hstack (lv_room hcat) hdg hR.2.2.2.2) hw kk
end HCALLS
/-- what a body has at its entry -/
def hB (p : Program) (s : State) (m : MethodId) (args : Array Value) (meth : Method) (c : Code) (cc : ByteArray) (maxL : Nat) (ret : Option FieldType) (y : MethodName) (D : va_G) (dT : Nat → ClassId) : Prop :=
  p.tables.exec = Jvm.exec ∧ c.code = cc ∧ c.maxLocals = maxL ∧ meth.sig.returnType = ret ∧ (∀ w ∈ hAll, w.before args s = true) ∧ s.vm.findClass y.cls = some m.cls ∧ meth.locks = false ∧ meth.name = y.name ∧ hC D dT s
theorem h_met {l : Launch} {y : MethodName} {rm : Room} {D : va_G} {dT : Nat → ClassId} {av : List Value} {ah : hA} {sz : Nat} {post : Option Value → hA → Prop} {mc ms : Nat} {cc : ByteArray} {maxL : Nat} {ret : Option FieldType}
    (hy : plainName y.cls = true) (hlen : (lg_sl av).length ≤ maxL)
    (body : ∀ (p : Program) (e : Env) (s : State) (m : MethodId) (below : List Frame) (meth : Method) (c : Code) (ls : Array Slot) (R : Room) (Q : State → Prop) (args : Array Value), args = av.toArray → R = rm → Q = MQ below (hPost D ah sz post) args s mc ms (hFr ah sz) → hB p s m args meth c cc maxL ret y D dT → lv_has ls maxL (lv_args 0 av) → s.heap.size = sz → hW D ah s.heap ah s.heap [] →
      W p l e R s m args below meth c s.heap [] 0 0 Q (F0 m 0 ls [])) : hMet l y cc maxL ret rm D dT av ah sz post mc ms := by
  refine Met.ofW hy rfl ?_
  intro p e s m args below meth c s₁ B hml hv
  obtain ⟨rfl, hsz, hh, hK⟩ := hv
  have hl := lv_entry av (n := maxL) hlen
  rw [lg_entry_eq]
  generalize (lg_sl av ++ List.replicate (maxL - (lg_sl av).length) Slot.unset).toArray = ls at hl ⊢
  have hts := atoms_spec (ws := Cond.code y cc maxL ret :: hAll) B.pre
  exact body p e s m below meth c ls _ _ _ rfl rfl rfl ⟨B.exec, B.bytes, hml, B.returns, fun w h => hts w (List.mem_cons_of_mem _ h), findClass_of_methodNamed B.named, B.notSynchronized, (name_of_methodNamed B.named B.method).1, hK⟩ hl hsz (hW.rf hh)
end
section
/-! small laws: booleans as ints, compares of longs, indexes, addresses apart, new objects' fields -/
def bI (b : Bool) : Int32 := if b then 1 else 0
theorem bI_0 {b : Bool} : bI b = 0 ↔ b = false := by cases b <;> decide
theorem bI_01 (b : Bool) : bI b = 0 ∨ bI b = 1 := by cases b <;> decide
theorem bI_v {v : Int32} {b : Bool} (h : v = bI b) : v = 0 ∨ v = 1 := by rw [h]; exact bI_01 b
theorem bI_nar (b : Bool) : narrow .boolean (.int (bI b)) = .int (bI b) := by cases b <;> rfl
theorem bI_fit (b : Bool) : fits .boolean (.int (bI b)) = true := by cases b <;> rfl
theorem bI_if {P : Prop} [Decidable P] {a b : Bool} : bI (if P then a else b) = if P then bI a else bI b := by by_cases h : P <;> simp [h]
theorem bI_t : bI true = 1 := rfl
theorem bI_f : bI false = 0 := rfl
theorem bI_ite {P : Prop} [Decidable P] : (if P then (1 : Int32) else 0) = bI (decide P) := by by_cases h : P <;> simp [bI, h]
theorem lgc_eq {x y : Int64} : lg_cmp x y = 0 ↔ x = y := by
  unfold lg_cmp
  by_cases h1 : y < x
  · simp only [if_pos h1]
    exact iff_of_false (by decide) (fun h => by rw [h] at h1; exact absurd h1 (Int64.lt_irrefl))
  · simp only [if_neg h1]
    by_cases h2 : x = y
    · simp [h2]
    · simp only [if_neg h2]
      exact iff_of_false (by decide) h2
theorem lgc_gt {x y : Int64} : 0 < lg_cmp x y ↔ y < x := by
  unfold lg_cmp
  by_cases h1 : y < x
  · simp only [if_pos h1]
    exact iff_of_true (by decide) h1
  · simp only [if_neg h1]
    by_cases h2 : x = y
    · simp only [if_pos h2]; exact iff_of_false (by decide) h1
    · simp only [if_neg h2]; exact iff_of_false (by decide) h1
theorem lgc_le {x y : Int64} : lg_cmp x y ≤ 0 ↔ x ≤ y := by
  rw [← Int32.not_lt, lgc_gt, Int64.not_lt]
theorem lgc_lt {x y : Int64} : lg_cmp x y < 0 ↔ x < y := by
  unfold lg_cmp
  by_cases h1 : y < x
  · simp only [if_pos h1]
    exact iff_of_false (by decide) (fun h => absurd (Int64.lt_trans h h1) Int64.lt_irrefl)
  · simp only [if_neg h1]
    by_cases h2 : x = y
    · simp only [if_pos h2]
      exact iff_of_false (by decide) (fun h => by rw [h2] at h; exact absurd h Int64.lt_irrefl)
    · simp only [if_neg h2]
      exact iff_of_true (by decide) (Int64.lt_iff_le_and_ne.mpr ⟨Int64.not_lt.mp h1, h2⟩)
theorem lgc_ge {x y : Int64} : 0 ≤ lg_cmp x y ↔ y ≤ x := by
  rw [← Int32.not_lt, lgc_lt, Int64.not_lt]
theorem nI_c (n c : Nat) : nI n + nI c = nI (n + c) := nI_add n c
theorem nI_s (n c : Nat) (h : c ≤ n) : nI n - nI c = nI (n - c) := pk_sub h
theorem nI_mul (n c : Nat) : nI c * nI n = nI (c * n) := pk_mul c n
theorem nI_ltx {a b : Nat} {x y : Int32} (hx : x = nI a) (hy : y = nI b) (ha : a < 2 ^ 31) (hb : b < 2 ^ 31) : x < y ↔ a < b := by rw [hx, hy]; exact nI_ltI ha hb
theorem nI_lex {a b : Nat} {x y : Int32} (hx : x = nI a) (hy : y = nI b) (ha : a < 2 ^ 31) (hb : b < 2 ^ 31) : x ≤ y ↔ a ≤ b := by rw [hx, hy]; exact nI_leI ha hb
theorem nI_eqx {a b : Nat} {x y : Int32} (hx : x = nI a) (hy : y = nI b) (ha : a < 2 ^ 31) (hb : b < 2 ^ 31) : x = y ↔ a = b := by rw [hx, hy]; exact nI_eq ha hb
theorem h_ne {ah : hA} {a b : Nat} {e e' : va_E} (h1 : ah a = some e) (h2 : ah b = some e') (hn : e ≠ e') : a ≠ b := fun h => hn (Option.some.inj (h1.symm.trans ((congrArg ah h).trans h2)))
theorem h_fr {ah : hA} {b q : Nat} {e : va_E} (h1 : ah b = some e) (h2 : ah q = none) : b ≠ q := fun h => by rw [h, h2] at h1; cases h1
theorem hdef_X0 : ∀ j, j < 4 → defaultValue (tyX0 j) = vp_V [.int 0, .int 0, .int 0, .int 0] j := by
  intro j hj
  rcases (show j = 0 ∨ j = 1 ∨ j = 2 ∨ j = 3 by omega) with rfl | rfl | rfl | rfl <;> rfl
theorem hdef_X1 : ∀ j, j < 2 → defaultValue (tyX1 j) = vp_V [.int 0, .null] j := by
  intro j hj
  rcases (show j = 0 ∨ j = 1 by omega) with rfl | rfl <;> rfl
theorem hdef_X2 : ∀ j, j < 4 → defaultValue (tyX2 j) = vp_V [.null, .null, .null, .int 0] j := by
  intro j hj
  rcases (show j = 0 ∨ j = 1 ∨ j = 2 ∨ j = 3 by omega) with rfl | rfl | rfl | rfl <;> rfl
theorem hdef_X3 : ∀ j, j < 2 → defaultValue (tyX3 j) = vp_V [.int 0, .int 0] j := by
  intro j hj
  rcases (show j = 0 ∨ j = 1 by omega) with rfl | rfl <;> rfl
theorem hdef_X4 : ∀ j, j < 2 → defaultValue (tyX4 j) = vp_V [.int 0, .null] j := by
  intro j hj
  rcases (show j = 0 ∨ j = 1 by omega) with rfl | rfl <;> rfl
theorem hdef_X5 : ∀ j, j < 7 → defaultValue (tyX5 j) = vp_V [.int 0, .int 0, .null, .null, .int 0, .int 0, .int 0] j := by
  intro j hj
  rcases (show j = 0 ∨ j = 1 ∨ j = 2 ∨ j = 3 ∨ j = 4 ∨ j = 5 ∨ j = 6 by omega) with rfl | rfl | rfl | rfl | rfl | rfl | rfl <;> rfl
theorem hdef_X6 : ∀ j, j < 2 → defaultValue (tyX6 j) = vp_V [.null, .int 0] j := by
  intro j hj
  rcases (show j = 0 ∨ j = 1 by omega) with rfl | rfl <;> rfl
theorem hdef_X7 : ∀ j, j < 8 → defaultValue (tyX7 j) = vp_V [.null, .int 0, .int 0, .int 0, .int 0, .int 0, .null, .null] j := by
  intro j hj
  rcases (show j = 0 ∨ j = 1 ∨ j = 2 ∨ j = 3 ∨ j = 4 ∨ j = 5 ∨ j = 6 ∨ j = 7 by omega) with rfl | rfl | rfl | rfl | rfl | rfl | rfl | rfl <;> rfl
theorem hdef_X8 : ∀ j, j < 8 → defaultValue (tyX8 j) = vp_V [.null, .null, .null, .null, .null, .null, .null, .int 0] j := by
  intro j hj
  rcases (show j = 0 ∨ j = 1 ∨ j = 2 ∨ j = 3 ∨ j = 4 ∨ j = 5 ∨ j = 6 ∨ j = 7 by omega) with rfl | rfl | rfl | rfl | rfl | rfl | rfl | rfl <;> rfl
theorem hdef_X9 : ∀ j, j < 4 → defaultValue (tyX9 j) = vp_V [.null, .null, .null, .int 0] j := by
  intro j hj
  rcases (show j = 0 ∨ j = 1 ∨ j = 2 ∨ j = 3 by omega) with rfl | rfl | rfl | rfl <;> rfl
theorem hdef_X10 : ∀ j, j < 26 → defaultValue (tyX10 j) = vp_V [.int 0, .int 0, .int 0, .int 0, .int 0, .null, .null, .null, .null, .null, .null, .null, .null, .null, .null, .null, .int 0, .null, .null, .int 0, .int 0, .null, .int 0, .int 0, .int 0, .int 0] j := by
  intro j hj
  rcases (show j = 0 ∨ j = 1 ∨ j = 2 ∨ j = 3 ∨ j = 4 ∨ j = 5 ∨ j = 6 ∨ j = 7 ∨ j = 8 ∨ j = 9 ∨ j = 10 ∨ j = 11 ∨ j = 12 ∨ j = 13 ∨ j = 14 ∨ j = 15 ∨ j = 16 ∨ j = 17 ∨ j = 18 ∨ j = 19 ∨ j = 20 ∨ j = 21 ∨ j = 22 ∨ j = 23 ∨ j = 24 ∨ j = 25 by omega) with rfl | rfl | rfl | rfl | rfl | rfl | rfl | rfl | rfl | rfl | rfl | rfl | rfl | rfl | rfl | rfl | rfl | rfl | rfl | rfl | rfl | rfl | rfl | rfl | rfl | rfl <;> rfl
theorem nI_cl {x : Int32} (h : ¬ x < 0) : x = nI x.toNatClampNeg := by
  obtain ⟨j, hj, rfl⟩ := nI_of h
  rw [nI_clamp hj]
theorem nI_cll {x : Int32} {n : Nat} (h : ¬ x < 0) (h2 : ¬ nI n ≤ x) (hn : n < 2 ^ 31) : x.toNatClampNeg < n := by
  obtain ⟨j, hj, rfl⟩ := nI_of h
  rw [nI_clamp hj]
  exact Nat.not_le.mp (fun q => h2 (nI_le q hj))
end
section
/-! ShapeJudge$Box -/
def iMin (a b : Int32) : Int32 := if b < a then b else a
def iMax (a b : Int32) : Int32 := if a < b then b else a
def bxHas (bx0 by0 bx1 by1 x y : Int32) : Bool := (if x < bx0 then false else (if bx1 < x then false else (if y < by0 then false else (if by1 < y then false else true))))
set_option maxHeartbeats 4000000 in
set_option maxRecDepth 100000 in
theorem c_X0_has (l : Launch) (D : va_G) (dT : Nat → ClassId) (ah : hA) (sz : Nat) (b : Nat) (bx0 by0 bx1 by1 : Int32) (he : ah b = some (.inr (0, [.int bx0, .int by0, .int bx1, .int by1]))) (x y : Int32) : hMet l yX0_has cX0_has 3 (some .boolean) ({ frames := 0, cells := 0, slots := 0, locals := 0 }) D dT [.ref b, .int x, .int y] ah sz (fun r ah2 => r = some (.int (bI (bxHas bx0 by0 bx1 by1 x y))) ∧ ah = ah2) 0 0 := by
  refine h_met (by decide) (Nat.le_of_ble_eq_true rfl) ?_
  intro p e s m below meth c ls R Q args hav hR hQ hB hl hsz hw
  obtain ⟨hx, hb, hml, hr, hts, hown, hlk, hin, hK⟩ := hB
  have hown : s.vm.findClass RX0 = some m.cls := hown
  have hl : lv_has ls 3 [(0, .ref b), (1, .int x), (2, .int y)] := hl
  refine lv_iload_n hx hb dX0_has_0 rfl (lv_at hl 1 rfl) ?_
  refine lv_aload_n hx hb dX0_has_1 rfl (lv_at hl 0 rfl) ?_
  refine h_get (ci := 0) (v := .int bx0) (C := RX0) (T := TX0) (N := 4) hx hb hts kl_X0 hown hK hw he rfl 0 (by decide) (hts _ kf_X0_10) rfl rfl dX0_has_2 ?_
  have J_6 : ∀ (v_5 : Int32) (ls : Array Slot), lv_has ls 3 [(0, .ref b), (1, .int x), (2, .int y)] → v_5 = (if x < bx0 then 0 else (if bx1 < x then 0 else (if y < by0 then 0 else (if by1 < y then 0 else 1)))) → W p l e R s m args below meth c s.heap [] (0) (0) Q (F0 m 37 ls [.int v_5]) := by
    intro v_5 ls hl ev_5
    have hv : v_5 = bI (bxHas bx0 by0 bx1 by1 x y) := by
      subst ev_5
      unfold bxHas
      simp only [bI_if, bI_t, bI_f]
      all_goals rfl
    rw [hQ]
    exact h_zret hx hb hr hlk hsz hw (by simp) (by simp) dX0_has_37 (bI_v hv) ⟨congrArg (fun z => some (Value.int z)) hv, rfl⟩
  refine lv_icmp_lt (tgt := 36) hx hb dX0_has_5 (by decide) (fun c_1 => ?_) (fun c_1 => ?_)
  · skip
    refine lv_iconst (v := 0) hx hb dX0_has_36 (by decide) ?_
    exact J_6 0 ls (lv_sub hl [0, 1, 2] rfl) (by rw [if_pos c_1])
  · skip
    refine lv_iload_n hx hb dX0_has_8 rfl (lv_at hl 1 rfl) ?_
    refine lv_aload_n hx hb dX0_has_9 rfl (lv_at hl 0 rfl) ?_
    refine h_get (ci := 0) (v := .int bx1) (C := RX0) (T := TX0) (N := 4) hx hb hts kl_X0 hown hK hw he rfl 2 (by decide) (hts _ kf_X0_20) rfl rfl dX0_has_10 ?_
    refine lv_icmp_gt (tgt := 36) hx hb dX0_has_13 (by decide) (fun c_2 => ?_) (fun c_2 => ?_)
    · skip
      refine lv_iconst (v := 0) hx hb dX0_has_36 (by decide) ?_
      exact J_6 0 ls (lv_sub hl [0, 1, 2] rfl) (by rw [if_neg c_1, if_pos c_2])
    · skip
      refine lv_iload_n hx hb dX0_has_16 rfl (lv_at hl 2 rfl) ?_
      refine lv_aload_n hx hb dX0_has_17 rfl (lv_at hl 0 rfl) ?_
      refine h_get (ci := 0) (v := .int by0) (C := RX0) (T := TX0) (N := 4) hx hb hts kl_X0 hown hK hw he rfl 1 (by decide) (hts _ kf_X0_16) rfl rfl dX0_has_18 ?_
      refine lv_icmp_lt (tgt := 36) hx hb dX0_has_21 (by decide) (fun c_3 => ?_) (fun c_3 => ?_)
      · skip
        refine lv_iconst (v := 0) hx hb dX0_has_36 (by decide) ?_
        exact J_6 0 ls (lv_sub hl [0, 1, 2] rfl) (by rw [if_neg c_1, if_neg c_2, if_pos c_3])
      · skip
        refine lv_iload_n hx hb dX0_has_24 rfl (lv_at hl 2 rfl) ?_
        refine lv_aload_n hx hb dX0_has_25 rfl (lv_at hl 0 rfl) ?_
        refine h_get (ci := 0) (v := .int by1) (C := RX0) (T := TX0) (N := 4) hx hb hts kl_X0 hown hK hw he rfl 3 (by decide) (hts _ kf_X0_23) rfl rfl dX0_has_26 ?_
        refine lv_icmp_gt (tgt := 36) hx hb dX0_has_29 (by decide) (fun c_4 => ?_) (fun c_4 => ?_)
        · skip
          refine lv_iconst (v := 0) hx hb dX0_has_36 (by decide) ?_
          exact J_6 0 ls (lv_sub hl [0, 1, 2] rfl) (by rw [if_neg c_1, if_neg c_2, if_neg c_3, if_pos c_4])
        · skip
          refine lv_iconst (v := 1) hx hb dX0_has_32 (by decide) ?_
          refine lv_goto (tgt := 37) hx hb dX0_has_33 (by decide) ?_
          exact J_6 1 ls (lv_sub hl [0, 1, 2] rfl) (by rw [if_neg c_1, if_neg c_2, if_neg c_3, if_neg c_4])

def bxApart (bx0 by0 bx1 by1 bx02 by02 bx12 by12 : Int32) : Bool := (if bx12 < bx0 then true else (if bx1 < bx02 then true else (if by12 < by0 then true else (if by02 ≤ by1 then false else true))))
set_option maxHeartbeats 4000000 in
set_option maxRecDepth 100000 in
theorem c_X0_isApartFrom (l : Launch) (D : va_G) (dT : Nat → ClassId) (ah : hA) (sz : Nat) (b : Nat) (bx0 by0 bx1 by1 : Int32) (he : ah b = some (.inr (0, [.int bx0, .int by0, .int bx1, .int by1]))) (b2 : Nat) (bx02 by02 bx12 by12 : Int32) (he2 : ah b2 = some (.inr (0, [.int bx02, .int by02, .int bx12, .int by12]))) : hMet l yX0_isApartFrom cX0_isApartFrom 2 (some .boolean) ({ frames := 0, cells := 0, slots := 0, locals := 0 }) D dT [.ref b, .ref b2] ah sz (fun r ah2 => r = some (.int (bI (bxApart bx0 by0 bx1 by1 bx02 by02 bx12 by12))) ∧ ah = ah2) 0 0 := by
  refine h_met (by decide) (Nat.le_of_ble_eq_true rfl) ?_
  intro p e s m below meth c ls R Q args hav hR hQ hB hl hsz hw
  obtain ⟨hx, hb, hml, hr, hts, hown, hlk, hin, hK⟩ := hB
  have hown : s.vm.findClass RX0 = some m.cls := hown
  have hl : lv_has ls 2 [(0, .ref b), (1, .ref b2)] := hl
  refine lv_aload_n hx hb dX0_isApartFrom_0 rfl (lv_at hl 0 rfl) ?_
  refine h_get (ci := 0) (v := .int bx0) (C := RX0) (T := TX0) (N := 4) hx hb hts kl_X0 hown hK hw he rfl 0 (by decide) (hts _ kf_X0_10) rfl rfl dX0_isApartFrom_1 ?_
  refine lv_aload_n hx hb dX0_isApartFrom_4 rfl (lv_at hl 1 rfl) ?_
  refine h_get (ci := 0) (v := .int bx12) (C := RX0) (T := TX0) (N := 4) hx hb hts kl_X0 hown hK hw he2 rfl 2 (by decide) (hts _ kf_X0_20) rfl rfl dX0_isApartFrom_5 ?_
  have J_6 : ∀ (v_5 : Int32) (ls : Array Slot), lv_has ls 2 [(0, .ref b), (1, .ref b2)] → v_5 = (if bx12 < bx0 then 1 else (if bx1 < bx02 then 1 else (if by12 < by0 then 1 else (if by02 ≤ by1 then 0 else 1)))) → W p l e R s m args below meth c s.heap [] (0) (0) Q (F0 m 49 ls [.int v_5]) := by
    intro v_5 ls hl ev_5
    have hv : v_5 = bI (bxApart bx0 by0 bx1 by1 bx02 by02 bx12 by12) := by
      subst ev_5
      unfold bxApart
      simp only [bI_if, bI_t, bI_f]
      all_goals rfl
    rw [hQ]
    exact h_zret hx hb hr hlk hsz hw (by simp) (by simp) dX0_isApartFrom_49 (bI_v hv) ⟨congrArg (fun z => some (Value.int z)) hv, rfl⟩
  refine lv_icmp_gt (tgt := 44) hx hb dX0_isApartFrom_8 (by decide) (fun c_1 => ?_) (fun c_1 => ?_)
  · skip
    refine lv_iconst (v := 1) hx hb dX0_isApartFrom_44 (by decide) ?_
    refine lv_goto (tgt := 49) hx hb dX0_isApartFrom_45 (by decide) ?_
    exact J_6 1 ls (lv_sub hl [0, 1] rfl) (by rw [if_pos c_1])
  · skip
    refine lv_aload_n hx hb dX0_isApartFrom_11 rfl (lv_at hl 0 rfl) ?_
    refine h_get (ci := 0) (v := .int bx1) (C := RX0) (T := TX0) (N := 4) hx hb hts kl_X0 hown hK hw he rfl 2 (by decide) (hts _ kf_X0_20) rfl rfl dX0_isApartFrom_12 ?_
    refine lv_aload_n hx hb dX0_isApartFrom_15 rfl (lv_at hl 1 rfl) ?_
    refine h_get (ci := 0) (v := .int bx02) (C := RX0) (T := TX0) (N := 4) hx hb hts kl_X0 hown hK hw he2 rfl 0 (by decide) (hts _ kf_X0_10) rfl rfl dX0_isApartFrom_16 ?_
    refine lv_icmp_lt (tgt := 44) hx hb dX0_isApartFrom_19 (by decide) (fun c_2 => ?_) (fun c_2 => ?_)
    · skip
      refine lv_iconst (v := 1) hx hb dX0_isApartFrom_44 (by decide) ?_
      refine lv_goto (tgt := 49) hx hb dX0_isApartFrom_45 (by decide) ?_
      exact J_6 1 ls (lv_sub hl [0, 1] rfl) (by rw [if_neg c_1, if_pos c_2])
    · skip
      refine lv_aload_n hx hb dX0_isApartFrom_22 rfl (lv_at hl 0 rfl) ?_
      refine h_get (ci := 0) (v := .int by0) (C := RX0) (T := TX0) (N := 4) hx hb hts kl_X0 hown hK hw he rfl 1 (by decide) (hts _ kf_X0_16) rfl rfl dX0_isApartFrom_23 ?_
      refine lv_aload_n hx hb dX0_isApartFrom_26 rfl (lv_at hl 1 rfl) ?_
      refine h_get (ci := 0) (v := .int by12) (C := RX0) (T := TX0) (N := 4) hx hb hts kl_X0 hown hK hw he2 rfl 3 (by decide) (hts _ kf_X0_23) rfl rfl dX0_isApartFrom_27 ?_
      refine lv_icmp_gt (tgt := 44) hx hb dX0_isApartFrom_30 (by decide) (fun c_3 => ?_) (fun c_3 => ?_)
      · skip
        refine lv_iconst (v := 1) hx hb dX0_isApartFrom_44 (by decide) ?_
        refine lv_goto (tgt := 49) hx hb dX0_isApartFrom_45 (by decide) ?_
        exact J_6 1 ls (lv_sub hl [0, 1] rfl) (by rw [if_neg c_1, if_neg c_2, if_pos c_3])
      · skip
        refine lv_aload_n hx hb dX0_isApartFrom_33 rfl (lv_at hl 0 rfl) ?_
        refine h_get (ci := 0) (v := .int by1) (C := RX0) (T := TX0) (N := 4) hx hb hts kl_X0 hown hK hw he rfl 3 (by decide) (hts _ kf_X0_23) rfl rfl dX0_isApartFrom_34 ?_
        refine lv_aload_n hx hb dX0_isApartFrom_37 rfl (lv_at hl 1 rfl) ?_
        refine h_get (ci := 0) (v := .int by02) (C := RX0) (T := TX0) (N := 4) hx hb hts kl_X0 hown hK hw he2 rfl 1 (by decide) (hts _ kf_X0_16) rfl rfl dX0_isApartFrom_38 ?_
        refine lv_icmp_ge (tgt := 48) hx hb dX0_isApartFrom_41 (by decide) (fun c_4 => ?_) (fun c_4 => ?_)
        · skip
          refine lv_iconst (v := 0) hx hb dX0_isApartFrom_48 (by decide) ?_
          exact J_6 0 ls (lv_sub hl [0, 1] rfl) (by rw [if_neg c_1, if_neg c_2, if_neg c_3, if_pos c_4])
        · skip
          refine lv_iconst (v := 1) hx hb dX0_isApartFrom_44 (by decide) ?_
          refine lv_goto (tgt := 49) hx hb dX0_isApartFrom_45 (by decide) ?_
          exact J_6 1 ls (lv_sub hl [0, 1] rfl) (by rw [if_neg c_1, if_neg c_2, if_neg c_3, if_neg c_4])

set_option maxHeartbeats 4000000 in
set_option maxRecDepth 100000 in
theorem c_X0_init (l : Launch) (D : va_G) (dT : Nat → ClassId) (ah : hA) (sz : Nat) (b : Nat) (bx0 by0 bx1 by1 : Int32) (he : ah b = some (.inr (0, [.int bx0, .int by0, .int bx1, .int by1]))) : hMet l yX0_init cX0_init 1 none ({ frames := 1, cells := 0, slots := 0, locals := 13 }) D dT [.ref b] ah sz (fun r ah2 => r = none ∧ ah2 = hup ah b (.inr (0, [.int 2147483647, .int 2147483647, .int (-2147483648), .int (-2147483648)]))) 0 0 := by
  refine h_met (by decide) (Nat.le_of_ble_eq_true rfl) ?_
  intro p e s m below meth c ls R Q args hav hR hQ hB hl hsz hw
  obtain ⟨hx, hb, hml, hr, hts, hown, hlk, hin, hK⟩ := hB
  have hown : s.vm.findClass RX0 = some m.cls := hown
  have hl : lv_has ls 1 [(0, .ref b)] := hl
  refine lv_aload_n hx hb dX0_init_0 rfl (lv_at hl 0 rfl) ?_
  refine W.objInit hx hb hown (hts _ km_X0_1) (hts _ ki_obj) (hts _ ko_obj) rfl (by rw [hml]; exact hl.1) rfl dX0_init_1 (by rw [hR]; exact Nat.le_of_ble_eq_true rfl) (by rw [hR]; exact Nat.le_of_ble_eq_true rfl) ?_
  refine W.eq (g2 := F0 m 4 ls []) rfl ?_
  refine lv_aload_n hx hb dX0_init_4 rfl (lv_at hl 0 rfl) ?_
  refine lv_ldc (v := 2147483647) hx hb hown (hts _ kk_X0_9) dX0_init_5 ?_
  refine h_put (ci := 0) (v := .int 2147483647) (C := RX0) (T := TX0) (N := 4) hx hb hts kl_X0 tyX0 tyX0_ok nmX0 hown hK hw he rfl 0 (by decide) (hts _ kf_X0_10) rfl rfl (tyX0_ok 0 (by decide)) rfl rfl (Nat.le_of_ble_eq_true rfl) dX0_init_7 (fun H_1 L_2 hw => ?_)
  obtain ⟨ah_3, eah_3⟩ : ∃ z : hA, z = hup ah b (.inr (0, [.int 2147483647, .int by0, .int bx1, .int by1])) := ⟨_, rfl⟩
  have hw : hW D ah s.heap ah_3 H_1 L_2 := by rw [eah_3]; exact hw
  have hc_4 : ah_3 b = some (.inr (0, [.int 2147483647, .int by0, .int bx1, .int by1])) := by rw [eah_3]; exact hup_s
  refine lv_aload_n hx hb dX0_init_10 rfl (lv_at hl 0 rfl) ?_
  refine lv_ldc (v := 2147483647) hx hb hown (hts _ kk_X0_9) dX0_init_11 ?_
  refine h_put (ci := 0) (v := .int 2147483647) (C := RX0) (T := TX0) (N := 4) hx hb hts kl_X0 tyX0 tyX0_ok nmX0 hown hK hw hc_4 rfl 1 (by decide) (hts _ kf_X0_16) rfl rfl (tyX0_ok 1 (by decide)) rfl rfl (Nat.le_of_ble_eq_true rfl) dX0_init_13 (fun H_5 L_6 hw => ?_)
  obtain ⟨ah_7, eah_7⟩ : ∃ z : hA, z = hup ah_3 b (.inr (0, [.int 2147483647, .int 2147483647, .int bx1, .int by1])) := ⟨_, rfl⟩
  have hw : hW D ah s.heap ah_7 H_5 L_6 := by rw [eah_7]; exact hw
  have hc_8 : ah_7 b = some (.inr (0, [.int 2147483647, .int 2147483647, .int bx1, .int by1])) := by rw [eah_7]; exact hup_s
  refine lv_aload_n hx hb dX0_init_16 rfl (lv_at hl 0 rfl) ?_
  refine lv_ldc (v := (-2147483648)) hx hb hown (hts _ kk_X0_19) dX0_init_17 ?_
  refine h_put (ci := 0) (v := .int (-2147483648)) (C := RX0) (T := TX0) (N := 4) hx hb hts kl_X0 tyX0 tyX0_ok nmX0 hown hK hw hc_8 rfl 2 (by decide) (hts _ kf_X0_20) rfl rfl (tyX0_ok 2 (by decide)) rfl rfl (Nat.le_of_ble_eq_true rfl) dX0_init_19 (fun H_9 L_10 hw => ?_)
  obtain ⟨ah_11, eah_11⟩ : ∃ z : hA, z = hup ah_7 b (.inr (0, [.int 2147483647, .int 2147483647, .int (-2147483648), .int by1])) := ⟨_, rfl⟩
  have hw : hW D ah s.heap ah_11 H_9 L_10 := by rw [eah_11]; exact hw
  have hc_12 : ah_11 b = some (.inr (0, [.int 2147483647, .int 2147483647, .int (-2147483648), .int by1])) := by rw [eah_11]; exact hup_s
  refine lv_aload_n hx hb dX0_init_22 rfl (lv_at hl 0 rfl) ?_
  refine lv_ldc (v := (-2147483648)) hx hb hown (hts _ kk_X0_19) dX0_init_23 ?_
  refine h_put (ci := 0) (v := .int (-2147483648)) (C := RX0) (T := TX0) (N := 4) hx hb hts kl_X0 tyX0 tyX0_ok nmX0 hown hK hw hc_12 rfl 3 (by decide) (hts _ kf_X0_23) rfl rfl (tyX0_ok 3 (by decide)) rfl rfl (Nat.le_of_ble_eq_true rfl) dX0_init_25 (fun H_13 L_14 hw => ?_)
  obtain ⟨ah_15, eah_15⟩ : ∃ z : hA, z = hup ah_11 b (.inr (0, [.int 2147483647, .int 2147483647, .int (-2147483648), .int (-2147483648)])) := ⟨_, rfl⟩
  have hw : hW D ah s.heap ah_15 H_13 L_14 := by rw [eah_15]; exact hw
  have hc_16 : ah_15 b = some (.inr (0, [.int 2147483647, .int 2147483647, .int (-2147483648), .int (-2147483648)])) := by rw [eah_15]; exact hup_s
  rw [hQ]
  exact h_vret hx hb hr hlk hsz hw (by simp) (by simp) dX0_init_28 ⟨rfl, by subst_vars; simp only [hup_hup]⟩

set_option maxHeartbeats 4000000 in
set_option maxRecDepth 100000 in
theorem c_X0_take (l : Launch) (D : va_G) (dT : Nat → ClassId) (ah : hA) (sz : Nat) (b : Nat) (bx0 by0 bx1 by1 : Int32) (he : ah b = some (.inr (0, [.int bx0, .int by0, .int bx1, .int by1]))) (x y : Int32) : hMet l yX0_take cX0_take 3 none ({ frames := 1, cells := 0, slots := 0, locals := 16 }) D dT [.ref b, .int x, .int y] ah sz (fun r ah2 => r = none ∧ ah2 = hup ah b (.inr (0, [.int (iMin bx0 x), .int (iMin by0 y), .int (iMax bx1 x), .int (iMax by1 y)]))) 0 0 := by
  refine h_met (by decide) (Nat.le_of_ble_eq_true rfl) ?_
  intro p e s m below meth c ls R Q args hav hR hQ hB hl hsz hw
  obtain ⟨hx, hb, hml, hr, hts, hown, hlk, hin, hK⟩ := hB
  have hown : s.vm.findClass RX0 = some m.cls := hown
  have hl : lv_has ls 3 [(0, .ref b), (1, .int x), (2, .int y)] := hl
  refine lv_aload_n hx hb dX0_take_0 rfl (lv_at hl 0 rfl) ?_
  refine lv_aload_n hx hb dX0_take_1 rfl (lv_at hl 0 rfl) ?_
  refine h_get (ci := 0) (v := .int bx0) (C := RX0) (T := TX0) (N := 4) hx hb hts kl_X0 hown hK hw he rfl 0 (by decide) (hts _ kf_X0_10) rfl rfl dX0_take_2 ?_
  refine lv_iload_n hx hb dX0_take_5 rfl (lv_at hl 1 rfl) ?_
  refine va_mmin hx hb (by rw [hml]; exact hl.1.symm) hown (hts _ km_X0_26) (hts _ kt_J9_min_7cf53) (hts _ kn_J9) (hts _ ko_Math_min) (by rw [hR]; decide) (by rw [hR]; simp [Value.category]) (by rw [hR]; simp) (by rw [hR]; simp) dX0_take_6 ?_
  refine h_put (ci := 0) (v := .int (iMin bx0 x)) (C := RX0) (T := TX0) (N := 4) hx hb hts kl_X0 tyX0 tyX0_ok nmX0 hown hK hw he rfl 0 (by decide) (hts _ kf_X0_10) rfl rfl (tyX0_ok 0 (by decide)) rfl rfl (Nat.le_of_ble_eq_true rfl) dX0_take_9 (fun H_1 L_2 hw => ?_)
  obtain ⟨ah_3, eah_3⟩ : ∃ z : hA, z = hup ah b (.inr (0, [.int (iMin bx0 x), .int by0, .int bx1, .int by1])) := ⟨_, rfl⟩
  have hw : hW D ah s.heap ah_3 H_1 L_2 := by rw [eah_3]; exact hw
  have hc_4 : ah_3 b = some (.inr (0, [.int (iMin bx0 x), .int by0, .int bx1, .int by1])) := by rw [eah_3]; exact hup_s
  refine lv_aload_n hx hb dX0_take_12 rfl (lv_at hl 0 rfl) ?_
  refine lv_aload_n hx hb dX0_take_13 rfl (lv_at hl 0 rfl) ?_
  refine h_get (ci := 0) (v := .int by0) (C := RX0) (T := TX0) (N := 4) hx hb hts kl_X0 hown hK hw hc_4 rfl 1 (by decide) (hts _ kf_X0_16) rfl rfl dX0_take_14 ?_
  refine lv_iload_n hx hb dX0_take_17 rfl (lv_at hl 2 rfl) ?_
  refine va_mmin hx hb (by rw [hml]; exact hl.1.symm) hown (hts _ km_X0_26) (hts _ kt_J9_min_7cf53) (hts _ kn_J9) (hts _ ko_Math_min) (by rw [hR]; decide) (by rw [hR]; simp [Value.category]) (by rw [hR]; simp) (by rw [hR]; simp) dX0_take_18 ?_
  refine h_put (ci := 0) (v := .int (iMin by0 y)) (C := RX0) (T := TX0) (N := 4) hx hb hts kl_X0 tyX0 tyX0_ok nmX0 hown hK hw hc_4 rfl 1 (by decide) (hts _ kf_X0_16) rfl rfl (tyX0_ok 1 (by decide)) rfl rfl (Nat.le_of_ble_eq_true rfl) dX0_take_21 (fun H_5 L_6 hw => ?_)
  obtain ⟨ah_7, eah_7⟩ : ∃ z : hA, z = hup ah_3 b (.inr (0, [.int (iMin bx0 x), .int (iMin by0 y), .int bx1, .int by1])) := ⟨_, rfl⟩
  have hw : hW D ah s.heap ah_7 H_5 L_6 := by rw [eah_7]; exact hw
  have hc_8 : ah_7 b = some (.inr (0, [.int (iMin bx0 x), .int (iMin by0 y), .int bx1, .int by1])) := by rw [eah_7]; exact hup_s
  refine lv_aload_n hx hb dX0_take_24 rfl (lv_at hl 0 rfl) ?_
  refine lv_aload_n hx hb dX0_take_25 rfl (lv_at hl 0 rfl) ?_
  refine h_get (ci := 0) (v := .int bx1) (C := RX0) (T := TX0) (N := 4) hx hb hts kl_X0 hown hK hw hc_8 rfl 2 (by decide) (hts _ kf_X0_20) rfl rfl dX0_take_26 ?_
  refine lv_iload_n hx hb dX0_take_29 rfl (lv_at hl 1 rfl) ?_
  refine va_mmax hx hb (by rw [hml]; exact hl.1.symm) hown (hts _ km_X0_32) (hts _ kt_J9_max_7cf53) (hts _ kn_J9) (hts _ ko_Math_max) (by rw [hR]; decide) (by rw [hR]; simp [Value.category]) (by rw [hR]; simp) (by rw [hR]; simp) dX0_take_30 ?_
  refine h_put (ci := 0) (v := .int (iMax bx1 x)) (C := RX0) (T := TX0) (N := 4) hx hb hts kl_X0 tyX0 tyX0_ok nmX0 hown hK hw hc_8 rfl 2 (by decide) (hts _ kf_X0_20) rfl rfl (tyX0_ok 2 (by decide)) rfl rfl (Nat.le_of_ble_eq_true rfl) dX0_take_33 (fun H_9 L_10 hw => ?_)
  obtain ⟨ah_11, eah_11⟩ : ∃ z : hA, z = hup ah_7 b (.inr (0, [.int (iMin bx0 x), .int (iMin by0 y), .int (iMax bx1 x), .int by1])) := ⟨_, rfl⟩
  have hw : hW D ah s.heap ah_11 H_9 L_10 := by rw [eah_11]; exact hw
  have hc_12 : ah_11 b = some (.inr (0, [.int (iMin bx0 x), .int (iMin by0 y), .int (iMax bx1 x), .int by1])) := by rw [eah_11]; exact hup_s
  refine lv_aload_n hx hb dX0_take_36 rfl (lv_at hl 0 rfl) ?_
  refine lv_aload_n hx hb dX0_take_37 rfl (lv_at hl 0 rfl) ?_
  refine h_get (ci := 0) (v := .int by1) (C := RX0) (T := TX0) (N := 4) hx hb hts kl_X0 hown hK hw hc_12 rfl 3 (by decide) (hts _ kf_X0_23) rfl rfl dX0_take_38 ?_
  refine lv_iload_n hx hb dX0_take_41 rfl (lv_at hl 2 rfl) ?_
  refine va_mmax hx hb (by rw [hml]; exact hl.1.symm) hown (hts _ km_X0_32) (hts _ kt_J9_max_7cf53) (hts _ kn_J9) (hts _ ko_Math_max) (by rw [hR]; decide) (by rw [hR]; simp [Value.category]) (by rw [hR]; simp) (by rw [hR]; simp) dX0_take_42 ?_
  refine h_put (ci := 0) (v := .int (iMax by1 y)) (C := RX0) (T := TX0) (N := 4) hx hb hts kl_X0 tyX0 tyX0_ok nmX0 hown hK hw hc_12 rfl 3 (by decide) (hts _ kf_X0_23) rfl rfl (tyX0_ok 3 (by decide)) rfl rfl (Nat.le_of_ble_eq_true rfl) dX0_take_45 (fun H_13 L_14 hw => ?_)
  obtain ⟨ah_15, eah_15⟩ : ∃ z : hA, z = hup ah_11 b (.inr (0, [.int (iMin bx0 x), .int (iMin by0 y), .int (iMax bx1 x), .int (iMax by1 y)])) := ⟨_, rfl⟩
  have hw : hW D ah s.heap ah_15 H_13 L_14 := by rw [eah_15]; exact hw
  have hc_16 : ah_15 b = some (.inr (0, [.int (iMin bx0 x), .int (iMin by0 y), .int (iMax bx1 x), .int (iMax by1 y)])) := by rw [eah_15]; exact hup_s
  rw [hQ]
  exact h_vret hx hb hr hlk hsz hw (by simp) (by simp) dX0_take_48 ⟨rfl, by subst_vars; simp only [hup_hup]⟩
end
section
/-! ShapeJudge$Segment -/
def sgSide (fx fy tx ty x y : Int32) : Int64 := ((((tx).toInt64 - (fx).toInt64) * ((y).toInt64 - (fy).toInt64)) - (((ty).toInt64 - (fy).toInt64) * ((x).toInt64 - (fx).toInt64)))
set_option maxHeartbeats 4000000 in
set_option maxRecDepth 100000 in
theorem c_X7_side (l : Launch) (D : va_G) (dT : Nat → ClassId) (ah : hA) (sz : Nat) (g rg bx nx : Nat) (no fx fy tx ty : Int32) (he : ah g = some (.inr (7, [.ref rg, .int no, .int fx, .int fy, .int tx, .int ty, .ref bx, .ref nx]))) (x y : Int32) : hMet l yX7_side cX7_side 3 (some .long) ({ frames := 0, cells := 0, slots := 0, locals := 0 }) D dT [.ref g, .int x, .int y] ah sz (fun r ah2 => r = some (.long (sgSide fx fy tx ty x y)) ∧ ah = ah2) 0 0 := by
  refine h_met (by decide) (Nat.le_of_ble_eq_true rfl) ?_
  intro p e s m below meth c ls R Q args hav hR hQ hB hl hsz hw
  obtain ⟨hx, hb, hml, hr, hts, hown, hlk, hin, hK⟩ := hB
  have hown : s.vm.findClass RX7 = some m.cls := hown
  have hl : lv_has ls 3 [(0, .ref g), (1, .int x), (2, .int y)] := hl
  refine lv_aload_n hx hb dX7_side_0 rfl (lv_at hl 0 rfl) ?_
  refine h_get (ci := 7) (v := .int tx) (C := RX7) (T := TX7) (N := 8) hx hb hts kl_X7 hown hK hw he rfl 4 (by decide) (hts _ kf_X7_23) rfl rfl dX7_side_1 ?_
  refine lv_i2l (v := (tx).toInt64) hx hb dX7_side_4 rfl ?_
  refine lv_aload_n hx hb dX7_side_5 rfl (lv_at hl 0 rfl) ?_
  refine h_get (ci := 7) (v := .int fx) (C := RX7) (T := TX7) (N := 8) hx hb hts kl_X7 hown hK hw he rfl 2 (by decide) (hts _ kf_X7_17) rfl rfl dX7_side_6 ?_
  refine lv_i2l (v := (fx).toInt64) hx hb dX7_side_9 rfl ?_
  refine lv_lsub hx hb dX7_side_10 ?_
  refine lv_iload_n hx hb dX7_side_11 rfl (lv_at hl 2 rfl) ?_
  refine lv_i2l (v := (y).toInt64) hx hb dX7_side_12 rfl ?_
  refine lv_aload_n hx hb dX7_side_13 rfl (lv_at hl 0 rfl) ?_
  refine h_get (ci := 7) (v := .int fy) (C := RX7) (T := TX7) (N := 8) hx hb hts kl_X7 hown hK hw he rfl 3 (by decide) (hts _ kf_X7_20) rfl rfl dX7_side_14 ?_
  refine lv_i2l (v := (fy).toInt64) hx hb dX7_side_17 rfl ?_
  refine lv_lsub hx hb dX7_side_18 ?_
  refine lv_lmul hx hb dX7_side_19 ?_
  refine lv_aload_n hx hb dX7_side_20 rfl (lv_at hl 0 rfl) ?_
  refine h_get (ci := 7) (v := .int ty) (C := RX7) (T := TX7) (N := 8) hx hb hts kl_X7 hown hK hw he rfl 5 (by decide) (hts _ kf_X7_26) rfl rfl dX7_side_21 ?_
  refine lv_i2l (v := (ty).toInt64) hx hb dX7_side_24 rfl ?_
  refine lv_aload_n hx hb dX7_side_25 rfl (lv_at hl 0 rfl) ?_
  refine h_get (ci := 7) (v := .int fy) (C := RX7) (T := TX7) (N := 8) hx hb hts kl_X7 hown hK hw he rfl 3 (by decide) (hts _ kf_X7_20) rfl rfl dX7_side_26 ?_
  refine lv_i2l (v := (fy).toInt64) hx hb dX7_side_29 rfl ?_
  refine lv_lsub hx hb dX7_side_30 ?_
  refine lv_iload_n hx hb dX7_side_31 rfl (lv_at hl 1 rfl) ?_
  refine lv_i2l (v := (x).toInt64) hx hb dX7_side_32 rfl ?_
  refine lv_aload_n hx hb dX7_side_33 rfl (lv_at hl 0 rfl) ?_
  refine h_get (ci := 7) (v := .int fx) (C := RX7) (T := TX7) (N := 8) hx hb hts kl_X7 hown hK hw he rfl 2 (by decide) (hts _ kf_X7_17) rfl rfl dX7_side_34 ?_
  refine lv_i2l (v := (fx).toInt64) hx hb dX7_side_37 rfl ?_
  refine lv_lsub hx hb dX7_side_38 ?_
  refine lv_lmul hx hb dX7_side_39 ?_
  refine lv_lsub hx hb dX7_side_40 ?_
  have hv : ((((tx).toInt64 - (fx).toInt64) * ((y).toInt64 - (fy).toInt64)) - (((ty).toInt64 - (fy).toInt64) * ((x).toInt64 - (fx).toInt64))) = sgSide fx fy tx ty x y := by
    unfold sgSide
    all_goals rfl
  rw [hQ]
  exact h_lret hx hb hr hlk hsz hw (by simp) (by simp) dX7_side_41 ⟨congrArg (fun z => some (Value.long z)) hv, rfl⟩

def sgBegins (fx fy x y : Int32) : Bool := (if fx = x then (if fy = y then true else false) else false)
set_option maxHeartbeats 4000000 in
set_option maxRecDepth 100000 in
theorem c_X7_beginsAt (l : Launch) (D : va_G) (dT : Nat → ClassId) (ah : hA) (sz : Nat) (g rg bx nx : Nat) (no fx fy tx ty : Int32) (he : ah g = some (.inr (7, [.ref rg, .int no, .int fx, .int fy, .int tx, .int ty, .ref bx, .ref nx]))) (x y : Int32) : hMet l yX7_beginsAt cX7_beginsAt 3 (some .boolean) ({ frames := 0, cells := 0, slots := 0, locals := 0 }) D dT [.ref g, .int x, .int y] ah sz (fun r ah2 => r = some (.int (bI (sgBegins fx fy x y))) ∧ ah = ah2) 0 0 := by
  refine h_met (by decide) (Nat.le_of_ble_eq_true rfl) ?_
  intro p e s m below meth c ls R Q args hav hR hQ hB hl hsz hw
  obtain ⟨hx, hb, hml, hr, hts, hown, hlk, hin, hK⟩ := hB
  have hown : s.vm.findClass RX7 = some m.cls := hown
  have hl : lv_has ls 3 [(0, .ref g), (1, .int x), (2, .int y)] := hl
  refine lv_aload_n hx hb dX7_beginsAt_0 rfl (lv_at hl 0 rfl) ?_
  refine h_get (ci := 7) (v := .int fx) (C := RX7) (T := TX7) (N := 8) hx hb hts kl_X7 hown hK hw he rfl 2 (by decide) (hts _ kf_X7_17) rfl rfl dX7_beginsAt_1 ?_
  refine lv_iload_n hx hb dX7_beginsAt_4 rfl (lv_at hl 1 rfl) ?_
  have J_4 : ∀ (v_3 : Int32) (ls : Array Slot), lv_has ls 3 [(0, .ref g), (1, .int x), (2, .int y)] → v_3 = (if fx = x then (if fy = y then 1 else 0) else 0) → W p l e R s m args below meth c s.heap [] (0) (0) Q (F0 m 21 ls [.int v_3]) := by
    intro v_3 ls hl ev_3
    have hv : v_3 = bI (sgBegins fx fy x y) := by
      subst ev_3
      unfold sgBegins
      simp only [bI_if, bI_t, bI_f]
      all_goals rfl
    rw [hQ]
    exact h_zret hx hb hr hlk hsz hw (by simp) (by simp) dX7_beginsAt_21 (bI_v hv) ⟨congrArg (fun z => some (Value.int z)) hv, rfl⟩
  refine lv_icmp_ne (tgt := 20) hx hb dX7_beginsAt_5 (by decide) (fun c_1 => ?_) (fun c_1 => ?_)
  · skip
    refine lv_iconst (v := 0) hx hb dX7_beginsAt_20 (by decide) ?_
    exact J_4 0 ls (lv_sub hl [0, 1, 2] rfl) (by rw [if_neg c_1])
  · skip
    refine lv_aload_n hx hb dX7_beginsAt_8 rfl (lv_at hl 0 rfl) ?_
    refine h_get (ci := 7) (v := .int fy) (C := RX7) (T := TX7) (N := 8) hx hb hts kl_X7 hown hK hw he rfl 3 (by decide) (hts _ kf_X7_20) rfl rfl dX7_beginsAt_9 ?_
    refine lv_iload_n hx hb dX7_beginsAt_12 rfl (lv_at hl 2 rfl) ?_
    refine lv_icmp_ne (tgt := 20) hx hb dX7_beginsAt_13 (by decide) (fun c_2 => ?_) (fun c_2 => ?_)
    · skip
      refine lv_iconst (v := 0) hx hb dX7_beginsAt_20 (by decide) ?_
      exact J_4 0 ls (lv_sub hl [0, 1, 2] rfl) (by rw [if_pos c_1, if_neg c_2])
    · skip
      refine lv_iconst (v := 1) hx hb dX7_beginsAt_16 (by decide) ?_
      refine lv_goto (tgt := 21) hx hb dX7_beginsAt_17 (by decide) ?_
      exact J_4 1 ls (lv_sub hl [0, 1, 2] rfl) (by rw [if_pos c_1, if_pos c_2])

def sgNeigh (g nx g2 nx2 : Nat) : Bool := (if some nx = some g2 then true else (if some nx2 = some g then true else false))
set_option maxHeartbeats 4000000 in
set_option maxRecDepth 100000 in
theorem c_X7_isNeighbourOf (l : Launch) (D : va_G) (dT : Nat → ClassId) (ah : hA) (sz : Nat) (g rg bx nx : Nat) (no fx fy tx ty : Int32) (he : ah g = some (.inr (7, [.ref rg, .int no, .int fx, .int fy, .int tx, .int ty, .ref bx, .ref nx]))) (g2 rg2 bx2 nx2 : Nat) (no2 fx2 fy2 tx2 ty2 : Int32) (he2 : ah g2 = some (.inr (7, [.ref rg2, .int no2, .int fx2, .int fy2, .int tx2, .int ty2, .ref bx2, .ref nx2]))) : hMet l yX7_isNeighbourOf cX7_isNeighbourOf 2 (some .boolean) ({ frames := 0, cells := 0, slots := 0, locals := 0 }) D dT [.ref g, .ref g2] ah sz (fun r ah2 => r = some (.int (bI (sgNeigh g nx g2 nx2))) ∧ ah = ah2) 0 0 := by
  refine h_met (by decide) (Nat.le_of_ble_eq_true rfl) ?_
  intro p e s m below meth c ls R Q args hav hR hQ hB hl hsz hw
  obtain ⟨hx, hb, hml, hr, hts, hown, hlk, hin, hK⟩ := hB
  have hown : s.vm.findClass RX7 = some m.cls := hown
  have hl : lv_has ls 2 [(0, .ref g), (1, .ref g2)] := hl
  refine lv_aload_n hx hb dX7_isNeighbourOf_0 rfl (lv_at hl 0 rfl) ?_
  refine h_get (ci := 7) (v := .ref nx) (C := RX7) (T := TX7) (N := 8) hx hb hts kl_X7 hown hK hw he rfl 7 (by decide) (hts _ kf_X7_40) rfl rfl dX7_isNeighbourOf_1 ?_
  refine lv_aload_n hx hb dX7_isNeighbourOf_4 rfl (lv_at hl 1 rfl) ?_
  have J_4 : ∀ (v_3 : Int32) (ls : Array Slot), lv_has ls 2 [(0, .ref g), (1, .ref g2)] → v_3 = (if some nx = some g2 then 1 else (if some nx2 = some g then 1 else 0)) → W p l e R s m args below meth c s.heap [] (0) (0) Q (F0 m 21 ls [.int v_3]) := by
    intro v_3 ls hl ev_3
    have hv : v_3 = bI (sgNeigh g nx g2 nx2) := by
      subst ev_3
      unfold sgNeigh
      simp only [bI_if, bI_t, bI_f]
      all_goals rfl
    rw [hQ]
    exact h_zret hx hb hr hlk hsz hw (by simp) (by simp) dX7_isNeighbourOf_21 (bI_v hv) ⟨congrArg (fun z => some (Value.int z)) hv, rfl⟩
  refine lv_acmp_eq (rx := some nx) (ry := some g2) (tgt := 16) hx hb dX7_isNeighbourOf_5 (by decide) (fun c_1 => ?_) (fun c_1 => ?_)
  · skip
    refine lv_iconst (v := 1) hx hb dX7_isNeighbourOf_16 (by decide) ?_
    refine lv_goto (tgt := 21) hx hb dX7_isNeighbourOf_17 (by decide) ?_
    exact J_4 1 ls (lv_sub hl [0, 1] rfl) (by rw [if_pos c_1])
  · skip
    refine lv_aload_n hx hb dX7_isNeighbourOf_8 rfl (lv_at hl 1 rfl) ?_
    refine h_get (ci := 7) (v := .ref nx2) (C := RX7) (T := TX7) (N := 8) hx hb hts kl_X7 hown hK hw he2 rfl 7 (by decide) (hts _ kf_X7_40) rfl rfl dX7_isNeighbourOf_9 ?_
    refine lv_aload_n hx hb dX7_isNeighbourOf_12 rfl (lv_at hl 0 rfl) ?_
    refine lv_acmp_ne (rx := some nx2) (ry := some g) (tgt := 20) hx hb dX7_isNeighbourOf_13 (by decide) (fun c_2 => ?_) (fun c_2 => ?_)
    · skip
      refine lv_iconst (v := 0) hx hb dX7_isNeighbourOf_20 (by decide) ?_
      exact J_4 0 ls (lv_sub hl [0, 1] rfl) (by rw [if_neg c_1, if_neg c_2])
    · skip
      refine lv_iconst (v := 1) hx hb dX7_isNeighbourOf_16 (by decide) ?_
      refine lv_goto (tgt := 21) hx hb dX7_isNeighbourOf_17 (by decide) ?_
      exact J_4 1 ls (lv_sub hl [0, 1] rfl) (by rw [if_neg c_1, if_pos c_2])

def sgPasses (fx fy tx ty bx0b by0b bx1b by1b x y : Int32) : Bool := (if bxHas bx0b by0b bx1b by1b x y = false then false else (if (sgSide fx fy tx ty x y) = 0 then true else false))
set_option maxHeartbeats 4000000 in
set_option maxRecDepth 100000 in
theorem c_X7_passes (l : Launch) (D : va_G) (dT : Nat → ClassId) (ah : hA) (sz : Nat) (g rg bx nx : Nat) (no fx fy tx ty : Int32) (he : ah g = some (.inr (7, [.ref rg, .int no, .int fx, .int fy, .int tx, .int ty, .ref bx, .ref nx]))) (bx0b by0b bx1b by1b : Int32) (hebb : ah bx = some (.inr (0, [.int bx0b, .int by0b, .int bx1b, .int by1b]))) (x y : Int32) : hMet l yX7_passes cX7_passes 3 (some .boolean) ({ frames := 1, cells := 0, slots := 0, locals := 40 }) D dT [.ref g, .int x, .int y] ah sz (fun r ah2 => r = some (.int (bI (sgPasses fx fy tx ty bx0b by0b bx1b by1b x y))) ∧ ah = ah2) 0 0 := by
  refine h_met (by decide) (Nat.le_of_ble_eq_true rfl) ?_
  intro p e s m below meth c ls R Q args hav hR hQ hB hl hsz hw
  obtain ⟨hx, hb, hml, hr, hts, hown, hlk, hin, hK⟩ := hB
  have hown : s.vm.findClass RX7 = some m.cls := hown
  have hl : lv_has ls 3 [(0, .ref g), (1, .int x), (2, .int y)] := hl
  refine lv_aload_n hx hb dX7_passes_0 rfl (lv_at hl 0 rfl) ?_
  refine h_get (ci := 7) (v := .ref bx) (C := RX7) (T := TX7) (N := 8) hx hb hts kl_X7 hown hK hw he rfl 6 (by decide) (hts _ kf_X7_32) rfl rfl dX7_passes_1 ?_
  refine lv_iload_n hx hb dX7_passes_4 rfl (lv_at hl 1 rfl) ?_
  refine lv_iload_n hx hb dX7_passes_5 rfl (lv_at hl 2 rfl) ?_
  refine h_callV (n := 2) (ci := 0) (b := bx) (As := [.int x, .int y]) (rest := []) ⟨hx, hb, hml, hown, hts⟩ hK hw (c_X0_has l D dT ah s.heap.size bx bx0b by0b bx1b by1b hebb x y) ko_X0_has km_X7_44 ki_X0_has ks_X0_has kn_X0 (by decide +kernel) rfl hebb rfl hl.1 rfl (by simp [Value.category]) dX7_passes_6 (by rw [hR]; exact ⟨rfl, rfl, by decide, by decide, by simp, by simp⟩) (fun r_1 ah_2 H_3 L_4 st_5 hp hw hst => ?_)
  obtain ⟨rfl, rfl⟩ := hp
  have hst : st_5 = [.int (bI (bxHas bx0b by0b bx1b by1b x y))] := hst
  subst hst
  refine lv_if_eq (tgt := 27) hx hb dX7_passes_9 (by decide) (fun c_6 => ?_) (fun c_6 => ?_)
  · skip
    have c_6 : bxHas bx0b by0b bx1b by1b x y = false := bI_0.mp c_6
    refine lv_iconst (v := 0) hx hb dX7_passes_27 (by decide) ?_
    have hv : 0 = bI (sgPasses fx fy tx ty bx0b by0b bx1b by1b x y) := by
      unfold sgPasses
      simp only [bI_if, bI_t, bI_f]
      all_goals rw [if_pos c_6]
    rw [hQ]
    exact h_zret hx hb hr hlk hsz hw (by simp) (by simp) dX7_passes_28 (bI_v hv) ⟨congrArg (fun z => some (Value.int z)) hv, rfl⟩
  · skip
    have c_6 : ¬ (bxHas bx0b by0b bx1b by1b x y = false) := (not_congr bI_0).mp c_6
    refine lv_aload_n hx hb dX7_passes_12 rfl (lv_at hl 0 rfl) ?_
    refine lv_iload_n hx hb dX7_passes_13 rfl (lv_at hl 1 rfl) ?_
    refine lv_iload_n hx hb dX7_passes_14 rfl (lv_at hl 2 rfl) ?_
    refine h_callV (n := 2) (ci := 7) (b := g) (As := [.int x, .int y]) (rest := []) ⟨hx, hb, hml, hown, hts⟩ hK hw (c_X7_side l D dT ah H_3.size g rg bx nx no fx fy tx ty he x y) ko_X7_side km_X7_48 ki_X7_side ks_X7_side kn_X7 (by decide +kernel) rfl he rfl hl.1 rfl (by simp [Value.category]) dX7_passes_15 (by rw [hR]; exact ⟨rfl, rfl, by decide, by decide, by simp, by simp⟩) (fun r_7 ah_8 H_9 L_10 st_11 hp hw hst => ?_)
    obtain ⟨rfl, rfl⟩ := hp
    have hst : st_11 = [.long (sgSide fx fy tx ty x y)] := hst
    subst hst
    refine lv_lconst (v := 0) hx hb dX7_passes_18 (by decide) ?_
    refine W.lcmp hx hb dX7_passes_19 ?_
    have J_14 : ∀ (v_13 : Int32) (ls : Array Slot), lv_has ls 3 [(0, .ref g), (1, .int x), (2, .int y)] → v_13 = (if (sgSide fx fy tx ty x y) = 0 then 1 else 0) → W p l e R s m args below meth c H_9 L_10 (0 + 0 + 0) (0 + 0 + 0) Q (F0 m 28 ls [.int v_13]) := by
      intro v_13 ls hl ev_13
      have hv : v_13 = bI (sgPasses fx fy tx ty bx0b by0b bx1b by1b x y) := by
        subst ev_13
        unfold sgPasses
        simp only [bI_if, bI_t, bI_f]
        all_goals rw [if_neg c_6]
      rw [hQ]
      exact h_zret hx hb hr hlk hsz hw (by simp) (by simp) dX7_passes_28 (bI_v hv) ⟨congrArg (fun z => some (Value.int z)) hv, rfl⟩
    refine lv_if_ne (tgt := 27) hx hb dX7_passes_20 (by decide) (fun c_12 => ?_) (fun c_12 => ?_)
    · skip
      have c_12 : ¬ ((sgSide fx fy tx ty x y) = 0) := (not_congr lgc_eq).mp c_12
      refine lv_iconst (v := 0) hx hb dX7_passes_27 (by decide) ?_
      exact J_14 0 ls (lv_sub hl [0, 1, 2] rfl) (by rw [if_neg c_12])
    · skip
      have c_12 : (sgSide fx fy tx ty x y) = 0 := lgc_eq.mp c_12
      refine lv_iconst (v := 1) hx hb dX7_passes_23 (by decide) ?_
      refine lv_goto (tgt := 28) hx hb dX7_passes_24 (by decide) ?_
      exact J_14 1 ls (lv_sub hl [0, 1, 2] rfl) (by rw [if_pos c_12])

def sgHit (fx fy tx ty x y : Int32) (dx dy : Int64) : Bool := (if ((if y < fy then 1 else (if fy = y then (if 0 ≤ dy then 0 else 1) else 0)) : Int32) = ((if y < ty then 1 else (if ty = y then (if 0 ≤ dy then 0 else 1) else 0)) : Int32) then false else (if ((if y < ty then 1 else (if ty = y then (if 0 ≤ dy then 0 else 1) else 0)) : Int32) = 0 then (if 0 ≤ ((if (sgSide fx fy tx ty x y) = 0 then ((((tx).toInt64 - (fx).toInt64) * dy) - (((ty).toInt64 - (fy).toInt64) * dx)) else (sgSide fx fy tx ty x y)) : Int64) then false else true) else (if ((if (sgSide fx fy tx ty x y) = 0 then ((((tx).toInt64 - (fx).toInt64) * dy) - (((ty).toInt64 - (fy).toInt64) * dx)) else (sgSide fx fy tx ty x y)) : Int64) ≤ 0 then false else true)))
set_option maxHeartbeats 4000000 in
set_option maxRecDepth 100000 in
theorem c_X7_isHitFrom (l : Launch) (D : va_G) (dT : Nat → ClassId) (ah : hA) (sz : Nat) (g rg bx nx : Nat) (no fx fy tx ty : Int32) (he : ah g = some (.inr (7, [.ref rg, .int no, .int fx, .int fy, .int tx, .int ty, .ref bx, .ref nx]))) (x y : Int32) (dx dy : Int64) : hMet l yX7_isHitFrom cX7_isHitFrom 11 (some .boolean) ({ frames := 1, cells := 0, slots := 0, locals := 40 }) D dT [.ref g, .int x, .int y, .long dx, .long dy] ah sz (fun r ah2 => r = some (.int (bI (sgHit fx fy tx ty x y dx dy))) ∧ ah = ah2) 0 0 := by
  refine h_met (by decide) (Nat.le_of_ble_eq_true rfl) ?_
  intro p e s m below meth c ls R Q args hav hR hQ hB hl hsz hw
  obtain ⟨hx, hb, hml, hr, hts, hown, hlk, hin, hK⟩ := hB
  have hown : s.vm.findClass RX7 = some m.cls := hown
  have hl : lv_has ls 11 [(0, .ref g), (1, .int x), (2, .int y), (3, .long dx), (5, .long dy)] := hl
  refine lv_aload_n hx hb dX7_isHitFrom_0 rfl (lv_at hl 0 rfl) ?_
  refine h_get (ci := 7) (v := .int fy) (C := RX7) (T := TX7) (N := 8) hx hb hts kl_X7 hown hK hw he rfl 3 (by decide) (hts _ kf_X7_20) rfl rfl dX7_isHitFrom_1 ?_
  refine lv_iload_n hx hb dX7_isHitFrom_4 rfl (lv_at hl 2 rfl) ?_
  have J_5 : ∀ (v_4 : Int32) (ls : Array Slot), lv_has ls 11 [(0, .ref g), (1, .int x), (2, .int y), (3, .long dx), (5, .long dy)] → v_4 = (if y < fy then 1 else (if fy = y then (if 0 ≤ dy then 0 else 1) else 0)) → W p l e R s m args below meth c s.heap [] (0) (0) Q (F0 m 28 ls [.int v_4]) := by
    intro v_4 ls hl ev_4
    refine lv_istore (lv' := [(7, .int v_4), (0, .ref g), (1, .int x), (2, .int y), (3, .long dx), (5, .long dy)]) hx hb dX7_isHitFrom_28 hl (by decide) rfl (fun ls hl => ?_)
    refine lv_aload_n hx hb dX7_isHitFrom_30 rfl (lv_at hl 1 rfl) ?_
    refine h_get (ci := 7) (v := .int ty) (C := RX7) (T := TX7) (N := 8) hx hb hts kl_X7 hown hK hw he rfl 5 (by decide) (hts _ kf_X7_26) rfl rfl dX7_isHitFrom_31 ?_
    refine lv_iload_n hx hb dX7_isHitFrom_34 rfl (lv_at hl 3 rfl) ?_
    have J_10 : ∀ (v_9 : Int32) (ls : Array Slot), lv_has ls 11 [(7, .int v_4), (0, .ref g), (1, .int x), (2, .int y), (3, .long dx), (5, .long dy)] → v_9 = (if y < ty then 1 else (if ty = y then (if 0 ≤ dy then 0 else 1) else 0)) → W p l e R s m args below meth c s.heap [] (0) (0) Q (F0 m 58 ls [.int v_9]) := by
      intro v_9 ls hl ev_9
      refine lv_istore (lv' := [(8, .int v_9), (7, .int v_4), (0, .ref g), (1, .int x), (2, .int y), (3, .long dx), (5, .long dy)]) hx hb dX7_isHitFrom_58 hl (by decide) rfl (fun ls hl => ?_)
      refine lv_iload hx hb dX7_isHitFrom_60 (lv_at hl 1 rfl) ?_
      refine lv_iload hx hb dX7_isHitFrom_62 (lv_at hl 0 rfl) ?_
      refine lv_icmp_ne (tgt := 69) hx hb dX7_isHitFrom_64 (by decide) (fun c_11 => ?_) (fun c_11 => ?_)
      · skip
        refine lv_aload_n hx hb dX7_isHitFrom_69 rfl (lv_at hl 2 rfl) ?_
        refine lv_iload_n hx hb dX7_isHitFrom_70 rfl (lv_at hl 3 rfl) ?_
        refine lv_iload_n hx hb dX7_isHitFrom_71 rfl (lv_at hl 4 rfl) ?_
        refine h_callV (n := 2) (ci := 7) (b := g) (As := [.int x, .int y]) (rest := []) ⟨hx, hb, hml, hown, hts⟩ hK hw (c_X7_side l D dT ah s.heap.size g rg bx nx no fx fy tx ty he x y) ko_X7_side km_X7_48 ki_X7_side ks_X7_side kn_X7 (by decide +kernel) rfl he rfl hl.1 rfl (by simp [Value.category]) dX7_isHitFrom_72 (by rw [hR]; exact ⟨rfl, rfl, by decide, by decide, by simp, by simp⟩) (fun r_12 ah_13 H_14 L_15 st_16 hp hw hst => ?_)
        obtain ⟨rfl, rfl⟩ := hp
        have hst : st_16 = [.long (sgSide fx fy tx ty x y)] := hst
        subst hst
        refine lv_lstore (lv' := [(9, .long (sgSide fx fy tx ty x y)), (8, .int v_9), (7, .int v_4), (0, .ref g), (1, .int x), (2, .int y), (3, .long dx), (5, .long dy)]) hx hb dX7_isHitFrom_75 hl (by decide) rfl (fun ls hl => ?_)
        refine lv_lload hx hb dX7_isHitFrom_77 (lv_at hl 0 rfl) ?_
        refine lv_lconst (v := 0) hx hb dX7_isHitFrom_79 (by decide) ?_
        refine W.lcmp hx hb dX7_isHitFrom_80 ?_
        have J_19 : ∀ (v_18 : Int64) (ls : Array Slot), lv_has ls 11 [(9, .long v_18), (8, .int v_9), (7, .int v_4), (0, .ref g), (1, .int x), (2, .int y), (3, .long dx), (5, .long dy)] → v_18 = (if (sgSide fx fy tx ty x y) = 0 then ((((tx).toInt64 - (fx).toInt64) * dy) - (((ty).toInt64 - (fy).toInt64) * dx)) else (sgSide fx fy tx ty x y)) → W p l e R s m args below meth c H_14 L_15 (0 + 0) (0 + 0) Q (F0 m 114 ls []) := by
          intro v_18 ls hl ev_18
          refine lv_iload hx hb dX7_isHitFrom_114 (lv_at hl 1 rfl) ?_
          have J_24 : ∀ (v_23 : Int32) (ls : Array Slot), lv_has ls 11 [(9, .long v_18), (8, .int v_9), (7, .int v_4), (0, .ref g), (1, .int x), (2, .int y), (3, .long dx), (5, .long dy)] → v_23 = (if v_9 = 0 then (if 0 ≤ v_18 then 0 else 1) else (if v_18 ≤ 0 then 0 else 1)) → W p l e R s m args below meth c H_14 L_15 (0 + 0) (0 + 0) Q (F0 m 146 ls [.int v_23]) := by
            intro v_23 ls hl ev_23
            have hv : v_23 = bI (sgHit fx fy tx ty x y dx dy) := by
              subst ev_23
              subst ev_18
              subst ev_9
              subst ev_4
              unfold sgHit
              simp only [bI_if, bI_t, bI_f]
              all_goals rw [if_neg c_11]
            rw [hQ]
            exact h_zret hx hb hr hlk hsz hw (by simp) (by simp) dX7_isHitFrom_146 (bI_v hv) ⟨congrArg (fun z => some (Value.int z)) hv, rfl⟩
          refine lv_if_eq (tgt := 134) hx hb dX7_isHitFrom_116 (by decide) (fun c_20 => ?_) (fun c_20 => ?_)
          · skip
            refine lv_lload hx hb dX7_isHitFrom_134 (lv_at hl 0 rfl) ?_
            refine lv_lconst (v := 0) hx hb dX7_isHitFrom_136 (by decide) ?_
            refine W.lcmp hx hb dX7_isHitFrom_137 ?_
            refine lv_if_ge (tgt := 145) hx hb dX7_isHitFrom_138 (by decide) (fun c_21 => ?_) (fun c_21 => ?_)
            · skip
              have c_21 : 0 ≤ v_18 := lgc_ge.mp c_21
              refine lv_iconst (v := 0) hx hb dX7_isHitFrom_145 (by decide) ?_
              exact J_24 0 ls (lv_sub hl [0, 1, 2, 3, 4, 5, 6, 7] rfl) (by rw [if_pos c_20, if_pos c_21])
            · skip
              have c_21 : ¬ (0 ≤ v_18) := (not_congr lgc_ge).mp c_21
              refine lv_iconst (v := 1) hx hb dX7_isHitFrom_141 (by decide) ?_
              refine lv_goto (tgt := 146) hx hb dX7_isHitFrom_142 (by decide) ?_
              exact J_24 1 ls (lv_sub hl [0, 1, 2, 3, 4, 5, 6, 7] rfl) (by rw [if_pos c_20, if_neg c_21])
          · skip
            refine lv_lload hx hb dX7_isHitFrom_119 (lv_at hl 0 rfl) ?_
            refine lv_lconst (v := 0) hx hb dX7_isHitFrom_121 (by decide) ?_
            refine W.lcmp hx hb dX7_isHitFrom_122 ?_
            refine lv_if_le (tgt := 130) hx hb dX7_isHitFrom_123 (by decide) (fun c_22 => ?_) (fun c_22 => ?_)
            · skip
              have c_22 : v_18 ≤ 0 := lgc_le.mp c_22
              refine lv_iconst (v := 0) hx hb dX7_isHitFrom_130 (by decide) ?_
              refine lv_goto (tgt := 146) hx hb dX7_isHitFrom_131 (by decide) ?_
              exact J_24 0 ls (lv_sub hl [0, 1, 2, 3, 4, 5, 6, 7] rfl) (by rw [if_neg c_20, if_pos c_22])
            · skip
              have c_22 : ¬ (v_18 ≤ 0) := (not_congr lgc_le).mp c_22
              refine lv_iconst (v := 1) hx hb dX7_isHitFrom_126 (by decide) ?_
              refine lv_goto (tgt := 146) hx hb dX7_isHitFrom_127 (by decide) ?_
              exact J_24 1 ls (lv_sub hl [0, 1, 2, 3, 4, 5, 6, 7] rfl) (by rw [if_neg c_20, if_neg c_22])
        refine lv_if_ne (tgt := 114) hx hb dX7_isHitFrom_81 (by decide) (fun c_17 => ?_) (fun c_17 => ?_)
        · skip
          have c_17 : ¬ ((sgSide fx fy tx ty x y) = 0) := (not_congr lgc_eq).mp c_17
          exact J_19 (sgSide fx fy tx ty x y) ls (lv_sub hl [0, 1, 2, 3, 4, 5, 6, 7] rfl) (by rw [if_neg c_17])
        · skip
          have c_17 : (sgSide fx fy tx ty x y) = 0 := lgc_eq.mp c_17
          refine lv_aload_n hx hb dX7_isHitFrom_84 rfl (lv_at hl 3 rfl) ?_
          refine h_get (ci := 7) (v := .int tx) (C := RX7) (T := TX7) (N := 8) hx hb hts kl_X7 hown hK hw he rfl 4 (by decide) (hts _ kf_X7_23) rfl rfl dX7_isHitFrom_85 ?_
          refine lv_i2l (v := (tx).toInt64) hx hb dX7_isHitFrom_88 rfl ?_
          refine lv_aload_n hx hb dX7_isHitFrom_89 rfl (lv_at hl 3 rfl) ?_
          refine h_get (ci := 7) (v := .int fx) (C := RX7) (T := TX7) (N := 8) hx hb hts kl_X7 hown hK hw he rfl 2 (by decide) (hts _ kf_X7_17) rfl rfl dX7_isHitFrom_90 ?_
          refine lv_i2l (v := (fx).toInt64) hx hb dX7_isHitFrom_93 rfl ?_
          refine lv_lsub hx hb dX7_isHitFrom_94 ?_
          refine lv_lload hx hb dX7_isHitFrom_95 (lv_at hl 7 rfl) ?_
          refine lv_lmul hx hb dX7_isHitFrom_97 ?_
          refine lv_aload_n hx hb dX7_isHitFrom_98 rfl (lv_at hl 3 rfl) ?_
          refine h_get (ci := 7) (v := .int ty) (C := RX7) (T := TX7) (N := 8) hx hb hts kl_X7 hown hK hw he rfl 5 (by decide) (hts _ kf_X7_26) rfl rfl dX7_isHitFrom_99 ?_
          refine lv_i2l (v := (ty).toInt64) hx hb dX7_isHitFrom_102 rfl ?_
          refine lv_aload_n hx hb dX7_isHitFrom_103 rfl (lv_at hl 3 rfl) ?_
          refine h_get (ci := 7) (v := .int fy) (C := RX7) (T := TX7) (N := 8) hx hb hts kl_X7 hown hK hw he rfl 3 (by decide) (hts _ kf_X7_20) rfl rfl dX7_isHitFrom_104 ?_
          refine lv_i2l (v := (fy).toInt64) hx hb dX7_isHitFrom_107 rfl ?_
          refine lv_lsub hx hb dX7_isHitFrom_108 ?_
          refine lv_lload_n hx hb dX7_isHitFrom_109 rfl (lv_at hl 6 rfl) ?_
          refine lv_lmul hx hb dX7_isHitFrom_110 ?_
          refine lv_lsub hx hb dX7_isHitFrom_111 ?_
          refine lv_lstore (lv' := [(9, .long ((((tx).toInt64 - (fx).toInt64) * dy) - (((ty).toInt64 - (fy).toInt64) * dx))), (8, .int v_9), (7, .int v_4), (0, .ref g), (1, .int x), (2, .int y), (3, .long dx), (5, .long dy)]) hx hb dX7_isHitFrom_112 hl (by decide) rfl (fun ls hl => ?_)
          exact J_19 ((((tx).toInt64 - (fx).toInt64) * dy) - (((ty).toInt64 - (fy).toInt64) * dx)) ls (lv_sub hl [0, 1, 2, 3, 4, 5, 6, 7] rfl) (by rw [if_pos c_17])
      · skip
        refine lv_iconst (v := 0) hx hb dX7_isHitFrom_67 (by decide) ?_
        have hv : 0 = bI (sgHit fx fy tx ty x y dx dy) := by
          subst ev_9
          subst ev_4
          unfold sgHit
          simp only [bI_if, bI_t, bI_f]
          all_goals rw [if_pos c_11]
        rw [hQ]
        exact h_zret hx hb hr hlk hsz hw (by simp) (by simp) dX7_isHitFrom_68 (bI_v hv) ⟨congrArg (fun z => some (Value.int z)) hv, rfl⟩
    refine lv_icmp_gt (tgt := 53) hx hb dX7_isHitFrom_35 (by decide) (fun c_6 => ?_) (fun c_6 => ?_)
    · skip
      refine lv_iconst (v := 1) hx hb dX7_isHitFrom_53 (by decide) ?_
      refine lv_goto (tgt := 58) hx hb dX7_isHitFrom_54 (by decide) ?_
      exact J_10 1 ls (lv_sub hl [0, 1, 2, 3, 4, 5] rfl) (by rw [if_pos c_6])
    · skip
      refine lv_aload_n hx hb dX7_isHitFrom_38 rfl (lv_at hl 1 rfl) ?_
      refine h_get (ci := 7) (v := .int ty) (C := RX7) (T := TX7) (N := 8) hx hb hts kl_X7 hown hK hw he rfl 5 (by decide) (hts _ kf_X7_26) rfl rfl dX7_isHitFrom_39 ?_
      refine lv_iload_n hx hb dX7_isHitFrom_42 rfl (lv_at hl 3 rfl) ?_
      refine lv_icmp_ne (tgt := 57) hx hb dX7_isHitFrom_43 (by decide) (fun c_7 => ?_) (fun c_7 => ?_)
      · skip
        refine lv_iconst (v := 0) hx hb dX7_isHitFrom_57 (by decide) ?_
        exact J_10 0 ls (lv_sub hl [0, 1, 2, 3, 4, 5] rfl) (by rw [if_neg c_6, if_neg c_7])
      · skip
        refine lv_lload hx hb dX7_isHitFrom_46 (lv_at hl 5 rfl) ?_
        refine lv_lconst (v := 0) hx hb dX7_isHitFrom_48 (by decide) ?_
        refine W.lcmp hx hb dX7_isHitFrom_49 ?_
        refine lv_if_ge (tgt := 57) hx hb dX7_isHitFrom_50 (by decide) (fun c_8 => ?_) (fun c_8 => ?_)
        · skip
          have c_8 : 0 ≤ dy := lgc_ge.mp c_8
          refine lv_iconst (v := 0) hx hb dX7_isHitFrom_57 (by decide) ?_
          exact J_10 0 ls (lv_sub hl [0, 1, 2, 3, 4, 5] rfl) (by rw [if_neg c_6, if_pos c_7, if_pos c_8])
        · skip
          have c_8 : ¬ (0 ≤ dy) := (not_congr lgc_ge).mp c_8
          refine lv_iconst (v := 1) hx hb dX7_isHitFrom_53 (by decide) ?_
          refine lv_goto (tgt := 58) hx hb dX7_isHitFrom_54 (by decide) ?_
          exact J_10 1 ls (lv_sub hl [0, 1, 2, 3, 4, 5] rfl) (by rw [if_neg c_6, if_pos c_7, if_neg c_8])
  refine lv_icmp_gt (tgt := 23) hx hb dX7_isHitFrom_5 (by decide) (fun c_1 => ?_) (fun c_1 => ?_)
  · skip
    refine lv_iconst (v := 1) hx hb dX7_isHitFrom_23 (by decide) ?_
    refine lv_goto (tgt := 28) hx hb dX7_isHitFrom_24 (by decide) ?_
    exact J_5 1 ls (lv_sub hl [0, 1, 2, 3, 4] rfl) (by rw [if_pos c_1])
  · skip
    refine lv_aload_n hx hb dX7_isHitFrom_8 rfl (lv_at hl 0 rfl) ?_
    refine h_get (ci := 7) (v := .int fy) (C := RX7) (T := TX7) (N := 8) hx hb hts kl_X7 hown hK hw he rfl 3 (by decide) (hts _ kf_X7_20) rfl rfl dX7_isHitFrom_9 ?_
    refine lv_iload_n hx hb dX7_isHitFrom_12 rfl (lv_at hl 2 rfl) ?_
    refine lv_icmp_ne (tgt := 27) hx hb dX7_isHitFrom_13 (by decide) (fun c_2 => ?_) (fun c_2 => ?_)
    · skip
      refine lv_iconst (v := 0) hx hb dX7_isHitFrom_27 (by decide) ?_
      exact J_5 0 ls (lv_sub hl [0, 1, 2, 3, 4] rfl) (by rw [if_neg c_1, if_neg c_2])
    · skip
      refine lv_lload hx hb dX7_isHitFrom_16 (lv_at hl 4 rfl) ?_
      refine lv_lconst (v := 0) hx hb dX7_isHitFrom_18 (by decide) ?_
      refine W.lcmp hx hb dX7_isHitFrom_19 ?_
      refine lv_if_ge (tgt := 27) hx hb dX7_isHitFrom_20 (by decide) (fun c_3 => ?_) (fun c_3 => ?_)
      · skip
        have c_3 : 0 ≤ dy := lgc_ge.mp c_3
        refine lv_iconst (v := 0) hx hb dX7_isHitFrom_27 (by decide) ?_
        exact J_5 0 ls (lv_sub hl [0, 1, 2, 3, 4] rfl) (by rw [if_neg c_1, if_pos c_2, if_pos c_3])
      · skip
        have c_3 : ¬ (0 ≤ dy) := (not_congr lgc_ge).mp c_3
        refine lv_iconst (v := 1) hx hb dX7_isHitFrom_23 (by decide) ?_
        refine lv_goto (tgt := 28) hx hb dX7_isHitFrom_24 (by decide) ?_
        exact J_5 1 ls (lv_sub hl [0, 1, 2, 3, 4] rfl) (by rw [if_neg c_1, if_pos c_2, if_neg c_3])
end
