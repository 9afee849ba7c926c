section
-- ===== PART A: goes FIRST, ahead of the names: the tables' words, and 'selects' of the private methods out of them =====
/-- a private method of a class that the tables say can be made, by its rows of tables_1 -/
def lw_okq (q : MethodName × Nat) : Prop := (q.1.cls ≠ "java/lang/invoke/MethodHandle" ∧ q.1.cls ≠ "java/lang/invoke/VarHandle") ∧ Cond.instantiable q.1.cls q.2 ∈ tables_1 ∧ Cond.privateMethod q.1 ∈ tables_1 ∧ Cond.instanceMethod q.1 ∈ tables_1
theorem lw_p0 : lw_okq (⟨"LayerDrawing", "forgetAll", "()V"⟩, 12) := ⟨⟨by decide +kernel, by decide +kernel⟩, List.mem_of_getElem? (i := 15) (by decide +kernel), List.mem_of_getElem? (i := 342) (by decide +kernel), List.mem_of_getElem? (i := 343) (by decide +kernel)⟩
theorem lw_p1 : lw_okq (⟨"LayerDrawing", "forgetDrawings", "()V"⟩, 12) := ⟨⟨by decide +kernel, by decide +kernel⟩, List.mem_of_getElem? (i := 15) (by decide +kernel), List.mem_of_getElem? (i := 346) (by decide +kernel), List.mem_of_getElem? (i := 347) (by decide +kernel)⟩
theorem lw_p2 : lw_okq (⟨"LayerDrawing", "settle", "()V"⟩, 12) := ⟨⟨by decide +kernel, by decide +kernel⟩, List.mem_of_getElem? (i := 15) (by decide +kernel), List.mem_of_getElem? (i := 394) (by decide +kernel), List.mem_of_getElem? (i := 395) (by decide +kernel)⟩
theorem lw_p3 : lw_okq (⟨"LayerDrawing$Turning", "setPrices", "(LLayerDrawing$Graph;I)V"⟩, 5) := ⟨⟨by decide +kernel, by decide +kernel⟩, List.mem_of_getElem? (i := 82) (by decide +kernel), List.mem_of_getElem? (i := 405) (by decide +kernel), List.mem_of_getElem? (i := 406) (by decide +kernel)⟩
theorem lw_p4 : lw_okq (⟨"LayerDrawing$Turning", "leastCost", "(I)I"⟩, 5) := ⟨⟨by decide +kernel, by decide +kernel⟩, List.mem_of_getElem? (i := 82) (by decide +kernel), List.mem_of_getElem? (i := 416) (by decide +kernel), List.mem_of_getElem? (i := 417) (by decide +kernel)⟩
theorem lw_p5 : lw_okq (⟨"LayerDrawing$Turning", "costOfFront", "(I)I"⟩, 5) := ⟨⟨by decide +kernel, by decide +kernel⟩, List.mem_of_getElem? (i := 82) (by decide +kernel), List.mem_of_getElem? (i := 420) (by decide +kernel), List.mem_of_getElem? (i := 421) (by decide +kernel)⟩
theorem lw_p6 : lw_okq (⟨"LayerDrawing$Turning", "priceBack", "(II)I"⟩, 5) := ⟨⟨by decide +kernel, by decide +kernel⟩, List.mem_of_getElem? (i := 82) (by decide +kernel), List.mem_of_getElem? (i := 425) (by decide +kernel), List.mem_of_getElem? (i := 426) (by decide +kernel)⟩
theorem lw_p7 : lw_okq (⟨"LayerDrawing$Layering", "raise", "(LLayerDrawing$Graph;)I"⟩, 8) := ⟨⟨by decide +kernel, by decide +kernel⟩, List.mem_of_getElem? (i := 105) (by decide +kernel), List.mem_of_getElem? (i := 441) (by decide +kernel), List.mem_of_getElem? (i := 442) (by decide +kernel)⟩
theorem lw_p8 : lw_okq (⟨"LayerDrawing$Layering", "raiseEnds", "(I)I"⟩, 8) := ⟨⟨by decide +kernel, by decide +kernel⟩, List.mem_of_getElem? (i := 105) (by decide +kernel), List.mem_of_getElem? (i := 445) (by decide +kernel), List.mem_of_getElem? (i := 446) (by decide +kernel)⟩
theorem lw_p9 : lw_okq (⟨"LayerDrawing$Layering", "enlargeFlow", "(II)V"⟩, 8) := ⟨⟨by decide +kernel, by decide +kernel⟩, List.mem_of_getElem? (i := 105) (by decide +kernel), List.mem_of_getElem? (i := 452) (by decide +kernel), List.mem_of_getElem? (i := 453) (by decide +kernel)⟩
theorem lw_p10 : lw_okq (⟨"LayerDrawing$Layering", "raiser", "(I)I"⟩, 8) := ⟨⟨by decide +kernel, by decide +kernel⟩, List.mem_of_getElem? (i := 105) (by decide +kernel), List.mem_of_getElem? (i := 456) (by decide +kernel), List.mem_of_getElem? (i := 457) (by decide +kernel)⟩
theorem lw_p11 : lw_okq (⟨"LayerDrawing$Layering", "addFlow", "(II)V"⟩, 8) := ⟨⟨by decide +kernel, by decide +kernel⟩, List.mem_of_getElem? (i := 105) (by decide +kernel), List.mem_of_getElem? (i := 462) (by decide +kernel), List.mem_of_getElem? (i := 463) (by decide +kernel)⟩
theorem lw_p12 : lw_okq (⟨"LayerDrawing$Layering", "measure", "(LLayerDrawing$Graph;)V"⟩, 8) := ⟨⟨by decide +kernel, by decide +kernel⟩, List.mem_of_getElem? (i := 105) (by decide +kernel), List.mem_of_getElem? (i := 466) (by decide +kernel), List.mem_of_getElem? (i := 467) (by decide +kernel)⟩
theorem lw_p13 : lw_okq (⟨"LayerDrawing$Pieces", "cutArc", "(LLayerDrawing$Layering;I)V"⟩, 6) := ⟨⟨by decide +kernel, by decide +kernel⟩, List.mem_of_getElem? (i := 146) (by decide +kernel), List.mem_of_getElem? (i := 508) (by decide +kernel), List.mem_of_getElem? (i := 509) (by decide +kernel)⟩
theorem lw_p14 : lw_okq (⟨"LayerDrawing$Orders", "standByNumbers", "(LLayerDrawing$Graph;LLayerDrawing$Layering;LLayerDrawing$Pieces;)V"⟩, 9) := ⟨⟨by decide +kernel, by decide +kernel⟩, List.mem_of_getElem? (i := 183) (by decide +kernel), List.mem_of_getElem? (i := 520) (by decide +kernel), List.mem_of_getElem? (i := 521) (by decide +kernel)⟩
theorem lw_p15 : lw_okq (⟨"LayerDrawing$Orders", "append", "(II)V"⟩, 9) := ⟨⟨by decide +kernel, by decide +kernel⟩, List.mem_of_getElem? (i := 183) (by decide +kernel), List.mem_of_getElem? (i := 525) (by decide +kernel), List.mem_of_getElem? (i := 526) (by decide +kernel)⟩
def lw_privs_1 : List (MethodName × Nat) := [(⟨"LayerDrawing", "forgetAll", "()V"⟩, 12), (⟨"LayerDrawing", "forgetDrawings", "()V"⟩, 12), (⟨"LayerDrawing", "settle", "()V"⟩, 12), (⟨"LayerDrawing$Turning", "setPrices", "(LLayerDrawing$Graph;I)V"⟩, 5), (⟨"LayerDrawing$Turning", "leastCost", "(I)I"⟩, 5), (⟨"LayerDrawing$Turning", "costOfFront", "(I)I"⟩, 5), (⟨"LayerDrawing$Turning", "priceBack", "(II)I"⟩, 5), (⟨"LayerDrawing$Layering", "raise", "(LLayerDrawing$Graph;)I"⟩, 8), (⟨"LayerDrawing$Layering", "raiseEnds", "(I)I"⟩, 8), (⟨"LayerDrawing$Layering", "enlargeFlow", "(II)V"⟩, 8), (⟨"LayerDrawing$Layering", "raiser", "(I)I"⟩, 8), (⟨"LayerDrawing$Layering", "addFlow", "(II)V"⟩, 8), (⟨"LayerDrawing$Layering", "measure", "(LLayerDrawing$Graph;)V"⟩, 8), (⟨"LayerDrawing$Pieces", "cutArc", "(LLayerDrawing$Layering;I)V"⟩, 6), (⟨"LayerDrawing$Orders", "standByNumbers", "(LLayerDrawing$Graph;LLayerDrawing$Layering;LLayerDrawing$Pieces;)V"⟩, 9), (⟨"LayerDrawing$Orders", "append", "(II)V"⟩, 9)]
theorem lw_r1 : ∀ q ∈ lw_privs_1, lw_okq q := List.forall_mem_cons.mpr ⟨lw_p0, List.forall_mem_cons.mpr ⟨lw_p1, List.forall_mem_cons.mpr ⟨lw_p2, List.forall_mem_cons.mpr ⟨lw_p3, List.forall_mem_cons.mpr ⟨lw_p4, List.forall_mem_cons.mpr ⟨lw_p5, List.forall_mem_cons.mpr ⟨lw_p6, List.forall_mem_cons.mpr ⟨lw_p7, List.forall_mem_cons.mpr ⟨lw_p8, List.forall_mem_cons.mpr ⟨lw_p9, List.forall_mem_cons.mpr ⟨lw_p10, List.forall_mem_cons.mpr ⟨lw_p11, List.forall_mem_cons.mpr ⟨lw_p12, List.forall_mem_cons.mpr ⟨lw_p13, List.forall_mem_cons.mpr ⟨lw_p14, List.forall_mem_cons.mpr ⟨lw_p15, fun _ h => absurd h List.not_mem_nil⟩⟩⟩⟩⟩⟩⟩⟩⟩⟩⟩⟩⟩⟩⟩⟩
theorem lw_p16 : lw_okq (⟨"LayerDrawing$Orders", "crossings", "(LLayerDrawing$Pieces;)I"⟩, 9) := ⟨⟨by decide +kernel, by decide +kernel⟩, List.mem_of_getElem? (i := 183) (by decide +kernel), List.mem_of_getElem? (i := 531) (by decide +kernel), List.mem_of_getElem? (i := 532) (by decide +kernel)⟩
theorem lw_p17 : lw_okq (⟨"LayerDrawing$Orders", "crossingsIn", "(I[I[I)I"⟩, 9) := ⟨⟨by decide +kernel, by decide +kernel⟩, List.mem_of_getElem? (i := 183) (by decide +kernel), List.mem_of_getElem? (i := 535) (by decide +kernel), List.mem_of_getElem? (i := 536) (by decide +kernel)⟩
theorem lw_p18 : lw_okq (⟨"LayerDrawing$Orders", "copyRows", "([[I[[I)V"⟩, 9) := ⟨⟨by decide +kernel, by decide +kernel⟩, List.mem_of_getElem? (i := 183) (by decide +kernel), List.mem_of_getElem? (i := 539) (by decide +kernel), List.mem_of_getElem? (i := 540) (by decide +kernel)⟩
theorem lw_p19 : lw_okq (⟨"LayerDrawing$Orders", "sweep", "(LLayerDrawing$Pieces;)V"⟩, 9) := ⟨⟨by decide +kernel, by decide +kernel⟩, List.mem_of_getElem? (i := 183) (by decide +kernel), List.mem_of_getElem? (i := 544) (by decide +kernel), List.mem_of_getElem? (i := 545) (by decide +kernel)⟩
theorem lw_p20 : lw_okq (⟨"LayerDrawing$Orders", "findMiddles", "(II[I[I)V"⟩, 9) := ⟨⟨by decide +kernel, by decide +kernel⟩, List.mem_of_getElem? (i := 183) (by decide +kernel), List.mem_of_getElem? (i := 548) (by decide +kernel), List.mem_of_getElem? (i := 549) (by decide +kernel)⟩
theorem lw_p21 : lw_okq (⟨"LayerDrawing$Orders", "sortRow", "(I)V"⟩, 9) := ⟨⟨by decide +kernel, by decide +kernel⟩, List.mem_of_getElem? (i := 183) (by decide +kernel), List.mem_of_getElem? (i := 552) (by decide +kernel), List.mem_of_getElem? (i := 553) (by decide +kernel)⟩
theorem lw_p22 : lw_okq (⟨"LayerDrawing$Orders", "isBefore", "(II)Z"⟩, 9) := ⟨⟨by decide +kernel, by decide +kernel⟩, List.mem_of_getElem? (i := 183) (by decide +kernel), List.mem_of_getElem? (i := 556) (by decide +kernel), List.mem_of_getElem? (i := 557) (by decide +kernel)⟩
theorem lw_p23 : lw_okq (⟨"LayerDrawing$Orders", "numberRow", "(I)V"⟩, 9) := ⟨⟨by decide +kernel, by decide +kernel⟩, List.mem_of_getElem? (i := 183) (by decide +kernel), List.mem_of_getElem? (i := 560) (by decide +kernel), List.mem_of_getElem? (i := 561) (by decide +kernel)⟩
theorem lw_p24 : lw_okq (⟨"LayerDrawing$Places", "lookUp", "(LLayerDrawing$Pieces;I)V"⟩, 4) := ⟨⟨by decide +kernel, by decide +kernel⟩, List.mem_of_getElem? (i := 257) (by decide +kernel), List.mem_of_getElem? (i := 569) (by decide +kernel), List.mem_of_getElem? (i := 570) (by decide +kernel)⟩
theorem lw_p25 : lw_okq (⟨"LayerDrawing$Places", "wanted", "(II)I"⟩, 4) := ⟨⟨by decide +kernel, by decide +kernel⟩, List.mem_of_getElem? (i := 257) (by decide +kernel), List.mem_of_getElem? (i := 573) (by decide +kernel), List.mem_of_getElem? (i := 574) (by decide +kernel)⟩
theorem lw_p26 : lw_okq (⟨"LayerDrawing$Permuting", "goDown", "(LLayerDrawing$Pieces;LLayerDrawing$Orders;I)V"⟩, 7) := ⟨⟨by decide +kernel, by decide +kernel⟩, List.mem_of_getElem? (i := 228) (by decide +kernel), List.mem_of_getElem? (i := 606) (by decide +kernel), List.mem_of_getElem? (i := 607) (by decide +kernel)⟩
theorem lw_p27 : lw_okq (⟨"LayerDrawing$Permuting", "setPrices", "(LLayerDrawing$Pieces;LLayerDrawing$Orders;I)V"⟩, 7) := ⟨⟨by decide +kernel, by decide +kernel⟩, List.mem_of_getElem? (i := 228) (by decide +kernel), List.mem_of_getElem? (i := 617) (by decide +kernel), List.mem_of_getElem? (i := 618) (by decide +kernel)⟩
theorem lw_p28 : lw_okq (⟨"LayerDrawing$Permuting", "price", "(I)I"⟩, 7) := ⟨⟨by decide +kernel, by decide +kernel⟩, List.mem_of_getElem? (i := 228) (by decide +kernel), List.mem_of_getElem? (i := 621) (by decide +kernel), List.mem_of_getElem? (i := 622) (by decide +kernel)⟩
theorem lw_p29 : lw_okq (⟨"LayerDrawing$Permuting", "least", "(I)I"⟩, 7) := ⟨⟨by decide +kernel, by decide +kernel⟩, List.mem_of_getElem? (i := 228) (by decide +kernel), List.mem_of_getElem? (i := 633) (by decide +kernel), List.mem_of_getElem? (i := 634) (by decide +kernel)⟩
theorem lw_p30 : lw_okq (⟨"LayerDrawing$Tree", "depthOf", "(I)I"⟩, 4) := ⟨⟨by decide +kernel, by decide +kernel⟩, List.mem_of_getElem? (i := 278) (by decide +kernel), List.mem_of_getElem? (i := 668) (by decide +kernel), List.mem_of_getElem? (i := 669) (by decide +kernel)⟩
theorem lw_p31 : lw_okq (⟨"LayerDrawing$Tree", "putPart", "(LLayerDrawing$Graph;I)V"⟩, 4) := ⟨⟨by decide +kernel, by decide +kernel⟩, List.mem_of_getElem? (i := 278) (by decide +kernel), List.mem_of_getElem? (i := 672) (by decide +kernel), List.mem_of_getElem? (i := 673) (by decide +kernel)⟩
def lw_privs_2 : List (MethodName × Nat) := [(⟨"LayerDrawing$Orders", "crossings", "(LLayerDrawing$Pieces;)I"⟩, 9), (⟨"LayerDrawing$Orders", "crossingsIn", "(I[I[I)I"⟩, 9), (⟨"LayerDrawing$Orders", "copyRows", "([[I[[I)V"⟩, 9), (⟨"LayerDrawing$Orders", "sweep", "(LLayerDrawing$Pieces;)V"⟩, 9), (⟨"LayerDrawing$Orders", "findMiddles", "(II[I[I)V"⟩, 9), (⟨"LayerDrawing$Orders", "sortRow", "(I)V"⟩, 9), (⟨"LayerDrawing$Orders", "isBefore", "(II)Z"⟩, 9), (⟨"LayerDrawing$Orders", "numberRow", "(I)V"⟩, 9), (⟨"LayerDrawing$Places", "lookUp", "(LLayerDrawing$Pieces;I)V"⟩, 4), (⟨"LayerDrawing$Places", "wanted", "(II)I"⟩, 4), (⟨"LayerDrawing$Permuting", "goDown", "(LLayerDrawing$Pieces;LLayerDrawing$Orders;I)V"⟩, 7), (⟨"LayerDrawing$Permuting", "setPrices", "(LLayerDrawing$Pieces;LLayerDrawing$Orders;I)V"⟩, 7), (⟨"LayerDrawing$Permuting", "price", "(I)I"⟩, 7), (⟨"LayerDrawing$Permuting", "least", "(I)I"⟩, 7), (⟨"LayerDrawing$Tree", "depthOf", "(I)I"⟩, 4), (⟨"LayerDrawing$Tree", "putPart", "(LLayerDrawing$Graph;I)V"⟩, 4)]
theorem lw_r2 : ∀ q ∈ lw_privs_2, lw_okq q := List.forall_mem_cons.mpr ⟨lw_p16, List.forall_mem_cons.mpr ⟨lw_p17, List.forall_mem_cons.mpr ⟨lw_p18, List.forall_mem_cons.mpr ⟨lw_p19, List.forall_mem_cons.mpr ⟨lw_p20, List.forall_mem_cons.mpr ⟨lw_p21, List.forall_mem_cons.mpr ⟨lw_p22, List.forall_mem_cons.mpr ⟨lw_p23, List.forall_mem_cons.mpr ⟨lw_p24, List.forall_mem_cons.mpr ⟨lw_p25, List.forall_mem_cons.mpr ⟨lw_p26, List.forall_mem_cons.mpr ⟨lw_p27, List.forall_mem_cons.mpr ⟨lw_p28, List.forall_mem_cons.mpr ⟨lw_p29, List.forall_mem_cons.mpr ⟨lw_p30, List.forall_mem_cons.mpr ⟨lw_p31, fun _ h => absurd h List.not_mem_nil⟩⟩⟩⟩⟩⟩⟩⟩⟩⟩⟩⟩⟩⟩⟩⟩
theorem lw_p32 : lw_okq (⟨"LayerDrawing$Tree", "shiftBehind", "(LLayerDrawing$Graph;II)I"⟩, 4) := ⟨⟨by decide +kernel, by decide +kernel⟩, List.mem_of_getElem? (i := 278) (by decide +kernel), List.mem_of_getElem? (i := 676) (by decide +kernel), List.mem_of_getElem? (i := 677) (by decide +kernel)⟩
theorem lw_p33 : lw_okq (⟨"LayerDrawing$Tree", "leftmost", "(II)I"⟩, 4) := ⟨⟨by decide +kernel, by decide +kernel⟩, List.mem_of_getElem? (i := 278) (by decide +kernel), List.mem_of_getElem? (i := 680) (by decide +kernel), List.mem_of_getElem? (i := 681) (by decide +kernel)⟩
theorem lw_p34 : lw_okq (⟨"LayerDrawing$Tree", "move", "(II)V"⟩, 4) := ⟨⟨by decide +kernel, by decide +kernel⟩, List.mem_of_getElem? (i := 278) (by decide +kernel), List.mem_of_getElem? (i := 687) (by decide +kernel), List.mem_of_getElem? (i := 688) (by decide +kernel)⟩
theorem lw_p35 : lw_okq (⟨"LayerDrawing$Tree", "twiceMiddle", "(LLayerDrawing$Graph;I)I"⟩, 4) := ⟨⟨by decide +kernel, by decide +kernel⟩, List.mem_of_getElem? (i := 278) (by decide +kernel), List.mem_of_getElem? (i := 691) (by decide +kernel), List.mem_of_getElem? (i := 692) (by decide +kernel)⟩
theorem lw_p36 : lw_okq (⟨"LayerDrawingModel", "changed", "()V"⟩, 37) := ⟨⟨by decide +kernel, by decide +kernel⟩, List.mem_of_getElem? (i := 698) (by decide +kernel), List.mem_of_getElem? (i := 821) (by decide +kernel), List.mem_of_getElem? (i := 822) (by decide +kernel)⟩
theorem lw_p37 : lw_okq (⟨"LayerDrawingModel", "isNode", "(I)Z"⟩, 37) := ⟨⟨by decide +kernel, by decide +kernel⟩, List.mem_of_getElem? (i := 698) (by decide +kernel), List.mem_of_getElem? (i := 829) (by decide +kernel), List.mem_of_getElem? (i := 830) (by decide +kernel)⟩
theorem lw_p38 : lw_okq (⟨"LayerDrawingModel", "isArc", "(I)Z"⟩, 37) := ⟨⟨by decide +kernel, by decide +kernel⟩, List.mem_of_getElem? (i := 698) (by decide +kernel), List.mem_of_getElem? (i := 841) (by decide +kernel), List.mem_of_getElem? (i := 842) (by decide +kernel)⟩
theorem lw_p39 : lw_okq (⟨"LayerDrawingModel", "make", "()V"⟩, 37) := ⟨⟨by decide +kernel, by decide +kernel⟩, List.mem_of_getElem? (i := 698) (by decide +kernel), List.mem_of_getElem? (i := 853) (by decide +kernel), List.mem_of_getElem? (i := 854) (by decide +kernel)⟩
theorem lw_p40 : lw_okq (⟨"LayerDrawingModel", "findTurned", "()V"⟩, 37) := ⟨⟨by decide +kernel, by decide +kernel⟩, List.mem_of_getElem? (i := 698) (by decide +kernel), List.mem_of_getElem? (i := 857) (by decide +kernel), List.mem_of_getElem? (i := 858) (by decide +kernel)⟩
theorem lw_p41 : lw_okq (⟨"LayerDrawingModel", "leastBack", "()I"⟩, 37) := ⟨⟨by decide +kernel, by decide +kernel⟩, List.mem_of_getElem? (i := 698) (by decide +kernel), List.mem_of_getElem? (i := 861) (by decide +kernel), List.mem_of_getElem? (i := 862) (by decide +kernel)⟩
theorem lw_p42 : lw_okq (⟨"LayerDrawingModel", "findLayers", "()V"⟩, 37) := ⟨⟨by decide +kernel, by decide +kernel⟩, List.mem_of_getElem? (i := 698) (by decide +kernel), List.mem_of_getElem? (i := 866) (by decide +kernel), List.mem_of_getElem? (i := 867) (by decide +kernel)⟩
theorem lw_p43 : lw_okq (⟨"LayerDrawingModel", "change", "(II)I"⟩, 37) := ⟨⟨by decide +kernel, by decide +kernel⟩, List.mem_of_getElem? (i := 698) (by decide +kernel), List.mem_of_getElem? (i := 870) (by decide +kernel), List.mem_of_getElem? (i := 871) (by decide +kernel)⟩
theorem lw_p44 : lw_okq (⟨"LayerDrawingModel", "move", "(II)V"⟩, 37) := ⟨⟨by decide +kernel, by decide +kernel⟩, List.mem_of_getElem? (i := 698) (by decide +kernel), List.mem_of_getElem? (i := 874) (by decide +kernel), List.mem_of_getElem? (i := 875) (by decide +kernel)⟩
theorem lw_p45 : lw_okq (⟨"LayerDrawingModel", "isAbove", "(I)Z"⟩, 37) := ⟨⟨by decide +kernel, by decide +kernel⟩, List.mem_of_getElem? (i := 698) (by decide +kernel), List.mem_of_getElem? (i := 878) (by decide +kernel), List.mem_of_getElem? (i := 879) (by decide +kernel)⟩
theorem lw_p46 : lw_okq (⟨"LayerDrawingModel", "layerCount", "()I"⟩, 37) := ⟨⟨by decide +kernel, by decide +kernel⟩, List.mem_of_getElem? (i := 698) (by decide +kernel), List.mem_of_getElem? (i := 894) (by decide +kernel), List.mem_of_getElem? (i := 895) (by decide +kernel)⟩
theorem lw_p47 : lw_okq (⟨"LayerDrawingModel", "lengthOf", "([I)I"⟩, 37) := ⟨⟨by decide +kernel, by decide +kernel⟩, List.mem_of_getElem? (i := 698) (by decide +kernel), List.mem_of_getElem? (i := 902) (by decide +kernel), List.mem_of_getElem? (i := 903) (by decide +kernel)⟩
def lw_privs_3 : List (MethodName × Nat) := [(⟨"LayerDrawing$Tree", "shiftBehind", "(LLayerDrawing$Graph;II)I"⟩, 4), (⟨"LayerDrawing$Tree", "leftmost", "(II)I"⟩, 4), (⟨"LayerDrawing$Tree", "move", "(II)V"⟩, 4), (⟨"LayerDrawing$Tree", "twiceMiddle", "(LLayerDrawing$Graph;I)I"⟩, 4), (⟨"LayerDrawingModel", "changed", "()V"⟩, 37), (⟨"LayerDrawingModel", "isNode", "(I)Z"⟩, 37), (⟨"LayerDrawingModel", "isArc", "(I)Z"⟩, 37), (⟨"LayerDrawingModel", "make", "()V"⟩, 37), (⟨"LayerDrawingModel", "findTurned", "()V"⟩, 37), (⟨"LayerDrawingModel", "leastBack", "()I"⟩, 37), (⟨"LayerDrawingModel", "findLayers", "()V"⟩, 37), (⟨"LayerDrawingModel", "change", "(II)I"⟩, 37), (⟨"LayerDrawingModel", "move", "(II)V"⟩, 37), (⟨"LayerDrawingModel", "isAbove", "(I)Z"⟩, 37), (⟨"LayerDrawingModel", "layerCount", "()I"⟩, 37), (⟨"LayerDrawingModel", "lengthOf", "([I)I"⟩, 37)]
theorem lw_r3 : ∀ q ∈ lw_privs_3, lw_okq q := List.forall_mem_cons.mpr ⟨lw_p32, List.forall_mem_cons.mpr ⟨lw_p33, List.forall_mem_cons.mpr ⟨lw_p34, List.forall_mem_cons.mpr ⟨lw_p35, List.forall_mem_cons.mpr ⟨lw_p36, List.forall_mem_cons.mpr ⟨lw_p37, List.forall_mem_cons.mpr ⟨lw_p38, List.forall_mem_cons.mpr ⟨lw_p39, List.forall_mem_cons.mpr ⟨lw_p40, List.forall_mem_cons.mpr ⟨lw_p41, List.forall_mem_cons.mpr ⟨lw_p42, List.forall_mem_cons.mpr ⟨lw_p43, List.forall_mem_cons.mpr ⟨lw_p44, List.forall_mem_cons.mpr ⟨lw_p45, List.forall_mem_cons.mpr ⟨lw_p46, List.forall_mem_cons.mpr ⟨lw_p47, fun _ h => absurd h List.not_mem_nil⟩⟩⟩⟩⟩⟩⟩⟩⟩⟩⟩⟩⟩⟩⟩⟩
theorem lw_p48 : lw_okq (⟨"LayerDrawingModel", "bendCount", "()I"⟩, 37) := ⟨⟨by decide +kernel, by decide +kernel⟩, List.mem_of_getElem? (i := 698) (by decide +kernel), List.mem_of_getElem? (i := 910) (by decide +kernel), List.mem_of_getElem? (i := 911) (by decide +kernel)⟩
theorem lw_p49 : lw_okq (⟨"LayerDrawingModel", "lay", "()V"⟩, 37) := ⟨⟨by decide +kernel, by decide +kernel⟩, List.mem_of_getElem? (i := 698) (by decide +kernel), List.mem_of_getElem? (i := 918) (by decide +kernel), List.mem_of_getElem? (i := 919) (by decide +kernel)⟩
theorem lw_p50 : lw_okq (⟨"LayerDrawingModel", "crossings", "()I"⟩, 37) := ⟨⟨by decide +kernel, by decide +kernel⟩, List.mem_of_getElem? (i := 698) (by decide +kernel), List.mem_of_getElem? (i := 922) (by decide +kernel), List.mem_of_getElem? (i := 923) (by decide +kernel)⟩
theorem lw_p51 : lw_okq (⟨"LayerDrawingModel", "keep", "(II)V"⟩, 37) := ⟨⟨by decide +kernel, by decide +kernel⟩, List.mem_of_getElem? (i := 698) (by decide +kernel), List.mem_of_getElem? (i := 926) (by decide +kernel), List.mem_of_getElem? (i := 927) (by decide +kernel)⟩
theorem lw_p52 : lw_okq (⟨"LayerDrawingModel", "sort", "(IZ)V"⟩, 37) := ⟨⟨by decide +kernel, by decide +kernel⟩, List.mem_of_getElem? (i := 698) (by decide +kernel), List.mem_of_getElem? (i := 930) (by decide +kernel), List.mem_of_getElem? (i := 931) (by decide +kernel)⟩
theorem lw_p53 : lw_okq (⟨"LayerDrawingModel", "setSpots", "(I)V"⟩, 37) := ⟨⟨by decide +kernel, by decide +kernel⟩, List.mem_of_getElem? (i := 698) (by decide +kernel), List.mem_of_getElem? (i := 934) (by decide +kernel), List.mem_of_getElem? (i := 935) (by decide +kernel)⟩
theorem lw_p54 : lw_okq (⟨"LayerDrawingModel", "findPlaces", "(I)V"⟩, 37) := ⟨⟨by decide +kernel, by decide +kernel⟩, List.mem_of_getElem? (i := 698) (by decide +kernel), List.mem_of_getElem? (i := 938) (by decide +kernel), List.mem_of_getElem? (i := 939) (by decide +kernel)⟩
theorem lw_p55 : lw_okq (⟨"LayerDrawingModel", "widthOf", "(I)I"⟩, 37) := ⟨⟨by decide +kernel, by decide +kernel⟩, List.mem_of_getElem? (i := 698) (by decide +kernel), List.mem_of_getElem? (i := 942) (by decide +kernel), List.mem_of_getElem? (i := 943) (by decide +kernel)⟩
theorem lw_p56 : lw_okq (⟨"LayerDrawingModel", "first", "(I)V"⟩, 37) := ⟨⟨by decide +kernel, by decide +kernel⟩, List.mem_of_getElem? (i := 698) (by decide +kernel), List.mem_of_getElem? (i := 966) (by decide +kernel), List.mem_of_getElem? (i := 967) (by decide +kernel)⟩
theorem lw_p57 : lw_okq (⟨"LayerDrawingModel", "next", "(I)Z"⟩, 37) := ⟨⟨by decide +kernel, by decide +kernel⟩, List.mem_of_getElem? (i := 698) (by decide +kernel), List.mem_of_getElem? (i := 970) (by decide +kernel), List.mem_of_getElem? (i := 971) (by decide +kernel)⟩
theorem lw_p58 : lw_okq (⟨"LayerDrawingModel", "isTree", "()Z"⟩, 37) := ⟨⟨by decide +kernel, by decide +kernel⟩, List.mem_of_getElem? (i := 698) (by decide +kernel), List.mem_of_getElem? (i := 990) (by decide +kernel), List.mem_of_getElem? (i := 991) (by decide +kernel)⟩
theorem lw_p59 : lw_okq (⟨"LayerDrawingModel", "join", "(I)V"⟩, 37) := ⟨⟨by decide +kernel, by decide +kernel⟩, List.mem_of_getElem? (i := 698) (by decide +kernel), List.mem_of_getElem? (i := 994) (by decide +kernel), List.mem_of_getElem? (i := 995) (by decide +kernel)⟩
theorem lw_p60 : lw_okq (⟨"LayerDrawingModel", "room", "(II)I"⟩, 37) := ⟨⟨by decide +kernel, by decide +kernel⟩, List.mem_of_getElem? (i := 698) (by decide +kernel), List.mem_of_getElem? (i := 998) (by decide +kernel), List.mem_of_getElem? (i := 999) (by decide +kernel)⟩
theorem lw_p61 : lw_okq (⟨"LayerDrawingModel", "shift", "(II)V"⟩, 37) := ⟨⟨by decide +kernel, by decide +kernel⟩, List.mem_of_getElem? (i := 698) (by decide +kernel), List.mem_of_getElem? (i := 1002) (by decide +kernel), List.mem_of_getElem? (i := 1003) (by decide +kernel)⟩
def lw_privs_4 : List (MethodName × Nat) := [(⟨"LayerDrawingModel", "bendCount", "()I"⟩, 37), (⟨"LayerDrawingModel", "lay", "()V"⟩, 37), (⟨"LayerDrawingModel", "crossings", "()I"⟩, 37), (⟨"LayerDrawingModel", "keep", "(II)V"⟩, 37), (⟨"LayerDrawingModel", "sort", "(IZ)V"⟩, 37), (⟨"LayerDrawingModel", "setSpots", "(I)V"⟩, 37), (⟨"LayerDrawingModel", "findPlaces", "(I)V"⟩, 37), (⟨"LayerDrawingModel", "widthOf", "(I)I"⟩, 37), (⟨"LayerDrawingModel", "first", "(I)V"⟩, 37), (⟨"LayerDrawingModel", "next", "(I)Z"⟩, 37), (⟨"LayerDrawingModel", "isTree", "()Z"⟩, 37), (⟨"LayerDrawingModel", "join", "(I)V"⟩, 37), (⟨"LayerDrawingModel", "room", "(II)I"⟩, 37), (⟨"LayerDrawingModel", "shift", "(II)V"⟩, 37)]
theorem lw_r4 : ∀ q ∈ lw_privs_4, lw_okq q := List.forall_mem_cons.mpr ⟨lw_p48, List.forall_mem_cons.mpr ⟨lw_p49, List.forall_mem_cons.mpr ⟨lw_p50, List.forall_mem_cons.mpr ⟨lw_p51, List.forall_mem_cons.mpr ⟨lw_p52, List.forall_mem_cons.mpr ⟨lw_p53, List.forall_mem_cons.mpr ⟨lw_p54, List.forall_mem_cons.mpr ⟨lw_p55, List.forall_mem_cons.mpr ⟨lw_p56, List.forall_mem_cons.mpr ⟨lw_p57, List.forall_mem_cons.mpr ⟨lw_p58, List.forall_mem_cons.mpr ⟨lw_p59, List.forall_mem_cons.mpr ⟨lw_p60, List.forall_mem_cons.mpr ⟨lw_p61, fun _ h => absurd h List.not_mem_nil⟩⟩⟩⟩⟩⟩⟩⟩⟩⟩⟩⟩⟩⟩
def lw_privs : List (MethodName × Nat) := lw_privs_1 ++ (lw_privs_2 ++ (lw_privs_3 ++ (lw_privs_4)))
def lw_tbl : List Cond := k2_sels lw_privs ++ tables_1
theorem lw_privs_ok : ∀ q ∈ lw_privs, lw_okq q := by
  show ∀ q ∈ lw_privs_1 ++ (lw_privs_2 ++ (lw_privs_3 ++ (lw_privs_4))), lw_okq q
  exact List.forall_mem_append.mpr ⟨lw_r1, List.forall_mem_append.mpr ⟨lw_r2, List.forall_mem_append.mpr ⟨lw_r3, lw_r4⟩⟩⟩
end
section
def pg_cns : List String := ["LayerDrawing$Graph", "LayerDrawing$Layering", "LayerDrawing$Orders", "LayerDrawing$Permuting", "LayerDrawing$Pieces", "LayerDrawing$Places", "LayerDrawing$Tree", "LayerDrawing$Turning", "LayerDrawing", "LayerDrawingModel", "LayerDrawingLaw", "java/lang/Math", "java/util/Arrays"]
def pg_cn (o : Nat) : String := pg_cns.getD o ""
def TF0 : u_T := fun k => match k with
  | 0 => ("LayerDrawing$Graph", "widths", "[I", true)
  | 1 => ("LayerDrawing$Graph", "from", "[I", true)
  | 2 => ("LayerDrawing$Graph", "to", "[I", true)
  | 3 => ("LayerDrawing$Graph", "there", "[Z", true)
  | 4 => ("LayerDrawing$Graph", "nodes", "I", false)
  | 5 => ("LayerDrawing$Graph", "made", "I", false)
  | _ => ("LayerDrawing$Graph", "kept", "I", false)
def TF1 : u_T := fun k => match k with
  | 0 => ("LayerDrawing$Layering", "upper", "[I", true)
  | 1 => ("LayerDrawing$Layering", "lower", "[I", true)
  | 2 => ("LayerDrawing$Layering", "flow", "[I", true)
  | 3 => ("LayerDrawing$Layering", "layerOf", "[I", true)
  | 4 => ("LayerDrawing$Layering", "raisedBy", "[I", true)
  | 5 => ("LayerDrawing$Layering", "layerCount", "I", false)
  | 6 => ("LayerDrawing$Layering", "totalLength", "I", false)
  | _ => ("LayerDrawing$Layering", "bendCount", "I", false)
def TF2 : u_T := fun k => match k with
  | 0 => ("LayerDrawing$Orders", "sizes", "[I", true)
  | 1 => ("LayerDrawing$Orders", "rows", "[[I", true)
  | 2 => ("LayerDrawing$Orders", "meant", "[[I", true)
  | 3 => ("LayerDrawing$Orders", "at", "[I", true)
  | 4 => ("LayerDrawing$Orders", "sums", "[I", true)
  | 5 => ("LayerDrawing$Orders", "joined", "[I", true)
  | 6 => ("LayerDrawing$Orders", "layerCount", "I", false)
  | 7 => ("LayerDrawing$Orders", "fewestMet", "I", false)
  | _ => ("LayerDrawing$Orders", "roundMet", "I", false)
def TF3 : u_T := fun k => match k with
  | 0 => ("LayerDrawing$Permuting", "best", "[I", true)
  | 1 => ("LayerDrawing$Permuting", "next", "[I", true)
  | 2 => ("LayerDrawing$Permuting", "upperOrder", "[I", true)
  | 3 => ("LayerDrawing$Permuting", "upperAt", "[I", true)
  | 4 => ("LayerDrawing$Permuting", "lowerOrder", "[I", true)
  | 5 => ("LayerDrawing$Permuting", "prices", "[I", true)
  | _ => ("LayerDrawing$Permuting", "answer", "I", false)
def TF4 : u_T := fun k => match k with
  | 0 => ("LayerDrawing$Pieces", "firstBend", "[I", true)
  | 1 => ("LayerDrawing$Pieces", "itemWidths", "[I", true)
  | 2 => ("LayerDrawing$Pieces", "counts", "[I", true)
  | 3 => ("LayerDrawing$Pieces", "tops", "[[I", true)
  | 4 => ("LayerDrawing$Pieces", "feet", "[[I", true)
  | _ => ("LayerDrawing$Pieces", "end", "I", false)
def TF5 : u_T := fun k => match k with
  | 0 => ("LayerDrawing$Places", "leftEnds", "[I", true)
  | 1 => ("LayerDrawing$Places", "sums", "[I", true)
  | 2 => ("LayerDrawing$Places", "joined", "[I", true)
  | _ => ("LayerDrawing$Places", "rightmost", "I", false)
def TF6 : u_T := fun k => match k with
  | 0 => ("LayerDrawing$Tree", "leftEnds", "[I", true)
  | 1 => ("LayerDrawing$Tree", "parents", "[I", true)
  | 2 => ("LayerDrawing$Tree", "depths", "[I", true)
  | _ => ("LayerDrawing$Tree", "parts", "[I", true)
def TF7 : u_T := fun k => match k with
  | 0 => ("LayerDrawing$Turning", "costs", "[I", true)
  | 1 => ("LayerDrawing$Turning", "prices", "[I", true)
  | 2 => ("LayerDrawing$Turning", "followers", "[I", true)
  | 3 => ("LayerDrawing$Turning", "marks", "I", false)
  | _ => ("LayerDrawing$Turning", "size", "I", false)
def TF8 : u_T := fun k => match k with
  | 0 => ("LayerDrawing", "graph", "LLayerDrawing$Graph;", true)
  | 1 => ("LayerDrawing", "turning", "LLayerDrawing$Turning;", true)
  | 2 => ("LayerDrawing", "layering", "LLayerDrawing$Layering;", true)
  | 3 => ("LayerDrawing", "pieces", "LLayerDrawing$Pieces;", true)
  | 4 => ("LayerDrawing", "orders", "LLayerDrawing$Orders;", true)
  | 5 => ("LayerDrawing", "permuting", "LLayerDrawing$Permuting;", true)
  | 6 => ("LayerDrawing", "places", "LLayerDrawing$Places;", true)
  | 7 => ("LayerDrawing", "tree", "LLayerDrawing$Tree;", true)
  | 8 => ("LayerDrawing", "settled", "Z", false)
  | 9 => ("LayerDrawing", "ran", "Z", false)
  | 10 => ("LayerDrawing", "permuted", "Z", false)
  | _ => ("LayerDrawing", "grown", "Z", false)
def TF9 : u_T := fun k => match k with
  | 0 => ("LayerDrawingModel", "nodes", "I", false)
  | 1 => ("LayerDrawingModel", "arcs", "I", false)
  | 2 => ("LayerDrawingModel", "left", "I", false)
  | 3 => ("LayerDrawingModel", "widths", "[I", true)
  | 4 => ("LayerDrawingModel", "froms", "[I", true)
  | 5 => ("LayerDrawingModel", "tos", "[I", true)
  | 6 => ("LayerDrawingModel", "there", "[Z", true)
  | 7 => ("LayerDrawingModel", "isNew", "Z", false)
  | 8 => ("LayerDrawingModel", "hasRun", "Z", false)
  | 9 => ("LayerDrawingModel", "turned", "[Z", true)
  | 10 => ("LayerDrawingModel", "layers", "[I", true)
  | 11 => ("LayerDrawingModel", "uppers", "[I", true)
  | 12 => ("LayerDrawingModel", "lowers", "[I", true)
  | 13 => ("LayerDrawingModel", "costs", "[I", true)
  | 14 => ("LayerDrawingModel", "best", "[I", true)
  | 15 => ("LayerDrawingModel", "back", "[I", true)
  | 16 => ("LayerDrawingModel", "backTo", "[I", true)
  | 17 => ("LayerDrawingModel", "layerOf", "[I", true)
  | 18 => ("LayerDrawingModel", "isItem", "[Z", true)
  | 19 => ("LayerDrawingModel", "firstBend", "[I", true)
  | 20 => ("LayerDrawingModel", "pieceUp", "[I", true)
  | 21 => ("LayerDrawingModel", "pieceDown", "[I", true)
  | 22 => ("LayerDrawingModel", "pieces", "I", false)
  | 23 => ("LayerDrawingModel", "order", "[I", true)
  | 24 => ("LayerDrawingModel", "sizes", "[I", true)
  | 25 => ("LayerDrawingModel", "spot", "[I", true)
  | 26 => ("LayerDrawingModel", "meant", "[I", true)
  | 27 => ("LayerDrawingModel", "meantRound", "I", false)
  | 28 => ("LayerDrawingModel", "meantCrossings", "I", false)
  | 29 => ("LayerDrawingModel", "places", "[I", true)
  | 30 => ("LayerDrawingModel", "sums", "[I", true)
  | 31 => ("LayerDrawingModel", "counts", "[I", true)
  | 32 => ("LayerDrawingModel", "parents", "[I", true)
  | 33 => ("LayerDrawingModel", "depths", "[I", true)
  | 34 => ("LayerDrawingModel", "parts", "[I", true)
  | 35 => ("LayerDrawingModel", "tidies", "[I", true)
  | _ => ("LayerDrawingModel", "rights", "[I", true)
abbrev pg_cl : List vw_C := [("LayerDrawing$Graph", TF0, 7), ("LayerDrawing$Layering", TF1, 8), ("LayerDrawing$Orders", TF2, 9), ("LayerDrawing$Permuting", TF3, 7), ("LayerDrawing$Pieces", TF4, 6), ("LayerDrawing$Places", TF5, 4), ("LayerDrawing$Tree", TF6, 4), ("LayerDrawing$Turning", TF7, 5), ("LayerDrawing", TF8, 12), ("LayerDrawingModel", TF9, 37)]
def pg_nfs : List Nat := [7, 8, 9, 7, 6, 4, 4, 5, 12, 37]
def pg_nf (ci : Nat) : Nat := pg_nfs.getD ci 0
def pg_tys : List (List (FieldType × Bool)) := [[(.array .int, true), (.array .int, true), (.array .int, true), (.array .boolean, true), (.int, false), (.int, false), (.int, false)], [(.array .int, true), (.array .int, true), (.array .int, true), (.array .int, true), (.array .int, true), (.int, false), (.int, false), (.int, false)], [(.array .int, true), (.array (.array .int), true), (.array (.array .int), true), (.array .int, true), (.array .int, true), (.array .int, true), (.int, false), (.int, false), (.int, false)], [(.array .int, true), (.array .int, true), (.array .int, true), (.array .int, true), (.array .int, true), (.array .int, true), (.int, false)], [(.array .int, true), (.array .int, true), (.array .int, true), (.array (.array .int), true), (.array (.array .int), true), (.int, false)], [(.array .int, true), (.array .int, true), (.array .int, true), (.int, false)], [(.array .int, true), (.array .int, true), (.array .int, true), (.array .int, true)], [(.array .int, true), (.array .int, true), (.array .int, true), (.int, false), (.int, false)], [(.object "LayerDrawing$Graph", true), (.object "LayerDrawing$Turning", true), (.object "LayerDrawing$Layering", true), (.object "LayerDrawing$Pieces", true), (.object "LayerDrawing$Orders", true), (.object "LayerDrawing$Permuting", true), (.object "LayerDrawing$Places", true), (.object "LayerDrawing$Tree", true), (.boolean, false), (.boolean, false), (.boolean, false), (.boolean, false)], [(.int, false), (.int, false), (.int, false), (.array .int, true), (.array .int, true), (.array .int, true), (.array .boolean, true), (.boolean, false), (.boolean, false), (.array .boolean, true), (.array .int, true), (.array .int, true), (.array .int, true), (.array .int, true), (.array .int, true), (.array .int, true), (.array .int, true), (.array .int, true), (.array .boolean, true), (.array .int, true), (.array .int, true), (.array .int, true), (.int, false), (.array .int, true), (.array .int, true), (.array .int, true), (.array .int, true), (.int, false), (.int, false), (.array .int, true), (.array .int, true), (.array .int, true), (.array .int, true), (.array .int, true), (.array .int, true), (.array .int, true), (.array .int, true)]]
def pg_ty (ci k : Nat) : FieldType := ((pg_tys.getD ci []).getD k (.int, false)).1
def pg_fin (ci k : Nat) : Bool := ((pg_tys.getD ci []).getD k (.int, false)).2
def pg_isR (t : FieldType) : Bool := match t with | .int => false | .boolean => false | _ => true
def pg_fr (ci k : Nat) : Bool := pg_isR (pg_ty ci k)
def pg_flds : List (List (Nat × Nat × Nat)) := [[(9, 0, 0), (15, 0, 1), (18, 0, 2), (21, 0, 3), (25, 0, 4), (29, 0, 5), (32, 0, 6)], [(9, 1, 0), (15, 1, 1), (18, 1, 2), (21, 1, 3), (24, 1, 4), (27, 1, 5), (31, 1, 6), (34, 1, 7), (37, 0, 5), (48, 0, 2), (51, 0, 1), (64, 0, 4), (75, 0, 3), (104, 0, 6)], [(9, 2, 0), (17, 2, 1), (20, 2, 2), (23, 2, 3), (26, 2, 4), (29, 2, 5), (32, 2, 6), (36, 2, 7), (39, 2, 8), (62, 1, 5), (71, 0, 4), (76, 1, 3), (83, 0, 5), (86, 0, 3), (94, 1, 0), (109, 4, 2), (112, 4, 4), (115, 4, 3)], [(9, 3, 0), (15, 3, 1), (18, 3, 2), (21, 3, 3), (24, 3, 4), (27, 3, 5), (30, 3, 6), (44, 2, 6), (53, 2, 0), (91, 4, 3), (97, 4, 4), (100, 4, 2), (103, 2, 3)], [(9, 4, 0), (15, 4, 1), (18, 4, 2), (23, 4, 3), (26, 4, 4), (29, 4, 5), (33, 1, 0), (42, 1, 1), (51, 0, 0), (56, 0, 4), (65, 0, 5), (68, 0, 3), (76, 1, 3)], [(9, 5, 0), (15, 5, 1), (18, 5, 2), (21, 5, 3), (31, 2, 6), (40, 2, 0), (43, 2, 1), (47, 4, 1), (61, 4, 2), (64, 4, 3), (67, 4, 4)], [(9, 6, 0), (15, 6, 1), (18, 6, 2), (21, 6, 3), (30, 0, 5), (36, 0, 3), (40, 0, 2), (43, 0, 1), (46, 0, 6), (49, 0, 4), (78, 0, 0)], [(9, 7, 0), (15, 7, 1), (18, 7, 2), (21, 7, 3), (25, 7, 4), (44, 0, 4), (49, 0, 5), (52, 0, 1), (55, 0, 2), (58, 0, 3)], [(12, 8, 0), (19, 8, 1), (26, 8, 2), (33, 8, 3), (40, 8, 4), (47, 8, 5), (54, 8, 6), (61, 8, 7), (65, 8, 8), (69, 8, 9), (72, 8, 10), (75, 8, 11), (82, 0, 4), (99, 0, 0), (103, 0, 5), (117, 0, 6), (126, 7, 4), (132, 1, 3), (135, 1, 5), (138, 1, 6), (141, 1, 7), (156, 2, 7), (159, 2, 8), (165, 2, 0), (168, 2, 1), (174, 3, 6), (180, 5, 0), (190, 5, 3), (201, 6, 0)], [(7, 9, 3), (13, 9, 4), (16, 9, 5), (19, 9, 6), (23, 9, 7), (27, 9, 9), (30, 9, 10), (33, 9, 11), (36, 9, 12), (39, 9, 13), (42, 9, 14), (45, 9, 15), (49, 9, 16), (52, 9, 17), (55, 9, 18), (58, 9, 19), (61, 9, 20), (64, 9, 21), (67, 9, 23), (70, 9, 24), (73, 9, 25), (76, 9, 26), (79, 9, 29), (82, 9, 30), (85, 9, 31), (88, 9, 32), (91, 9, 33), (94, 9, 34), (97, 9, 35), (100, 9, 36), (103, 9, 8), (106, 9, 0), (110, 9, 1), (120, 9, 2), (161, 9, 22), (168, 9, 27), (171, 9, 28)], [], [], []]
def pg_fld (o i : Nat) : Option (Nat × Nat) := (pg_flds.getD o []).lookup i
def pg_mths : List (List (Nat × Nat)) := [[], [(42, 132), (54, 141), (60, 83), (67, 85), (71, 88), (79, 84), (89, 86), (98, 87), (101, 81)], [(42, 92), (46, 100), (50, 94), (54, 95), (58, 99), (65, 141), (79, 93), (90, 81), (97, 115), (118, 96), (122, 97), (125, 98), (129, 101)], [(34, 104), (38, 141), (49, 107), (56, 105), (60, 106), (72, 110), (76, 108), (79, 109), (82, 111), (106, 112)], [(38, 81), (45, 141), (72, 117), (79, 115)], [(25, 141), (36, 120), (52, 121)], [(24, 141), (52, 125), (56, 126), (60, 128), (64, 130), (68, 127), (72, 140), (81, 129)], [(28, 134), (32, 135), (36, 136), (40, 137), (62, 141), (68, 138), (74, 139)], [(11, 73), (18, 131), (25, 80), (32, 113), (39, 89), (46, 102), (53, 118), (60, 122), (78, 21), (86, 22), (89, 76), (93, 74), (96, 23), (106, 77), (110, 75), (113, 78), (120, 79), (123, 24), (129, 132), (144, 116), (148, 91), (152, 119), (162, 90), (172, 103), (177, 114), (183, 81), (186, 115), (193, 123), (197, 124), (202, 133), (204, 82)], [(113, 26), (116, 27), (123, 28), (127, 34), (131, 37), (135, 39), (139, 38), (142, 35), (145, 40), (148, 41), (151, 45), (154, 36), (158, 48), (164, 53), (174, 50), (177, 51), (180, 54), (183, 52), (187, 58), (190, 56), (194, 57), (199, 63), (202, 64), (205, 68), (209, 70), (212, 72), (215, 71)], [(9, 0), (12, 25), (13, 1), (17, 29), (18, 2), (22, 30), (23, 3), (26, 31), (27, 4), (30, 32), (31, 5), (35, 33), (36, 6), (39, 42), (40, 7), (43, 43), (44, 8), (47, 44), (48, 9), (51, 46), (52, 10), (55, 47), (56, 11), (59, 49), (60, 12), (63, 55), (64, 13), (67, 59), (68, 14), (71, 60), (72, 15), (75, 61), (76, 16), (79, 62), (80, 17), (83, 65), (84, 18), (87, 66), (88, 19), (91, 67), (92, 20), (95, 69)], [], []]
def pg_mth (o i : Nat) : Option Nat := (pg_mths.getD o []).lookup i
/-- 0 an own method or none, 1 Object.<init>, 2 Math.max, 3 Math.min, 4 System.arraycopy -/
def pg_sps : List (List (Nat × Nat)) := [[(3, 1)], [(3, 1), (83, 2), (95, 3)], [(3, 1), (103, 4)], [(3, 1), (63, 3), (85, 4)], [(3, 1), (59, 4)], [(3, 1), (56, 2)], [(3, 1), (84, 2), (90, 3)], [(3, 1), (78, 3)], [(3, 1)], [(1, 1)], [], [], []]
def pg_sp (o i : Nat) : Option Nat := (pg_sps.getD o []).lookup i
def pg_news : List (List (Nat × Nat)) := [[], [], [], [], [], [], [], [], [(9, 0), (16, 7), (23, 1), (30, 4), (37, 2), (44, 3), (51, 5), (58, 6)], [], [(7, 8), (10, 9)], [], []]
def pg_new (o i : Nat) : Option Nat := (pg_news.getD o []).lookup i
/-- pool entries that name int[][] -/
def pg_grs : List (List (Nat × Nat)) := [[], [], [(15, 1)], [], [(21, 1)], [], [], [], [], [], [], [], []]
def pg_gr (o i : Nat) : Option Nat := (pg_grs.getD o []).lookup i
def pg_ldcs : List (List (Nat × Int32)) := [[], [(94, 2147483647)], [], [(71, 2147483647)], [], [], [(89, 2147483647)], [(43, 16777216), (73, 2147483647)], [], [(48, 49152), (126, 1000000)], [], [], []]
def pg_ldc (o i : Nat) : Option Int32 := (pg_ldcs.getD o []).lookup i
def pg_ldl (o i : Nat) : Option Int64 := if o = 9 ∧ i = 197 then some 5000 else none
def pg_codes : List ByteArray := [prog_1_method_1_code, prog_1_method_2_code, prog_1_method_3_code, prog_1_method_4_code, prog_1_method_5_code, prog_1_method_6_code, prog_1_method_7_code, prog_1_method_8_code, prog_1_method_9_code, prog_1_method_10_code, prog_1_method_11_code, prog_1_method_12_code, prog_1_method_13_code, prog_1_method_14_code, prog_1_method_15_code, prog_1_method_16_code, prog_1_method_17_code, prog_1_method_18_code, prog_1_method_19_code, prog_1_method_20_code, prog_1_method_21_code, prog_1_method_22_code, prog_1_method_23_code, prog_1_method_24_code, prog_1_method_25_code, prog_11_method_1_code, prog_11_method_2_code, prog_11_method_3_code, prog_11_method_4_code, prog_11_method_5_code, prog_11_method_6_code, prog_11_method_7_code, prog_11_method_8_code, prog_11_method_9_code, prog_11_method_10_code, prog_11_method_11_code, prog_11_method_12_code, prog_11_method_13_code, prog_11_method_14_code, prog_11_method_15_code, prog_11_method_16_code, prog_11_method_17_code, prog_11_method_18_code, prog_11_method_19_code, prog_11_method_20_code, prog_11_method_21_code, prog_11_method_22_code, prog_11_method_23_code, prog_11_method_24_code, prog_11_method_25_code, prog_11_method_26_code, prog_11_method_27_code, prog_11_method_28_code, prog_11_method_29_code, prog_11_method_30_code, prog_11_method_31_code, prog_11_method_32_code, prog_11_method_33_code, prog_11_method_34_code, prog_11_method_35_code, prog_11_method_36_code, prog_11_method_37_code, prog_11_method_38_code, prog_11_method_39_code, prog_11_method_40_code, prog_11_method_41_code, prog_11_method_42_code, prog_11_method_43_code, prog_11_method_44_code, prog_11_method_45_code, prog_11_method_46_code, prog_11_method_47_code, prog_11_method_48_code, prog_2_method_1_code, prog_2_method_2_code, prog_2_method_3_code, prog_2_method_4_code, prog_2_method_5_code, prog_2_method_6_code, prog_2_method_7_code, prog_3_method_1_code, prog_3_method_2_code, prog_3_method_3_code, prog_3_method_4_code, prog_3_method_5_code, prog_3_method_6_code, prog_3_method_7_code, prog_3_method_8_code, prog_3_method_9_code, prog_4_method_1_code, prog_4_method_2_code, prog_4_method_3_code, prog_4_method_4_code, prog_4_method_5_code, prog_4_method_6_code, prog_4_method_7_code, prog_4_method_8_code, prog_4_method_9_code, prog_4_method_10_code, prog_4_method_11_code, prog_4_method_12_code, prog_4_method_13_code, prog_5_method_1_code, prog_5_method_2_code, prog_5_method_3_code, prog_5_method_4_code, prog_5_method_5_code, prog_5_method_6_code, prog_5_method_7_code, prog_5_method_8_code, prog_5_method_9_code, prog_5_method_10_code, prog_5_method_11_code, prog_6_method_1_code, prog_6_method_2_code, prog_6_method_3_code, prog_6_method_4_code, prog_6_method_5_code, prog_7_method_1_code, prog_7_method_2_code, prog_7_method_3_code, prog_7_method_4_code, prog_8_method_1_code, prog_8_method_2_code, prog_8_method_3_code, prog_8_method_4_code, prog_8_method_5_code, prog_8_method_6_code, prog_8_method_7_code, prog_8_method_8_code, prog_8_method_9_code, prog_9_method_1_code, prog_9_method_2_code, prog_9_method_3_code, prog_9_method_4_code, prog_9_method_5_code, prog_9_method_6_code, prog_9_method_7_code, prog_9_method_8_code, prog_9_method_9_code, prog_12_method_47_code, prog_14_method_103_code]
def pg_code (y : Nat) : ByteArray := pg_codes.getD y ⟨#[]⟩
def pg_names : List MethodName := [⟨"LayerDrawing", "<init>", "()V"⟩, ⟨"LayerDrawing", "node", "(I)I"⟩, ⟨"LayerDrawing", "width", "(II)I"⟩, ⟨"LayerDrawing", "arc", "(II)I"⟩, ⟨"LayerDrawing", "drop", "(I)I"⟩, ⟨"LayerDrawing", "clear", "()I"⟩, ⟨"LayerDrawing", "turns", "()I"⟩, ⟨"LayerDrawing", "turned", "(I)I"⟩, ⟨"LayerDrawing", "layer", "(I)I"⟩, ⟨"LayerDrawing", "layers", "()I"⟩, ⟨"LayerDrawing", "length", "()I"⟩, ⟨"LayerDrawing", "bends", "()I"⟩, ⟨"LayerDrawing", "run", "(I)I"⟩, ⟨"LayerDrawing", "round", "()I"⟩, ⟨"LayerDrawing", "count", "(I)I"⟩, ⟨"LayerDrawing", "item", "(II)I"⟩, ⟨"LayerDrawing", "fewest", "()I"⟩, ⟨"LayerDrawing", "place", "(I)I"⟩, ⟨"LayerDrawing", "route", "(II)I"⟩, ⟨"LayerDrawing", "wide", "()I"⟩, ⟨"LayerDrawing", "tidy", "(I)I"⟩, ⟨"LayerDrawing", "isWidth", "(I)Z"⟩, ⟨"LayerDrawing", "forgetAll", "()V"⟩, ⟨"LayerDrawing", "forgetDrawings", "()V"⟩, ⟨"LayerDrawing", "settle", "()V"⟩, ⟨"LayerDrawingModel", "<init>", "()V"⟩, ⟨"LayerDrawingModel", "changed", "()V"⟩, ⟨"LayerDrawingModel", "isNode", "(I)Z"⟩, ⟨"LayerDrawingModel", "isArc", "(I)Z"⟩, ⟨"LayerDrawingModel", "node", "(I)I"⟩, ⟨"LayerDrawingModel", "width", "(II)I"⟩, ⟨"LayerDrawingModel", "arc", "(II)I"⟩, ⟨"LayerDrawingModel", "drop", "(I)I"⟩, ⟨"LayerDrawingModel", "clear", "()I"⟩, ⟨"LayerDrawingModel", "leastBack", "()I"⟩, ⟨"LayerDrawingModel", "findTurned", "()V"⟩, ⟨"LayerDrawingModel", "lengthOf", "([I)I"⟩, ⟨"LayerDrawingModel", "change", "(II)I"⟩, ⟨"LayerDrawingModel", "isAbove", "(I)Z"⟩, ⟨"LayerDrawingModel", "move", "(II)V"⟩, ⟨"LayerDrawingModel", "findLayers", "()V"⟩, ⟨"LayerDrawingModel", "make", "()V"⟩, ⟨"LayerDrawingModel", "turns", "()I"⟩, ⟨"LayerDrawingModel", "turned", "(I)I"⟩, ⟨"LayerDrawingModel", "layer", "(I)I"⟩, ⟨"LayerDrawingModel", "layerCount", "()I"⟩, ⟨"LayerDrawingModel", "layers", "()I"⟩, ⟨"LayerDrawingModel", "length", "()I"⟩, ⟨"LayerDrawingModel", "bendCount", "()I"⟩, ⟨"LayerDrawingModel", "bends", "()I"⟩, ⟨"LayerDrawingModel", "lay", "()V"⟩, ⟨"LayerDrawingModel", "crossings", "()I"⟩, ⟨"LayerDrawingModel", "sort", "(IZ)V"⟩, ⟨"LayerDrawingModel", "setSpots", "(I)V"⟩, ⟨"LayerDrawingModel", "keep", "(II)V"⟩, ⟨"LayerDrawingModel", "run", "(I)I"⟩, ⟨"LayerDrawingModel", "widthOf", "(I)I"⟩, ⟨"LayerDrawingModel", "floor", "(II)I"⟩, ⟨"LayerDrawingModel", "findPlaces", "(I)V"⟩, ⟨"LayerDrawingModel", "round", "()I"⟩, ⟨"LayerDrawingModel", "count", "(I)I"⟩, ⟨"LayerDrawingModel", "item", "(II)I"⟩, ⟨"LayerDrawingModel", "fewest", "()I"⟩, ⟨"LayerDrawingModel", "first", "(I)V"⟩, ⟨"LayerDrawingModel", "next", "(I)Z"⟩, ⟨"LayerDrawingModel", "place", "(I)I"⟩, ⟨"LayerDrawingModel", "route", "(II)I"⟩, ⟨"LayerDrawingModel", "wide", "()I"⟩, ⟨"LayerDrawingModel", "isTree", "()Z"⟩, ⟨"LayerDrawingModel", "tidy", "(I)I"⟩, ⟨"LayerDrawingModel", "join", "(I)V"⟩, ⟨"LayerDrawingModel", "shift", "(II)V"⟩, ⟨"LayerDrawingModel", "room", "(II)I"⟩, ⟨"LayerDrawing$Graph", "<init>", "()V"⟩, ⟨"LayerDrawing$Graph", "hasNode", "(I)Z"⟩, ⟨"LayerDrawing$Graph", "hasArc", "(I)Z"⟩, ⟨"LayerDrawing$Graph", "addNode", "(I)I"⟩, ⟨"LayerDrawing$Graph", "addArc", "(II)I"⟩, ⟨"LayerDrawing$Graph", "removeArc", "(I)V"⟩, ⟨"LayerDrawing$Graph", "empty", "()V"⟩, ⟨"LayerDrawing$Layering", "<init>", "()V"⟩, ⟨"LayerDrawing$Layering", "span", "(I)I"⟩, ⟨"LayerDrawing$Layering", "search", "(LLayerDrawing$Graph;LLayerDrawing$Turning;)V"⟩, ⟨"LayerDrawing$Layering", "raise", "(LLayerDrawing$Graph;)I"⟩, ⟨"LayerDrawing$Layering", "raiseEnds", "(I)I"⟩, ⟨"LayerDrawing$Layering", "enlargeFlow", "(II)V"⟩, ⟨"LayerDrawing$Layering", "raiser", "(I)I"⟩, ⟨"LayerDrawing$Layering", "addFlow", "(II)V"⟩, ⟨"LayerDrawing$Layering", "measure", "(LLayerDrawing$Graph;)V"⟩, ⟨"LayerDrawing$Orders", "<init>", "()V"⟩, ⟨"LayerDrawing$Orders", "hasLayer", "(I)Z"⟩, ⟨"LayerDrawing$Orders", "search", "(LLayerDrawing$Graph;LLayerDrawing$Layering;LLayerDrawing$Pieces;I)V"⟩, ⟨"LayerDrawing$Orders", "standByNumbers", "(LLayerDrawing$Graph;LLayerDrawing$Layering;LLayerDrawing$Pieces;)V"⟩, ⟨"LayerDrawing$Orders", "append", "(II)V"⟩, ⟨"LayerDrawing$Orders", "copyRows", "([[I[[I)V"⟩, ⟨"LayerDrawing$Orders", "sweep", "(LLayerDrawing$Pieces;)V"⟩, ⟨"LayerDrawing$Orders", "findMiddles", "(II[I[I)V"⟩, ⟨"LayerDrawing$Orders", "sortRow", "(I)V"⟩, ⟨"LayerDrawing$Orders", "isBefore", "(II)Z"⟩, ⟨"LayerDrawing$Orders", "numberRow", "(I)V"⟩, ⟨"LayerDrawing$Orders", "crossings", "(LLayerDrawing$Pieces;)I"⟩, ⟨"LayerDrawing$Orders", "crossingsIn", "(I[I[I)I"⟩, ⟨"LayerDrawing$Permuting", "<init>", "()V"⟩, ⟨"LayerDrawing$Permuting", "search", "(LLayerDrawing$Pieces;LLayerDrawing$Orders;)V"⟩, ⟨"LayerDrawing$Permuting", "hasTooMany", "(LLayerDrawing$Orders;)Z"⟩, ⟨"LayerDrawing$Permuting", "permutations", "(I)I"⟩, ⟨"LayerDrawing$Permuting", "least", "(I)I"⟩, ⟨"LayerDrawing$Permuting", "goDown", "(LLayerDrawing$Pieces;LLayerDrawing$Orders;I)V"⟩, ⟨"LayerDrawing$Permuting", "setPrices", "(LLayerDrawing$Pieces;LLayerDrawing$Orders;I)V"⟩, ⟨"LayerDrawing$Permuting", "price", "(I)I"⟩, ⟨"LayerDrawing$Permuting", "standFirst", "([I)V"⟩, ⟨"LayerDrawing$Permuting", "standNext", "([II)V"⟩, ⟨"LayerDrawing$Permuting", "exchange", "([III)V"⟩, ⟨"LayerDrawing$Pieces", "<init>", "()V"⟩, ⟨"LayerDrawing$Pieces", "isBend", "(I)Z"⟩, ⟨"LayerDrawing$Pieces", "itemOf", "(LLayerDrawing$Layering;II)I"⟩, ⟨"LayerDrawing$Pieces", "cut", "(LLayerDrawing$Graph;LLayerDrawing$Layering;)V"⟩, ⟨"LayerDrawing$Pieces", "cutArc", "(LLayerDrawing$Layering;I)V"⟩, ⟨"LayerDrawing$Places", "<init>", "()V"⟩, ⟨"LayerDrawing$Places", "assign", "(LLayerDrawing$Pieces;LLayerDrawing$Orders;)V"⟩, ⟨"LayerDrawing$Places", "lookUp", "(LLayerDrawing$Pieces;I)V"⟩, ⟨"LayerDrawing$Places", "wanted", "(II)I"⟩, ⟨"LayerDrawing$Tree", "<init>", "()V"⟩, ⟨"LayerDrawing$Tree", "isTree", "(LLayerDrawing$Graph;)Z"⟩, ⟨"LayerDrawing$Tree", "arrange", "(LLayerDrawing$Graph;)V"⟩, ⟨"LayerDrawing$Tree", "depthOf", "(I)I"⟩, ⟨"LayerDrawing$Tree", "putPart", "(LLayerDrawing$Graph;I)V"⟩, ⟨"LayerDrawing$Tree", "twiceMiddle", "(LLayerDrawing$Graph;I)I"⟩, ⟨"LayerDrawing$Tree", "shiftBehind", "(LLayerDrawing$Graph;II)I"⟩, ⟨"LayerDrawing$Tree", "leftmost", "(II)I"⟩, ⟨"LayerDrawing$Tree", "move", "(II)V"⟩, ⟨"LayerDrawing$Turning", "<init>", "()V"⟩, ⟨"LayerDrawing$Turning", "has", "(I)Z"⟩, ⟨"LayerDrawing$Turning", "search", "(LLayerDrawing$Graph;)V"⟩, ⟨"LayerDrawing$Turning", "mark", "(I)I"⟩, ⟨"LayerDrawing$Turning", "nodesOnWaysRound", "(LLayerDrawing$Graph;)I"⟩, ⟨"LayerDrawing$Turning", "setPrices", "(LLayerDrawing$Graph;I)V"⟩, ⟨"LayerDrawing$Turning", "leastCost", "(I)I"⟩, ⟨"LayerDrawing$Turning", "costOfFront", "(I)I"⟩, ⟨"LayerDrawing$Turning", "priceBack", "(II)I"⟩, ⟨"java/lang/Math", "floorDiv", "(II)I"⟩, ⟨"java/util/Arrays", "fill", "([II)V"⟩]
def pg_name (y : Nat) : MethodName := pg_names.getD y ⟨"", "", ""⟩
def pg_owns : List Nat := [8, 8, 8, 8, 8, 8, 8, 8, 8, 8, 8, 8, 8, 8, 8, 8, 8, 8, 8, 8, 8, 8, 8, 8, 8, 9, 9, 9, 9, 9, 9, 9, 9, 9, 9, 9, 9, 9, 9, 9, 9, 9, 9, 9, 9, 9, 9, 9, 9, 9, 9, 9, 9, 9, 9, 9, 9, 9, 9, 9, 9, 9, 9, 9, 9, 9, 9, 9, 9, 9, 9, 9, 9, 0, 0, 0, 0, 0, 0, 0, 1, 1, 1, 1, 1, 1, 1, 1, 1, 2, 2, 2, 2, 2, 2, 2, 2, 2, 2, 2, 2, 2, 3, 3, 3, 3, 3, 3, 3, 3, 3, 3, 3, 4, 4, 4, 4, 4, 5, 5, 5, 5, 6, 6, 6, 6, 6, 6, 6, 6, 6, 7, 7, 7, 7, 7, 7, 7, 7, 7, 11, 12]
def pg_own (y : Nat) : Nat := pg_owns.getD y 0
def pg_maxLs : List Nat := [1, 2, 4, 3, 2, 2, 1, 2, 2, 1, 1, 1, 2, 1, 2, 3, 1, 2, 3, 1, 2, 1, 1, 1, 1, 1, 1, 2, 2, 2, 4, 3, 2, 2, 6, 3, 4, 6, 3, 4, 3, 1, 3, 2, 2, 3, 1, 1, 3, 1, 6, 5, 7, 3, 4, 5, 2, 3, 9, 1, 2, 3, 8, 5, 8, 2, 3, 5, 4, 4, 7, 4, 7, 1, 2, 2, 2, 3, 2, 1, 1, 2, 5, 5, 4, 7, 3, 3, 3, 1, 2, 7, 8, 3, 4, 4, 7, 6, 3, 3, 4, 9, 1, 4, 4, 3, 4, 10, 8, 5, 2, 6, 4, 1, 2, 4, 4, 7, 1, 8, 6, 3, 1, 4, 4, 4, 7, 3, 8, 5, 4, 1, 2, 4, 1, 8, 6, 3, 4, 6, 3, 4]
def pg_maxL (y : Nat) : Nat := pg_maxLs.getD y 0
def pg_rts : List Nat := [9, 1, 1, 1, 1, 1, 1, 1, 1, 1, 1, 1, 1, 1, 1, 1, 1, 1, 1, 1, 1, 2, 0, 0, 0, 9, 0, 2, 2, 1, 1, 1, 1, 1, 1, 0, 1, 1, 2, 0, 0, 0, 1, 1, 1, 1, 1, 1, 1, 1, 0, 1, 0, 0, 0, 1, 1, 1, 0, 1, 1, 1, 1, 0, 2, 1, 1, 1, 2, 1, 0, 0, 1, 9, 2, 2, 1, 1, 0, 0, 9, 1, 0, 1, 1, 0, 1, 0, 0, 9, 2, 0, 0, 0, 0, 0, 0, 0, 2, 0, 1, 1, 9, 0, 2, 1, 1, 0, 0, 1, 0, 0, 0, 9, 2, 1, 0, 0, 9, 0, 0, 1, 9, 2, 0, 1, 0, 1, 1, 1, 0, 9, 2, 0, 1, 1, 0, 1, 1, 1, 1, 0]
def pg_rt (y : Nat) : Nat := pg_rts.getD y 0
def pg_kds : List Nat := [2, 1, 1, 1, 1, 1, 1, 1, 1, 1, 1, 1, 1, 1, 1, 1, 1, 1, 1, 1, 1, 0, 1, 1, 1, 2, 1, 1, 1, 1, 1, 1, 1, 1, 1, 1, 1, 1, 1, 1, 1, 1, 1, 1, 1, 1, 1, 1, 1, 1, 1, 1, 1, 1, 1, 1, 1, 0, 1, 1, 1, 1, 1, 1, 1, 1, 1, 1, 1, 1, 1, 1, 1, 2, 1, 1, 1, 1, 1, 1, 2, 1, 1, 1, 1, 1, 1, 1, 1, 2, 1, 1, 1, 1, 1, 1, 1, 1, 1, 1, 1, 1, 2, 1, 0, 0, 1, 1, 1, 1, 0, 0, 0, 2, 1, 1, 1, 1, 2, 1, 1, 1, 2, 1, 1, 1, 1, 1, 1, 1, 1, 2, 1, 1, 0, 0, 1, 1, 1, 1, 0, 0]
def pg_kd (y : Nat) : Nat := pg_kds.getD y 0
def pg_nas : List Nat := [1, 2, 3, 3, 2, 1, 1, 2, 2, 1, 1, 1, 2, 1, 2, 3, 1, 2, 3, 1, 2, 1, 1, 1, 1, 1, 1, 2, 2, 2, 3, 3, 2, 1, 1, 1, 2, 3, 2, 3, 1, 1, 1, 2, 2, 1, 1, 1, 1, 1, 1, 1, 3, 2, 3, 2, 2, 2, 2, 1, 2, 3, 1, 2, 2, 2, 3, 1, 1, 2, 2, 3, 3, 1, 2, 2, 2, 3, 2, 1, 1, 2, 3, 2, 2, 3, 2, 3, 2, 1, 2, 5, 4, 3, 3, 2, 5, 2, 3, 2, 2, 4, 1, 3, 1, 1, 2, 4, 4, 2, 1, 2, 3, 1, 2, 4, 3, 3, 1, 3, 3, 3, 1, 2, 2, 2, 3, 3, 4, 3, 3, 1, 2, 2, 1, 1, 3, 2, 2, 3, 2, 2]
def pg_na (y : Nat) : Nat := pg_nas.getD y 0
def pg_frms : List Nat := [2, 2, 1, 2, 2, 2, 5, 5, 5, 5, 5, 5, 5, 0, 1, 1, 4, 1, 2, 0, 5, 0, 1, 0, 4, 1, 0, 0, 0, 1, 1, 1, 1, 1, 0, 1, 0, 0, 0, 0, 1, 2, 3, 3, 3, 0, 3, 3, 0, 3, 0, 0, 1, 0, 0, 3, 0, 0, 1, 0, 1, 1, 2, 1, 1, 0, 1, 1, 0, 3, 1, 0, 0, 1, 0, 0, 0, 0, 0, 0, 1, 0, 2, 1, 0, 1, 0, 0, 1, 1, 0, 3, 2, 0, 1, 2, 0, 1, 0, 0, 1, 0, 1, 3, 0, 0, 1, 2, 1, 0, 0, 1, 0, 1, 0, 1, 3, 2, 1, 1, 0, 0, 1, 1, 4, 0, 3, 0, 2, 1, 0, 1, 1, 3, 0, 0, 1, 2, 1, 0, 0, 0]
def pg_frm (y : Nat) : Nat := pg_frms.getD y 0
def pg_locs : List Nat := [40, 40, 21, 40, 40, 40, 113, 113, 113, 113, 113, 113, 113, 0, 21, 21, 112, 21, 44, 0, 121, 0, 20, 0, 93, 20, 0, 0, 0, 20, 21, 21, 21, 20, 0, 25, 0, 0, 0, 0, 25, 47, 67, 67, 67, 0, 67, 67, 0, 67, 0, 0, 22, 0, 0, 67, 0, 0, 22, 0, 22, 22, 49, 22, 22, 0, 21, 21, 0, 67, 26, 0, 0, 20, 0, 0, 0, 0, 0, 0, 20, 0, 48, 23, 0, 22, 0, 0, 21, 20, 0, 83, 44, 0, 60, 47, 0, 22, 0, 0, 28, 0, 20, 89, 0, 0, 21, 60, 23, 0, 0, 23, 0, 20, 0, 21, 70, 44, 20, 25, 0, 0, 20, 23, 98, 0, 72, 0, 45, 21, 0, 20, 20, 70, 0, 0, 23, 48, 25, 0, 0, 0]
def pg_loc (y : Nat) : Nat := pg_locs.getD y 0
def pg_mcs : List Nat := [92, 0, 0, 0, 0, 0, 0, 0, 0, 0, 0, 0, 0, 0, 0, 0, 0, 0, 0, 0, 0, 0, 0, 0, 0, 29, 0, 0, 0, 0, 0, 0, 0, 0, 0, 0, 0, 0, 0, 0, 0, 0, 0, 0, 0, 0, 0, 0, 0, 0, 0, 0, 0, 0, 0, 0, 0, 0, 0, 0, 0, 0, 0, 0, 0, 0, 0, 0, 0, 0, 0, 0, 0, 4, 0, 0, 0, 0, 0, 0, 5, 0, 0, 0, 0, 0, 0, 0, 0, 30, 0, 0, 0, 0, 0, 0, 0, 0, 0, 0, 0, 0, 6, 0, 0, 0, 0, 0, 0, 0, 0, 0, 0, 29, 0, 0, 0, 0, 3, 0, 0, 0, 4, 0, 0, 0, 0, 0, 0, 0, 0, 3, 0, 0, 0, 0, 0, 0, 0, 0, 0, 0]
def pg_mc (y : Nat) : Nat := pg_mcs.getD y 0
def pg_mss : List Nat := [8064, 0, 0, 0, 0, 0, 0, 0, 0, 0, 0, 0, 0, 0, 0, 0, 0, 0, 0, 0, 0, 0, 0, 0, 0, 56280, 0, 0, 0, 0, 0, 0, 0, 0, 0, 0, 0, 0, 0, 0, 0, 0, 0, 0, 0, 0, 0, 0, 0, 0, 0, 0, 0, 0, 0, 0, 0, 0, 0, 0, 0, 0, 0, 0, 0, 0, 0, 0, 0, 0, 0, 0, 0, 84, 0, 0, 0, 0, 0, 0, 96, 0, 0, 0, 0, 0, 0, 0, 0, 1116, 0, 0, 0, 0, 0, 0, 0, 0, 0, 0, 0, 0, 1494, 0, 0, 0, 0, 0, 0, 0, 0, 0, 0, 708, 0, 0, 0, 0, 216, 0, 0, 0, 48, 0, 0, 0, 0, 0, 0, 0, 0, 4252, 0, 0, 0, 0, 0, 0, 0, 0, 0, 0]
def pg_ms (y : Nat) : Nat := pg_mss.getD y 0
def pg_ret (y : Nat) : Option FieldType := if pg_rt y = 1 then some .int else if pg_rt y = 2 then some .boolean else none
abbrev m_Main_init : Nat := 0
abbrev m_Main_node : Nat := 1
abbrev m_Main_width : Nat := 2
abbrev m_Main_arc : Nat := 3
abbrev m_Main_drop : Nat := 4
abbrev m_Main_clear : Nat := 5
abbrev m_Main_turns : Nat := 6
abbrev m_Main_turned : Nat := 7
abbrev m_Main_layer : Nat := 8
abbrev m_Main_layers : Nat := 9
abbrev m_Main_length : Nat := 10
abbrev m_Main_bends : Nat := 11
abbrev m_Main_run : Nat := 12
abbrev m_Main_round : Nat := 13
abbrev m_Main_count : Nat := 14
abbrev m_Main_item : Nat := 15
abbrev m_Main_fewest : Nat := 16
abbrev m_Main_place : Nat := 17
abbrev m_Main_route : Nat := 18
abbrev m_Main_wide : Nat := 19
abbrev m_Main_tidy : Nat := 20
abbrev m_Main_isWidth : Nat := 21
abbrev m_Main_forgetAll : Nat := 22
abbrev m_Main_forgetDrawings : Nat := 23
abbrev m_Main_settle : Nat := 24
abbrev m_Mod_init : Nat := 25
abbrev m_Mod_changed : Nat := 26
abbrev m_Mod_isNode : Nat := 27
abbrev m_Mod_isArc : Nat := 28
abbrev m_Mod_node : Nat := 29
abbrev m_Mod_width : Nat := 30
abbrev m_Mod_arc : Nat := 31
abbrev m_Mod_drop : Nat := 32
abbrev m_Mod_clear : Nat := 33
abbrev m_Mod_leastBack : Nat := 34
abbrev m_Mod_findTurned : Nat := 35
abbrev m_Mod_lengthOf : Nat := 36
abbrev m_Mod_change : Nat := 37
abbrev m_Mod_isAbove : Nat := 38
abbrev m_Mod_move : Nat := 39
abbrev m_Mod_findLayers : Nat := 40
abbrev m_Mod_make : Nat := 41
abbrev m_Mod_turns : Nat := 42
abbrev m_Mod_turned : Nat := 43
abbrev m_Mod_layer : Nat := 44
abbrev m_Mod_layerCount : Nat := 45
abbrev m_Mod_layers : Nat := 46
abbrev m_Mod_length : Nat := 47
abbrev m_Mod_bendCount : Nat := 48
abbrev m_Mod_bends : Nat := 49
abbrev m_Mod_lay : Nat := 50
abbrev m_Mod_crossings : Nat := 51
abbrev m_Mod_sort : Nat := 52
abbrev m_Mod_setSpots : Nat := 53
abbrev m_Mod_keep : Nat := 54
abbrev m_Mod_run : Nat := 55
abbrev m_Mod_widthOf : Nat := 56
abbrev m_Mod_floor : Nat := 57
abbrev m_Mod_findPlaces : Nat := 58
abbrev m_Mod_round : Nat := 59
abbrev m_Mod_count : Nat := 60
abbrev m_Mod_item : Nat := 61
abbrev m_Mod_fewest : Nat := 62
abbrev m_Mod_first : Nat := 63
abbrev m_Mod_next : Nat := 64
abbrev m_Mod_place : Nat := 65
abbrev m_Mod_route : Nat := 66
abbrev m_Mod_wide : Nat := 67
abbrev m_Mod_isTree : Nat := 68
abbrev m_Mod_tidy : Nat := 69
abbrev m_Mod_join : Nat := 70
abbrev m_Mod_shift : Nat := 71
abbrev m_Mod_room : Nat := 72
abbrev m_Graph_init : Nat := 73
abbrev m_Graph_hasNode : Nat := 74
abbrev m_Graph_hasArc : Nat := 75
abbrev m_Graph_addNode : Nat := 76
abbrev m_Graph_addArc : Nat := 77
abbrev m_Graph_removeArc : Nat := 78
abbrev m_Graph_empty : Nat := 79
abbrev m_Layering_init : Nat := 80
abbrev m_Layering_span : Nat := 81
abbrev m_Layering_search : Nat := 82
abbrev m_Layering_raise : Nat := 83
abbrev m_Layering_raiseEnds : Nat := 84
abbrev m_Layering_enlargeFlow : Nat := 85
abbrev m_Layering_raiser : Nat := 86
abbrev m_Layering_addFlow : Nat := 87
abbrev m_Layering_measure : Nat := 88
abbrev m_Orders_init : Nat := 89
abbrev m_Orders_hasLayer : Nat := 90
abbrev m_Orders_search : Nat := 91
abbrev m_Orders_standByNumbers : Nat := 92
abbrev m_Orders_append : Nat := 93
abbrev m_Orders_copyRows : Nat := 94
abbrev m_Orders_sweep : Nat := 95
abbrev m_Orders_findMiddles : Nat := 96
abbrev m_Orders_sortRow : Nat := 97
abbrev m_Orders_isBefore : Nat := 98
abbrev m_Orders_numberRow : Nat := 99
abbrev m_Orders_crossings : Nat := 100
abbrev m_Orders_crossingsIn : Nat := 101
abbrev m_Permuting_init : Nat := 102
abbrev m_Permuting_search : Nat := 103
abbrev m_Permuting_hasTooMany : Nat := 104
abbrev m_Permuting_permutations : Nat := 105
abbrev m_Permuting_least : Nat := 106
abbrev m_Permuting_goDown : Nat := 107
abbrev m_Permuting_setPrices : Nat := 108
abbrev m_Permuting_price : Nat := 109
abbrev m_Permuting_standFirst : Nat := 110
abbrev m_Permuting_standNext : Nat := 111
abbrev m_Permuting_exchange : Nat := 112
abbrev m_Pieces_init : Nat := 113
abbrev m_Pieces_isBend : Nat := 114
abbrev m_Pieces_itemOf : Nat := 115
abbrev m_Pieces_cut : Nat := 116
abbrev m_Pieces_cutArc : Nat := 117
abbrev m_Places_init : Nat := 118
abbrev m_Places_assign : Nat := 119
abbrev m_Places_lookUp : Nat := 120
abbrev m_Places_wanted : Nat := 121
abbrev m_Tree_init : Nat := 122
abbrev m_Tree_isTree : Nat := 123
abbrev m_Tree_arrange : Nat := 124
abbrev m_Tree_depthOf : Nat := 125
abbrev m_Tree_putPart : Nat := 126
abbrev m_Tree_twiceMiddle : Nat := 127
abbrev m_Tree_shiftBehind : Nat := 128
abbrev m_Tree_leftmost : Nat := 129
abbrev m_Tree_move : Nat := 130
abbrev m_Turning_init : Nat := 131
abbrev m_Turning_has : Nat := 132
abbrev m_Turning_search : Nat := 133
abbrev m_Turning_mark : Nat := 134
abbrev m_Turning_nodesOnWaysRound : Nat := 135
abbrev m_Turning_setPrices : Nat := 136
abbrev m_Turning_leastCost : Nat := 137
abbrev m_Turning_costOfFront : Nat := 138
abbrev m_Turning_priceBack : Nat := 139
abbrev m_Math_floorDiv : Nat := 140
abbrev m_Arrays_fill : Nat := 141
end
section
theorem d0_0 : decode prog_1_method_1_code 0 = .ok (.aload_n 0, 1) := by decide +kernel
theorem d0_1 : decode prog_1_method_1_code 1 = .ok (.invokespecial 3, 3) := by decide +kernel
theorem d0_4 : decode prog_1_method_1_code 4 = .ok (.aload_n 0, 1) := by decide +kernel
theorem d0_5 : decode prog_1_method_1_code 5 = .ok (.new 9, 3) := by decide +kernel
theorem d0_8 : decode prog_1_method_1_code 8 = .ok (.dup, 1) := by decide +kernel
theorem d0_9 : decode prog_1_method_1_code 9 = .ok (.invokespecial 11, 3) := by decide +kernel
theorem d0_12 : decode prog_1_method_1_code 12 = .ok (.putfield 12, 3) := by decide +kernel
theorem d0_15 : decode prog_1_method_1_code 15 = .ok (.aload_n 0, 1) := by decide +kernel
theorem d0_16 : decode prog_1_method_1_code 16 = .ok (.new 16, 3) := by decide +kernel
theorem d0_19 : decode prog_1_method_1_code 19 = .ok (.dup, 1) := by decide +kernel
theorem d0_20 : decode prog_1_method_1_code 20 = .ok (.invokespecial 18, 3) := by decide +kernel
theorem d0_23 : decode prog_1_method_1_code 23 = .ok (.putfield 19, 3) := by decide +kernel
theorem d0_26 : decode prog_1_method_1_code 26 = .ok (.aload_n 0, 1) := by decide +kernel
theorem d0_27 : decode prog_1_method_1_code 27 = .ok (.new 23, 3) := by decide +kernel
theorem d0_30 : decode prog_1_method_1_code 30 = .ok (.dup, 1) := by decide +kernel
theorem d0_31 : decode prog_1_method_1_code 31 = .ok (.invokespecial 25, 3) := by decide +kernel
theorem d0_34 : decode prog_1_method_1_code 34 = .ok (.putfield 26, 3) := by decide +kernel
theorem d0_37 : decode prog_1_method_1_code 37 = .ok (.aload_n 0, 1) := by decide +kernel
theorem d0_38 : decode prog_1_method_1_code 38 = .ok (.new 30, 3) := by decide +kernel
theorem d0_41 : decode prog_1_method_1_code 41 = .ok (.dup, 1) := by decide +kernel
theorem d0_42 : decode prog_1_method_1_code 42 = .ok (.invokespecial 32, 3) := by decide +kernel
theorem d0_45 : decode prog_1_method_1_code 45 = .ok (.putfield 33, 3) := by decide +kernel
theorem d0_48 : decode prog_1_method_1_code 48 = .ok (.aload_n 0, 1) := by decide +kernel
theorem d0_49 : decode prog_1_method_1_code 49 = .ok (.new 37, 3) := by decide +kernel
theorem d0_52 : decode prog_1_method_1_code 52 = .ok (.dup, 1) := by decide +kernel
theorem d0_53 : decode prog_1_method_1_code 53 = .ok (.invokespecial 39, 3) := by decide +kernel
theorem d0_56 : decode prog_1_method_1_code 56 = .ok (.putfield 40, 3) := by decide +kernel
theorem d0_59 : decode prog_1_method_1_code 59 = .ok (.aload_n 0, 1) := by decide +kernel
theorem d0_60 : decode prog_1_method_1_code 60 = .ok (.new 44, 3) := by decide +kernel
theorem d0_63 : decode prog_1_method_1_code 63 = .ok (.dup, 1) := by decide +kernel
theorem d0_64 : decode prog_1_method_1_code 64 = .ok (.invokespecial 46, 3) := by decide +kernel
theorem d0_67 : decode prog_1_method_1_code 67 = .ok (.putfield 47, 3) := by decide +kernel
theorem d0_70 : decode prog_1_method_1_code 70 = .ok (.aload_n 0, 1) := by decide +kernel
theorem d0_71 : decode prog_1_method_1_code 71 = .ok (.new 51, 3) := by decide +kernel
theorem d0_74 : decode prog_1_method_1_code 74 = .ok (.dup, 1) := by decide +kernel
theorem d0_75 : decode prog_1_method_1_code 75 = .ok (.invokespecial 53, 3) := by decide +kernel
theorem d0_78 : decode prog_1_method_1_code 78 = .ok (.putfield 54, 3) := by decide +kernel
theorem d0_81 : decode prog_1_method_1_code 81 = .ok (.aload_n 0, 1) := by decide +kernel
theorem d0_82 : decode prog_1_method_1_code 82 = .ok (.new 58, 3) := by decide +kernel
theorem d0_85 : decode prog_1_method_1_code 85 = .ok (.dup, 1) := by decide +kernel
theorem d0_86 : decode prog_1_method_1_code 86 = .ok (.invokespecial 60, 3) := by decide +kernel
theorem d0_89 : decode prog_1_method_1_code 89 = .ok (.putfield 61, 3) := by decide +kernel
theorem d0_92 : decode prog_1_method_1_code 92 = .ok (.aload_n 0, 1) := by decide +kernel
theorem d0_93 : decode prog_1_method_1_code 93 = .ok (.iconst 0, 1) := by decide +kernel
theorem d0_94 : decode prog_1_method_1_code 94 = .ok (.putfield 65, 3) := by decide +kernel
theorem d0_97 : decode prog_1_method_1_code 97 = .ok (.aload_n 0, 1) := by decide +kernel
theorem d0_98 : decode prog_1_method_1_code 98 = .ok (.iconst 0, 1) := by decide +kernel
theorem d0_99 : decode prog_1_method_1_code 99 = .ok (.putfield 69, 3) := by decide +kernel
theorem d0_102 : decode prog_1_method_1_code 102 = .ok (.aload_n 0, 1) := by decide +kernel
theorem d0_103 : decode prog_1_method_1_code 103 = .ok (.iconst 0, 1) := by decide +kernel
theorem d0_104 : decode prog_1_method_1_code 104 = .ok (.putfield 72, 3) := by decide +kernel
theorem d0_107 : decode prog_1_method_1_code 107 = .ok (.aload_n 0, 1) := by decide +kernel
theorem d0_108 : decode prog_1_method_1_code 108 = .ok (.iconst 0, 1) := by decide +kernel
theorem d0_109 : decode prog_1_method_1_code 109 = .ok (.putfield 75, 3) := by decide +kernel
theorem d0_112 : decode prog_1_method_1_code 112 = .ok (.return_, 1) := by decide +kernel
theorem d1_0 : decode prog_1_method_2_code 0 = .ok (.iload_n 1, 1) := by decide +kernel
theorem d1_1 : decode prog_1_method_2_code 1 = .ok (.invokestatic 78, 3) := by decide +kernel
theorem d1_4 : decode prog_1_method_2_code 4 = .ok (.ifCond .ne 6, 3) := by decide +kernel
theorem d1_7 : decode prog_1_method_2_code 7 = .ok (.bipush (-2), 2) := by decide +kernel
theorem d1_9 : decode prog_1_method_2_code 9 = .ok (.ireturn, 1) := by decide +kernel
theorem d1_10 : decode prog_1_method_2_code 10 = .ok (.aload_n 0, 1) := by decide +kernel
theorem d1_11 : decode prog_1_method_2_code 11 = .ok (.getfield 12, 3) := by decide +kernel
theorem d1_14 : decode prog_1_method_2_code 14 = .ok (.getfield 82, 3) := by decide +kernel
theorem d1_17 : decode prog_1_method_2_code 17 = .ok (.bipush 12, 2) := by decide +kernel
theorem d1_19 : decode prog_1_method_2_code 19 = .ok (.if_icmp .lt 6, 3) := by decide +kernel
theorem d1_22 : decode prog_1_method_2_code 22 = .ok (.bipush (-4), 2) := by decide +kernel
theorem d1_24 : decode prog_1_method_2_code 24 = .ok (.ireturn, 1) := by decide +kernel
theorem d1_25 : decode prog_1_method_2_code 25 = .ok (.aload_n 0, 1) := by decide +kernel
theorem d1_26 : decode prog_1_method_2_code 26 = .ok (.invokevirtual 86, 3) := by decide +kernel
theorem d1_29 : decode prog_1_method_2_code 29 = .ok (.aload_n 0, 1) := by decide +kernel
theorem d1_30 : decode prog_1_method_2_code 30 = .ok (.getfield 12, 3) := by decide +kernel
theorem d1_33 : decode prog_1_method_2_code 33 = .ok (.iload_n 1, 1) := by decide +kernel
theorem d1_34 : decode prog_1_method_2_code 34 = .ok (.invokevirtual 89, 3) := by decide +kernel
theorem d1_37 : decode prog_1_method_2_code 37 = .ok (.ireturn, 1) := by decide +kernel
theorem d2_0 : decode prog_1_method_3_code 0 = .ok (.aload_n 0, 1) := by decide +kernel
theorem d2_1 : decode prog_1_method_3_code 1 = .ok (.getfield 12, 3) := by decide +kernel
theorem d2_4 : decode prog_1_method_3_code 4 = .ok (.iload_n 1, 1) := by decide +kernel
theorem d2_5 : decode prog_1_method_3_code 5 = .ok (.invokevirtual 93, 3) := by decide +kernel
theorem d2_8 : decode prog_1_method_3_code 8 = .ok (.ifCond .ne 5, 3) := by decide +kernel
theorem d2_11 : decode prog_1_method_3_code 11 = .ok (.iconst (-1), 1) := by decide +kernel
theorem d2_12 : decode prog_1_method_3_code 12 = .ok (.ireturn, 1) := by decide +kernel
theorem d2_13 : decode prog_1_method_3_code 13 = .ok (.iload_n 2, 1) := by decide +kernel
theorem d2_14 : decode prog_1_method_3_code 14 = .ok (.invokestatic 78, 3) := by decide +kernel
theorem d2_17 : decode prog_1_method_3_code 17 = .ok (.ifCond .ne 6, 3) := by decide +kernel
theorem d2_20 : decode prog_1_method_3_code 20 = .ok (.bipush (-2), 2) := by decide +kernel
theorem d2_22 : decode prog_1_method_3_code 22 = .ok (.ireturn, 1) := by decide +kernel
theorem d2_23 : decode prog_1_method_3_code 23 = .ok (.aload_n 0, 1) := by decide +kernel
theorem d2_24 : decode prog_1_method_3_code 24 = .ok (.invokevirtual 96, 3) := by decide +kernel
theorem d2_27 : decode prog_1_method_3_code 27 = .ok (.aload_n 0, 1) := by decide +kernel
theorem d2_28 : decode prog_1_method_3_code 28 = .ok (.getfield 12, 3) := by decide +kernel
theorem d2_31 : decode prog_1_method_3_code 31 = .ok (.getfield 99, 3) := by decide +kernel
theorem d2_34 : decode prog_1_method_3_code 34 = .ok (.iload_n 1, 1) := by decide +kernel
theorem d2_35 : decode prog_1_method_3_code 35 = .ok (.iaload, 1) := by decide +kernel
theorem d2_36 : decode prog_1_method_3_code 36 = .ok (.istore_n 3, 1) := by decide +kernel
theorem d2_37 : decode prog_1_method_3_code 37 = .ok (.aload_n 0, 1) := by decide +kernel
theorem d2_38 : decode prog_1_method_3_code 38 = .ok (.getfield 12, 3) := by decide +kernel
theorem d2_41 : decode prog_1_method_3_code 41 = .ok (.getfield 99, 3) := by decide +kernel
theorem d2_44 : decode prog_1_method_3_code 44 = .ok (.iload_n 1, 1) := by decide +kernel
theorem d2_45 : decode prog_1_method_3_code 45 = .ok (.iload_n 2, 1) := by decide +kernel
theorem d2_46 : decode prog_1_method_3_code 46 = .ok (.iastore, 1) := by decide +kernel
theorem d2_47 : decode prog_1_method_3_code 47 = .ok (.iload_n 3, 1) := by decide +kernel
theorem d2_48 : decode prog_1_method_3_code 48 = .ok (.ireturn, 1) := by decide +kernel
theorem d3_0 : decode prog_1_method_4_code 0 = .ok (.aload_n 0, 1) := by decide +kernel
theorem d3_1 : decode prog_1_method_4_code 1 = .ok (.getfield 12, 3) := by decide +kernel
theorem d3_4 : decode prog_1_method_4_code 4 = .ok (.iload_n 1, 1) := by decide +kernel
theorem d3_5 : decode prog_1_method_4_code 5 = .ok (.invokevirtual 93, 3) := by decide +kernel
theorem d3_8 : decode prog_1_method_4_code 8 = .ok (.ifCond .eq 19, 3) := by decide +kernel
theorem d3_11 : decode prog_1_method_4_code 11 = .ok (.aload_n 0, 1) := by decide +kernel
theorem d3_12 : decode prog_1_method_4_code 12 = .ok (.getfield 12, 3) := by decide +kernel
theorem d3_15 : decode prog_1_method_4_code 15 = .ok (.iload_n 2, 1) := by decide +kernel
theorem d3_16 : decode prog_1_method_4_code 16 = .ok (.invokevirtual 93, 3) := by decide +kernel
theorem d3_19 : decode prog_1_method_4_code 19 = .ok (.ifCond .eq 8, 3) := by decide +kernel
theorem d3_22 : decode prog_1_method_4_code 22 = .ok (.iload_n 1, 1) := by decide +kernel
theorem d3_23 : decode prog_1_method_4_code 23 = .ok (.iload_n 2, 1) := by decide +kernel
theorem d3_24 : decode prog_1_method_4_code 24 = .ok (.if_icmp .ne 5, 3) := by decide +kernel
theorem d3_27 : decode prog_1_method_4_code 27 = .ok (.iconst (-1), 1) := by decide +kernel
theorem d3_28 : decode prog_1_method_4_code 28 = .ok (.ireturn, 1) := by decide +kernel
theorem d3_29 : decode prog_1_method_4_code 29 = .ok (.aload_n 0, 1) := by decide +kernel
theorem d3_30 : decode prog_1_method_4_code 30 = .ok (.getfield 12, 3) := by decide +kernel
theorem d3_33 : decode prog_1_method_4_code 33 = .ok (.getfield 103, 3) := by decide +kernel
theorem d3_36 : decode prog_1_method_4_code 36 = .ok (.bipush 24, 2) := by decide +kernel
theorem d3_38 : decode prog_1_method_4_code 38 = .ok (.if_icmp .lt 6, 3) := by decide +kernel
theorem d3_41 : decode prog_1_method_4_code 41 = .ok (.bipush (-4), 2) := by decide +kernel
theorem d3_43 : decode prog_1_method_4_code 43 = .ok (.ireturn, 1) := by decide +kernel
theorem d3_44 : decode prog_1_method_4_code 44 = .ok (.aload_n 0, 1) := by decide +kernel
theorem d3_45 : decode prog_1_method_4_code 45 = .ok (.invokevirtual 86, 3) := by decide +kernel
theorem d3_48 : decode prog_1_method_4_code 48 = .ok (.aload_n 0, 1) := by decide +kernel
theorem d3_49 : decode prog_1_method_4_code 49 = .ok (.getfield 12, 3) := by decide +kernel
theorem d3_52 : decode prog_1_method_4_code 52 = .ok (.iload_n 1, 1) := by decide +kernel
theorem d3_53 : decode prog_1_method_4_code 53 = .ok (.iload_n 2, 1) := by decide +kernel
theorem d3_54 : decode prog_1_method_4_code 54 = .ok (.invokevirtual 106, 3) := by decide +kernel
theorem d3_57 : decode prog_1_method_4_code 57 = .ok (.ireturn, 1) := by decide +kernel
theorem d4_0 : decode prog_1_method_5_code 0 = .ok (.aload_n 0, 1) := by decide +kernel
theorem d4_1 : decode prog_1_method_5_code 1 = .ok (.getfield 12, 3) := by decide +kernel
theorem d4_4 : decode prog_1_method_5_code 4 = .ok (.iload_n 1, 1) := by decide +kernel
theorem d4_5 : decode prog_1_method_5_code 5 = .ok (.invokevirtual 110, 3) := by decide +kernel
theorem d4_8 : decode prog_1_method_5_code 8 = .ok (.ifCond .ne 5, 3) := by decide +kernel
theorem d4_11 : decode prog_1_method_5_code 11 = .ok (.iconst (-1), 1) := by decide +kernel
theorem d4_12 : decode prog_1_method_5_code 12 = .ok (.ireturn, 1) := by decide +kernel
theorem d4_13 : decode prog_1_method_5_code 13 = .ok (.aload_n 0, 1) := by decide +kernel
theorem d4_14 : decode prog_1_method_5_code 14 = .ok (.invokevirtual 86, 3) := by decide +kernel
theorem d4_17 : decode prog_1_method_5_code 17 = .ok (.aload_n 0, 1) := by decide +kernel
theorem d4_18 : decode prog_1_method_5_code 18 = .ok (.getfield 12, 3) := by decide +kernel
theorem d4_21 : decode prog_1_method_5_code 21 = .ok (.iload_n 1, 1) := by decide +kernel
theorem d4_22 : decode prog_1_method_5_code 22 = .ok (.invokevirtual 113, 3) := by decide +kernel
theorem d4_25 : decode prog_1_method_5_code 25 = .ok (.aload_n 0, 1) := by decide +kernel
theorem d4_26 : decode prog_1_method_5_code 26 = .ok (.getfield 12, 3) := by decide +kernel
theorem d4_29 : decode prog_1_method_5_code 29 = .ok (.getfield 117, 3) := by decide +kernel
theorem d4_32 : decode prog_1_method_5_code 32 = .ok (.ireturn, 1) := by decide +kernel
theorem d5_0 : decode prog_1_method_6_code 0 = .ok (.aload_n 0, 1) := by decide +kernel
theorem d5_1 : decode prog_1_method_6_code 1 = .ok (.invokevirtual 86, 3) := by decide +kernel
theorem d5_4 : decode prog_1_method_6_code 4 = .ok (.aload_n 0, 1) := by decide +kernel
theorem d5_5 : decode prog_1_method_6_code 5 = .ok (.getfield 12, 3) := by decide +kernel
theorem d5_8 : decode prog_1_method_6_code 8 = .ok (.getfield 82, 3) := by decide +kernel
theorem d5_11 : decode prog_1_method_6_code 11 = .ok (.istore_n 1, 1) := by decide +kernel
theorem d5_12 : decode prog_1_method_6_code 12 = .ok (.aload_n 0, 1) := by decide +kernel
theorem d5_13 : decode prog_1_method_6_code 13 = .ok (.getfield 12, 3) := by decide +kernel
theorem d5_16 : decode prog_1_method_6_code 16 = .ok (.invokevirtual 120, 3) := by decide +kernel
theorem d5_19 : decode prog_1_method_6_code 19 = .ok (.iload_n 1, 1) := by decide +kernel
theorem d5_20 : decode prog_1_method_6_code 20 = .ok (.ireturn, 1) := by decide +kernel
theorem d6_0 : decode prog_1_method_7_code 0 = .ok (.aload_n 0, 1) := by decide +kernel
theorem d6_1 : decode prog_1_method_7_code 1 = .ok (.invokevirtual 123, 3) := by decide +kernel
theorem d6_4 : decode prog_1_method_7_code 4 = .ok (.aload_n 0, 1) := by decide +kernel
theorem d6_5 : decode prog_1_method_7_code 5 = .ok (.getfield 19, 3) := by decide +kernel
theorem d6_8 : decode prog_1_method_7_code 8 = .ok (.getfield 126, 3) := by decide +kernel
theorem d6_11 : decode prog_1_method_7_code 11 = .ok (.ireturn, 1) := by decide +kernel
theorem d7_0 : decode prog_1_method_8_code 0 = .ok (.aload_n 0, 1) := by decide +kernel
theorem d7_1 : decode prog_1_method_8_code 1 = .ok (.getfield 12, 3) := by decide +kernel
theorem d7_4 : decode prog_1_method_8_code 4 = .ok (.iload_n 1, 1) := by decide +kernel
theorem d7_5 : decode prog_1_method_8_code 5 = .ok (.invokevirtual 110, 3) := by decide +kernel
theorem d7_8 : decode prog_1_method_8_code 8 = .ok (.ifCond .ne 5, 3) := by decide +kernel
theorem d7_11 : decode prog_1_method_8_code 11 = .ok (.iconst (-1), 1) := by decide +kernel
theorem d7_12 : decode prog_1_method_8_code 12 = .ok (.ireturn, 1) := by decide +kernel
theorem d7_13 : decode prog_1_method_8_code 13 = .ok (.aload_n 0, 1) := by decide +kernel
theorem d7_14 : decode prog_1_method_8_code 14 = .ok (.invokevirtual 123, 3) := by decide +kernel
theorem d7_17 : decode prog_1_method_8_code 17 = .ok (.aload_n 0, 1) := by decide +kernel
theorem d7_18 : decode prog_1_method_8_code 18 = .ok (.getfield 19, 3) := by decide +kernel
theorem d7_21 : decode prog_1_method_8_code 21 = .ok (.iload_n 1, 1) := by decide +kernel
theorem d7_22 : decode prog_1_method_8_code 22 = .ok (.invokevirtual 129, 3) := by decide +kernel
theorem d7_25 : decode prog_1_method_8_code 25 = .ok (.ifCond .eq 7, 3) := by decide +kernel
theorem d7_28 : decode prog_1_method_8_code 28 = .ok (.iconst 1, 1) := by decide +kernel
theorem d7_29 : decode prog_1_method_8_code 29 = .ok (.goto 4, 3) := by decide +kernel
theorem d7_32 : decode prog_1_method_8_code 32 = .ok (.iconst 0, 1) := by decide +kernel
theorem d7_33 : decode prog_1_method_8_code 33 = .ok (.ireturn, 1) := by decide +kernel
theorem d8_0 : decode prog_1_method_9_code 0 = .ok (.aload_n 0, 1) := by decide +kernel
theorem d8_1 : decode prog_1_method_9_code 1 = .ok (.getfield 12, 3) := by decide +kernel
theorem d8_4 : decode prog_1_method_9_code 4 = .ok (.iload_n 1, 1) := by decide +kernel
theorem d8_5 : decode prog_1_method_9_code 5 = .ok (.invokevirtual 93, 3) := by decide +kernel
theorem d8_8 : decode prog_1_method_9_code 8 = .ok (.ifCond .ne 5, 3) := by decide +kernel
theorem d8_11 : decode prog_1_method_9_code 11 = .ok (.iconst (-1), 1) := by decide +kernel
theorem d8_12 : decode prog_1_method_9_code 12 = .ok (.ireturn, 1) := by decide +kernel
theorem d8_13 : decode prog_1_method_9_code 13 = .ok (.aload_n 0, 1) := by decide +kernel
theorem d8_14 : decode prog_1_method_9_code 14 = .ok (.invokevirtual 123, 3) := by decide +kernel
theorem d8_17 : decode prog_1_method_9_code 17 = .ok (.aload_n 0, 1) := by decide +kernel
theorem d8_18 : decode prog_1_method_9_code 18 = .ok (.getfield 26, 3) := by decide +kernel
theorem d8_21 : decode prog_1_method_9_code 21 = .ok (.getfield 132, 3) := by decide +kernel
theorem d8_24 : decode prog_1_method_9_code 24 = .ok (.iload_n 1, 1) := by decide +kernel
theorem d8_25 : decode prog_1_method_9_code 25 = .ok (.iaload, 1) := by decide +kernel
theorem d8_26 : decode prog_1_method_9_code 26 = .ok (.ireturn, 1) := by decide +kernel
theorem d9_0 : decode prog_1_method_10_code 0 = .ok (.aload_n 0, 1) := by decide +kernel
theorem d9_1 : decode prog_1_method_10_code 1 = .ok (.invokevirtual 123, 3) := by decide +kernel
theorem d9_4 : decode prog_1_method_10_code 4 = .ok (.aload_n 0, 1) := by decide +kernel
theorem d9_5 : decode prog_1_method_10_code 5 = .ok (.getfield 26, 3) := by decide +kernel
theorem d9_8 : decode prog_1_method_10_code 8 = .ok (.getfield 135, 3) := by decide +kernel
theorem d9_11 : decode prog_1_method_10_code 11 = .ok (.ireturn, 1) := by decide +kernel
theorem d10_0 : decode prog_1_method_11_code 0 = .ok (.aload_n 0, 1) := by decide +kernel
theorem d10_1 : decode prog_1_method_11_code 1 = .ok (.invokevirtual 123, 3) := by decide +kernel
theorem d10_4 : decode prog_1_method_11_code 4 = .ok (.aload_n 0, 1) := by decide +kernel
theorem d10_5 : decode prog_1_method_11_code 5 = .ok (.getfield 26, 3) := by decide +kernel
theorem d10_8 : decode prog_1_method_11_code 8 = .ok (.getfield 138, 3) := by decide +kernel
theorem d10_11 : decode prog_1_method_11_code 11 = .ok (.ireturn, 1) := by decide +kernel
theorem d11_0 : decode prog_1_method_12_code 0 = .ok (.aload_n 0, 1) := by decide +kernel
theorem d11_1 : decode prog_1_method_12_code 1 = .ok (.invokevirtual 123, 3) := by decide +kernel
theorem d11_4 : decode prog_1_method_12_code 4 = .ok (.aload_n 0, 1) := by decide +kernel
theorem d11_5 : decode prog_1_method_12_code 5 = .ok (.getfield 26, 3) := by decide +kernel
theorem d11_8 : decode prog_1_method_12_code 8 = .ok (.getfield 141, 3) := by decide +kernel
theorem d11_11 : decode prog_1_method_12_code 11 = .ok (.ireturn, 1) := by decide +kernel
theorem d12_0 : decode prog_1_method_13_code 0 = .ok (.iload_n 1, 1) := by decide +kernel
theorem d12_1 : decode prog_1_method_13_code 1 = .ok (.ifCond .lt 9, 3) := by decide +kernel
theorem d12_4 : decode prog_1_method_13_code 4 = .ok (.iload_n 1, 1) := by decide +kernel
theorem d12_5 : decode prog_1_method_13_code 5 = .ok (.bipush 20, 2) := by decide +kernel
theorem d12_7 : decode prog_1_method_13_code 7 = .ok (.if_icmp .le 6, 3) := by decide +kernel
theorem d12_10 : decode prog_1_method_13_code 10 = .ok (.bipush (-2), 2) := by decide +kernel
theorem d12_12 : decode prog_1_method_13_code 12 = .ok (.ireturn, 1) := by decide +kernel
theorem d12_13 : decode prog_1_method_13_code 13 = .ok (.aload_n 0, 1) := by decide +kernel
theorem d12_14 : decode prog_1_method_13_code 14 = .ok (.invokevirtual 123, 3) := by decide +kernel
theorem d12_17 : decode prog_1_method_13_code 17 = .ok (.aload_n 0, 1) := by decide +kernel
theorem d12_18 : decode prog_1_method_13_code 18 = .ok (.getfield 26, 3) := by decide +kernel
theorem d12_21 : decode prog_1_method_13_code 21 = .ok (.getfield 141, 3) := by decide +kernel
theorem d12_24 : decode prog_1_method_13_code 24 = .ok (.bipush 60, 2) := by decide +kernel
theorem d12_26 : decode prog_1_method_13_code 26 = .ok (.if_icmp .le 6, 3) := by decide +kernel
theorem d12_29 : decode prog_1_method_13_code 29 = .ok (.bipush (-4), 2) := by decide +kernel
theorem d12_31 : decode prog_1_method_13_code 31 = .ok (.ireturn, 1) := by decide +kernel
theorem d12_32 : decode prog_1_method_13_code 32 = .ok (.aload_n 0, 1) := by decide +kernel
theorem d12_33 : decode prog_1_method_13_code 33 = .ok (.getfield 33, 3) := by decide +kernel
theorem d12_36 : decode prog_1_method_13_code 36 = .ok (.aload_n 0, 1) := by decide +kernel
theorem d12_37 : decode prog_1_method_13_code 37 = .ok (.getfield 12, 3) := by decide +kernel
theorem d12_40 : decode prog_1_method_13_code 40 = .ok (.aload_n 0, 1) := by decide +kernel
theorem d12_41 : decode prog_1_method_13_code 41 = .ok (.getfield 26, 3) := by decide +kernel
theorem d12_44 : decode prog_1_method_13_code 44 = .ok (.invokevirtual 144, 3) := by decide +kernel
theorem d12_47 : decode prog_1_method_13_code 47 = .ok (.aload_n 0, 1) := by decide +kernel
theorem d12_48 : decode prog_1_method_13_code 48 = .ok (.getfield 40, 3) := by decide +kernel
theorem d12_51 : decode prog_1_method_13_code 51 = .ok (.aload_n 0, 1) := by decide +kernel
theorem d12_52 : decode prog_1_method_13_code 52 = .ok (.getfield 12, 3) := by decide +kernel
theorem d12_55 : decode prog_1_method_13_code 55 = .ok (.aload_n 0, 1) := by decide +kernel
theorem d12_56 : decode prog_1_method_13_code 56 = .ok (.getfield 26, 3) := by decide +kernel
theorem d12_59 : decode prog_1_method_13_code 59 = .ok (.aload_n 0, 1) := by decide +kernel
theorem d12_60 : decode prog_1_method_13_code 60 = .ok (.getfield 33, 3) := by decide +kernel
theorem d12_63 : decode prog_1_method_13_code 63 = .ok (.iload_n 1, 1) := by decide +kernel
theorem d12_64 : decode prog_1_method_13_code 64 = .ok (.invokevirtual 148, 3) := by decide +kernel
theorem d12_67 : decode prog_1_method_13_code 67 = .ok (.aload_n 0, 1) := by decide +kernel
theorem d12_68 : decode prog_1_method_13_code 68 = .ok (.getfield 54, 3) := by decide +kernel
theorem d12_71 : decode prog_1_method_13_code 71 = .ok (.aload_n 0, 1) := by decide +kernel
theorem d12_72 : decode prog_1_method_13_code 72 = .ok (.getfield 33, 3) := by decide +kernel
theorem d12_75 : decode prog_1_method_13_code 75 = .ok (.aload_n 0, 1) := by decide +kernel
theorem d12_76 : decode prog_1_method_13_code 76 = .ok (.getfield 40, 3) := by decide +kernel
theorem d12_79 : decode prog_1_method_13_code 79 = .ok (.invokevirtual 152, 3) := by decide +kernel
theorem d12_82 : decode prog_1_method_13_code 82 = .ok (.aload_n 0, 1) := by decide +kernel
theorem d12_83 : decode prog_1_method_13_code 83 = .ok (.iconst 1, 1) := by decide +kernel
theorem d12_84 : decode prog_1_method_13_code 84 = .ok (.putfield 69, 3) := by decide +kernel
theorem d12_87 : decode prog_1_method_13_code 87 = .ok (.aload_n 0, 1) := by decide +kernel
theorem d12_88 : decode prog_1_method_13_code 88 = .ok (.getfield 40, 3) := by decide +kernel
theorem d12_91 : decode prog_1_method_13_code 91 = .ok (.getfield 156, 3) := by decide +kernel
theorem d12_94 : decode prog_1_method_13_code 94 = .ok (.ireturn, 1) := by decide +kernel
theorem d13_0 : decode prog_1_method_14_code 0 = .ok (.aload_n 0, 1) := by decide +kernel
theorem d13_1 : decode prog_1_method_14_code 1 = .ok (.getfield 69, 3) := by decide +kernel
theorem d13_4 : decode prog_1_method_14_code 4 = .ok (.ifCond .eq 13, 3) := by decide +kernel
theorem d13_7 : decode prog_1_method_14_code 7 = .ok (.aload_n 0, 1) := by decide +kernel
theorem d13_8 : decode prog_1_method_14_code 8 = .ok (.getfield 40, 3) := by decide +kernel
theorem d13_11 : decode prog_1_method_14_code 11 = .ok (.getfield 159, 3) := by decide +kernel
theorem d13_14 : decode prog_1_method_14_code 14 = .ok (.goto 5, 3) := by decide +kernel
theorem d13_17 : decode prog_1_method_14_code 17 = .ok (.bipush (-3), 2) := by decide +kernel
theorem d13_19 : decode prog_1_method_14_code 19 = .ok (.ireturn, 1) := by decide +kernel
theorem d14_0 : decode prog_1_method_15_code 0 = .ok (.aload_n 0, 1) := by decide +kernel
theorem d14_1 : decode prog_1_method_15_code 1 = .ok (.getfield 69, 3) := by decide +kernel
theorem d14_4 : decode prog_1_method_15_code 4 = .ok (.ifCond .ne 6, 3) := by decide +kernel
theorem d14_7 : decode prog_1_method_15_code 7 = .ok (.bipush (-3), 2) := by decide +kernel
theorem d14_9 : decode prog_1_method_15_code 9 = .ok (.ireturn, 1) := by decide +kernel
theorem d14_10 : decode prog_1_method_15_code 10 = .ok (.aload_n 0, 1) := by decide +kernel
theorem d14_11 : decode prog_1_method_15_code 11 = .ok (.getfield 40, 3) := by decide +kernel
theorem d14_14 : decode prog_1_method_15_code 14 = .ok (.iload_n 1, 1) := by decide +kernel
theorem d14_15 : decode prog_1_method_15_code 15 = .ok (.invokevirtual 162, 3) := by decide +kernel
theorem d14_18 : decode prog_1_method_15_code 18 = .ok (.ifCond .ne 5, 3) := by decide +kernel
theorem d14_21 : decode prog_1_method_15_code 21 = .ok (.iconst (-1), 1) := by decide +kernel
theorem d14_22 : decode prog_1_method_15_code 22 = .ok (.ireturn, 1) := by decide +kernel
theorem d14_23 : decode prog_1_method_15_code 23 = .ok (.aload_n 0, 1) := by decide +kernel
theorem d14_24 : decode prog_1_method_15_code 24 = .ok (.getfield 40, 3) := by decide +kernel
theorem d14_27 : decode prog_1_method_15_code 27 = .ok (.getfield 165, 3) := by decide +kernel
theorem d14_30 : decode prog_1_method_15_code 30 = .ok (.iload_n 1, 1) := by decide +kernel
theorem d14_31 : decode prog_1_method_15_code 31 = .ok (.iaload, 1) := by decide +kernel
theorem d14_32 : decode prog_1_method_15_code 32 = .ok (.ireturn, 1) := by decide +kernel
theorem d15_0 : decode prog_1_method_16_code 0 = .ok (.aload_n 0, 1) := by decide +kernel
theorem d15_1 : decode prog_1_method_16_code 1 = .ok (.getfield 69, 3) := by decide +kernel
theorem d15_4 : decode prog_1_method_16_code 4 = .ok (.ifCond .ne 6, 3) := by decide +kernel
theorem d15_7 : decode prog_1_method_16_code 7 = .ok (.bipush (-3), 2) := by decide +kernel
theorem d15_9 : decode prog_1_method_16_code 9 = .ok (.ireturn, 1) := by decide +kernel
theorem d15_10 : decode prog_1_method_16_code 10 = .ok (.aload_n 0, 1) := by decide +kernel
theorem d15_11 : decode prog_1_method_16_code 11 = .ok (.getfield 40, 3) := by decide +kernel
theorem d15_14 : decode prog_1_method_16_code 14 = .ok (.iload_n 1, 1) := by decide +kernel
theorem d15_15 : decode prog_1_method_16_code 15 = .ok (.invokevirtual 162, 3) := by decide +kernel
theorem d15_18 : decode prog_1_method_16_code 18 = .ok (.ifCond .eq 20, 3) := by decide +kernel
theorem d15_21 : decode prog_1_method_16_code 21 = .ok (.iload_n 2, 1) := by decide +kernel
theorem d15_22 : decode prog_1_method_16_code 22 = .ok (.ifCond .lt 16, 3) := by decide +kernel
theorem d15_25 : decode prog_1_method_16_code 25 = .ok (.iload_n 2, 1) := by decide +kernel
theorem d15_26 : decode prog_1_method_16_code 26 = .ok (.aload_n 0, 1) := by decide +kernel
theorem d15_27 : decode prog_1_method_16_code 27 = .ok (.getfield 40, 3) := by decide +kernel
theorem d15_30 : decode prog_1_method_16_code 30 = .ok (.getfield 165, 3) := by decide +kernel
theorem d15_33 : decode prog_1_method_16_code 33 = .ok (.iload_n 1, 1) := by decide +kernel
theorem d15_34 : decode prog_1_method_16_code 34 = .ok (.iaload, 1) := by decide +kernel
theorem d15_35 : decode prog_1_method_16_code 35 = .ok (.if_icmp .lt 5, 3) := by decide +kernel
theorem d15_38 : decode prog_1_method_16_code 38 = .ok (.iconst (-1), 1) := by decide +kernel
theorem d15_39 : decode prog_1_method_16_code 39 = .ok (.ireturn, 1) := by decide +kernel
theorem d15_40 : decode prog_1_method_16_code 40 = .ok (.aload_n 0, 1) := by decide +kernel
theorem d15_41 : decode prog_1_method_16_code 41 = .ok (.getfield 40, 3) := by decide +kernel
theorem d15_44 : decode prog_1_method_16_code 44 = .ok (.getfield 168, 3) := by decide +kernel
theorem d15_47 : decode prog_1_method_16_code 47 = .ok (.iload_n 1, 1) := by decide +kernel
theorem d15_48 : decode prog_1_method_16_code 48 = .ok (.aaload, 1) := by decide +kernel
theorem d15_49 : decode prog_1_method_16_code 49 = .ok (.iload_n 2, 1) := by decide +kernel
theorem d15_50 : decode prog_1_method_16_code 50 = .ok (.iaload, 1) := by decide +kernel
theorem d15_51 : decode prog_1_method_16_code 51 = .ok (.ireturn, 1) := by decide +kernel
theorem d16_0 : decode prog_1_method_17_code 0 = .ok (.aload_n 0, 1) := by decide +kernel
theorem d16_1 : decode prog_1_method_17_code 1 = .ok (.getfield 69, 3) := by decide +kernel
theorem d16_4 : decode prog_1_method_17_code 4 = .ok (.ifCond .ne 6, 3) := by decide +kernel
theorem d16_7 : decode prog_1_method_17_code 7 = .ok (.bipush (-3), 2) := by decide +kernel
theorem d16_9 : decode prog_1_method_17_code 9 = .ok (.ireturn, 1) := by decide +kernel
theorem d16_10 : decode prog_1_method_17_code 10 = .ok (.aload_n 0, 1) := by decide +kernel
theorem d16_11 : decode prog_1_method_17_code 11 = .ok (.getfield 72, 3) := by decide +kernel
theorem d16_14 : decode prog_1_method_17_code 14 = .ok (.ifCond .ne 23, 3) := by decide +kernel
theorem d16_17 : decode prog_1_method_17_code 17 = .ok (.aload_n 0, 1) := by decide +kernel
theorem d16_18 : decode prog_1_method_17_code 18 = .ok (.getfield 47, 3) := by decide +kernel
theorem d16_21 : decode prog_1_method_17_code 21 = .ok (.aload_n 0, 1) := by decide +kernel
theorem d16_22 : decode prog_1_method_17_code 22 = .ok (.getfield 33, 3) := by decide +kernel
theorem d16_25 : decode prog_1_method_17_code 25 = .ok (.aload_n 0, 1) := by decide +kernel
theorem d16_26 : decode prog_1_method_17_code 26 = .ok (.getfield 40, 3) := by decide +kernel
theorem d16_29 : decode prog_1_method_17_code 29 = .ok (.invokevirtual 172, 3) := by decide +kernel
theorem d16_32 : decode prog_1_method_17_code 32 = .ok (.aload_n 0, 1) := by decide +kernel
theorem d16_33 : decode prog_1_method_17_code 33 = .ok (.iconst 1, 1) := by decide +kernel
theorem d16_34 : decode prog_1_method_17_code 34 = .ok (.putfield 72, 3) := by decide +kernel
theorem d16_37 : decode prog_1_method_17_code 37 = .ok (.aload_n 0, 1) := by decide +kernel
theorem d16_38 : decode prog_1_method_17_code 38 = .ok (.getfield 47, 3) := by decide +kernel
theorem d16_41 : decode prog_1_method_17_code 41 = .ok (.getfield 174, 3) := by decide +kernel
theorem d16_44 : decode prog_1_method_17_code 44 = .ok (.ireturn, 1) := by decide +kernel
theorem d17_0 : decode prog_1_method_18_code 0 = .ok (.aload_n 0, 1) := by decide +kernel
theorem d17_1 : decode prog_1_method_18_code 1 = .ok (.getfield 69, 3) := by decide +kernel
theorem d17_4 : decode prog_1_method_18_code 4 = .ok (.ifCond .ne 6, 3) := by decide +kernel
theorem d17_7 : decode prog_1_method_18_code 7 = .ok (.bipush (-3), 2) := by decide +kernel
theorem d17_9 : decode prog_1_method_18_code 9 = .ok (.ireturn, 1) := by decide +kernel
theorem d17_10 : decode prog_1_method_18_code 10 = .ok (.aload_n 0, 1) := by decide +kernel
theorem d17_11 : decode prog_1_method_18_code 11 = .ok (.getfield 12, 3) := by decide +kernel
theorem d17_14 : decode prog_1_method_18_code 14 = .ok (.iload_n 1, 1) := by decide +kernel
theorem d17_15 : decode prog_1_method_18_code 15 = .ok (.invokevirtual 93, 3) := by decide +kernel
theorem d17_18 : decode prog_1_method_18_code 18 = .ok (.ifCond .ne 16, 3) := by decide +kernel
theorem d17_21 : decode prog_1_method_18_code 21 = .ok (.aload_n 0, 1) := by decide +kernel
theorem d17_22 : decode prog_1_method_18_code 22 = .ok (.getfield 33, 3) := by decide +kernel
theorem d17_25 : decode prog_1_method_18_code 25 = .ok (.iload_n 1, 1) := by decide +kernel
theorem d17_26 : decode prog_1_method_18_code 26 = .ok (.invokevirtual 177, 3) := by decide +kernel
theorem d17_29 : decode prog_1_method_18_code 29 = .ok (.ifCond .ne 5, 3) := by decide +kernel
theorem d17_32 : decode prog_1_method_18_code 32 = .ok (.iconst (-1), 1) := by decide +kernel
theorem d17_33 : decode prog_1_method_18_code 33 = .ok (.ireturn, 1) := by decide +kernel
theorem d17_34 : decode prog_1_method_18_code 34 = .ok (.aload_n 0, 1) := by decide +kernel
theorem d17_35 : decode prog_1_method_18_code 35 = .ok (.getfield 54, 3) := by decide +kernel
theorem d17_38 : decode prog_1_method_18_code 38 = .ok (.getfield 180, 3) := by decide +kernel
theorem d17_41 : decode prog_1_method_18_code 41 = .ok (.iload_n 1, 1) := by decide +kernel
theorem d17_42 : decode prog_1_method_18_code 42 = .ok (.iaload, 1) := by decide +kernel
theorem d17_43 : decode prog_1_method_18_code 43 = .ok (.ireturn, 1) := by decide +kernel
theorem d18_0 : decode prog_1_method_19_code 0 = .ok (.aload_n 0, 1) := by decide +kernel
theorem d18_1 : decode prog_1_method_19_code 1 = .ok (.getfield 69, 3) := by decide +kernel
theorem d18_4 : decode prog_1_method_19_code 4 = .ok (.ifCond .ne 6, 3) := by decide +kernel
theorem d18_7 : decode prog_1_method_19_code 7 = .ok (.bipush (-3), 2) := by decide +kernel
theorem d18_9 : decode prog_1_method_19_code 9 = .ok (.ireturn, 1) := by decide +kernel
theorem d18_10 : decode prog_1_method_19_code 10 = .ok (.aload_n 0, 1) := by decide +kernel
theorem d18_11 : decode prog_1_method_19_code 11 = .ok (.getfield 12, 3) := by decide +kernel
theorem d18_14 : decode prog_1_method_19_code 14 = .ok (.iload_n 1, 1) := by decide +kernel
theorem d18_15 : decode prog_1_method_19_code 15 = .ok (.invokevirtual 110, 3) := by decide +kernel
theorem d18_18 : decode prog_1_method_19_code 18 = .ok (.ifCond .eq 19, 3) := by decide +kernel
theorem d18_21 : decode prog_1_method_19_code 21 = .ok (.iload_n 2, 1) := by decide +kernel
theorem d18_22 : decode prog_1_method_19_code 22 = .ok (.ifCond .lt 15, 3) := by decide +kernel
theorem d18_25 : decode prog_1_method_19_code 25 = .ok (.iload_n 2, 1) := by decide +kernel
theorem d18_26 : decode prog_1_method_19_code 26 = .ok (.aload_n 0, 1) := by decide +kernel
theorem d18_27 : decode prog_1_method_19_code 27 = .ok (.getfield 26, 3) := by decide +kernel
theorem d18_30 : decode prog_1_method_19_code 30 = .ok (.iload_n 1, 1) := by decide +kernel
theorem d18_31 : decode prog_1_method_19_code 31 = .ok (.invokevirtual 183, 3) := by decide +kernel
theorem d18_34 : decode prog_1_method_19_code 34 = .ok (.if_icmp .le 5, 3) := by decide +kernel
theorem d18_37 : decode prog_1_method_19_code 37 = .ok (.iconst (-1), 1) := by decide +kernel
theorem d18_38 : decode prog_1_method_19_code 38 = .ok (.ireturn, 1) := by decide +kernel
theorem d18_39 : decode prog_1_method_19_code 39 = .ok (.aload_n 0, 1) := by decide +kernel
theorem d18_40 : decode prog_1_method_19_code 40 = .ok (.getfield 33, 3) := by decide +kernel
theorem d18_43 : decode prog_1_method_19_code 43 = .ok (.aload_n 0, 1) := by decide +kernel
theorem d18_44 : decode prog_1_method_19_code 44 = .ok (.getfield 26, 3) := by decide +kernel
theorem d18_47 : decode prog_1_method_19_code 47 = .ok (.iload_n 1, 1) := by decide +kernel
theorem d18_48 : decode prog_1_method_19_code 48 = .ok (.iload_n 2, 1) := by decide +kernel
theorem d18_49 : decode prog_1_method_19_code 49 = .ok (.invokevirtual 186, 3) := by decide +kernel
theorem d18_52 : decode prog_1_method_19_code 52 = .ok (.ireturn, 1) := by decide +kernel
theorem d19_0 : decode prog_1_method_20_code 0 = .ok (.aload_n 0, 1) := by decide +kernel
theorem d19_1 : decode prog_1_method_20_code 1 = .ok (.getfield 69, 3) := by decide +kernel
theorem d19_4 : decode prog_1_method_20_code 4 = .ok (.ifCond .eq 13, 3) := by decide +kernel
theorem d19_7 : decode prog_1_method_20_code 7 = .ok (.aload_n 0, 1) := by decide +kernel
theorem d19_8 : decode prog_1_method_20_code 8 = .ok (.getfield 54, 3) := by decide +kernel
theorem d19_11 : decode prog_1_method_20_code 11 = .ok (.getfield 190, 3) := by decide +kernel
theorem d19_14 : decode prog_1_method_20_code 14 = .ok (.goto 5, 3) := by decide +kernel
theorem d19_17 : decode prog_1_method_20_code 17 = .ok (.bipush (-3), 2) := by decide +kernel
theorem d19_19 : decode prog_1_method_20_code 19 = .ok (.ireturn, 1) := by decide +kernel
theorem d20_0 : decode prog_1_method_21_code 0 = .ok (.aload_n 0, 1) := by decide +kernel
theorem d20_1 : decode prog_1_method_21_code 1 = .ok (.getfield 12, 3) := by decide +kernel
theorem d20_4 : decode prog_1_method_21_code 4 = .ok (.iload_n 1, 1) := by decide +kernel
theorem d20_5 : decode prog_1_method_21_code 5 = .ok (.invokevirtual 93, 3) := by decide +kernel
theorem d20_8 : decode prog_1_method_21_code 8 = .ok (.ifCond .ne 5, 3) := by decide +kernel
theorem d20_11 : decode prog_1_method_21_code 11 = .ok (.iconst (-1), 1) := by decide +kernel
theorem d20_12 : decode prog_1_method_21_code 12 = .ok (.ireturn, 1) := by decide +kernel
theorem d20_13 : decode prog_1_method_21_code 13 = .ok (.aload_n 0, 1) := by decide +kernel
theorem d20_14 : decode prog_1_method_21_code 14 = .ok (.invokevirtual 123, 3) := by decide +kernel
theorem d20_17 : decode prog_1_method_21_code 17 = .ok (.aload_n 0, 1) := by decide +kernel
theorem d20_18 : decode prog_1_method_21_code 18 = .ok (.getfield 19, 3) := by decide +kernel
theorem d20_21 : decode prog_1_method_21_code 21 = .ok (.getfield 126, 3) := by decide +kernel
theorem d20_24 : decode prog_1_method_21_code 24 = .ok (.ifCond .ne 17, 3) := by decide +kernel
theorem d20_27 : decode prog_1_method_21_code 27 = .ok (.aload_n 0, 1) := by decide +kernel
theorem d20_28 : decode prog_1_method_21_code 28 = .ok (.getfield 61, 3) := by decide +kernel
theorem d20_31 : decode prog_1_method_21_code 31 = .ok (.aload_n 0, 1) := by decide +kernel
theorem d20_32 : decode prog_1_method_21_code 32 = .ok (.getfield 12, 3) := by decide +kernel
theorem d20_35 : decode prog_1_method_21_code 35 = .ok (.invokevirtual 193, 3) := by decide +kernel
theorem d20_38 : decode prog_1_method_21_code 38 = .ok (.ifCond .ne 6, 3) := by decide +kernel
theorem d20_41 : decode prog_1_method_21_code 41 = .ok (.bipush (-3), 2) := by decide +kernel
theorem d20_43 : decode prog_1_method_21_code 43 = .ok (.ireturn, 1) := by decide +kernel
theorem d20_44 : decode prog_1_method_21_code 44 = .ok (.aload_n 0, 1) := by decide +kernel
theorem d20_45 : decode prog_1_method_21_code 45 = .ok (.getfield 75, 3) := by decide +kernel
theorem d20_48 : decode prog_1_method_21_code 48 = .ok (.ifCond .ne 19, 3) := by decide +kernel
theorem d20_51 : decode prog_1_method_21_code 51 = .ok (.aload_n 0, 1) := by decide +kernel
theorem d20_52 : decode prog_1_method_21_code 52 = .ok (.getfield 61, 3) := by decide +kernel
theorem d20_55 : decode prog_1_method_21_code 55 = .ok (.aload_n 0, 1) := by decide +kernel
theorem d20_56 : decode prog_1_method_21_code 56 = .ok (.getfield 12, 3) := by decide +kernel
theorem d20_59 : decode prog_1_method_21_code 59 = .ok (.invokevirtual 197, 3) := by decide +kernel
theorem d20_62 : decode prog_1_method_21_code 62 = .ok (.aload_n 0, 1) := by decide +kernel
theorem d20_63 : decode prog_1_method_21_code 63 = .ok (.iconst 1, 1) := by decide +kernel
theorem d20_64 : decode prog_1_method_21_code 64 = .ok (.putfield 75, 3) := by decide +kernel
theorem d20_67 : decode prog_1_method_21_code 67 = .ok (.aload_n 0, 1) := by decide +kernel
theorem d20_68 : decode prog_1_method_21_code 68 = .ok (.getfield 61, 3) := by decide +kernel
theorem d20_71 : decode prog_1_method_21_code 71 = .ok (.getfield 201, 3) := by decide +kernel
theorem d20_74 : decode prog_1_method_21_code 74 = .ok (.iload_n 1, 1) := by decide +kernel
theorem d20_75 : decode prog_1_method_21_code 75 = .ok (.iaload, 1) := by decide +kernel
theorem d20_76 : decode prog_1_method_21_code 76 = .ok (.ireturn, 1) := by decide +kernel
theorem d21_0 : decode prog_1_method_22_code 0 = .ok (.iload_n 0, 1) := by decide +kernel
theorem d21_1 : decode prog_1_method_22_code 1 = .ok (.iconst 1, 1) := by decide +kernel
theorem d21_2 : decode prog_1_method_22_code 2 = .ok (.if_icmp .lt 13, 3) := by decide +kernel
theorem d21_5 : decode prog_1_method_22_code 5 = .ok (.iload_n 0, 1) := by decide +kernel
theorem d21_6 : decode prog_1_method_22_code 6 = .ok (.bipush 9, 2) := by decide +kernel
theorem d21_8 : decode prog_1_method_22_code 8 = .ok (.if_icmp .gt 7, 3) := by decide +kernel
theorem d21_11 : decode prog_1_method_22_code 11 = .ok (.iconst 1, 1) := by decide +kernel
theorem d21_12 : decode prog_1_method_22_code 12 = .ok (.goto 4, 3) := by decide +kernel
theorem d21_15 : decode prog_1_method_22_code 15 = .ok (.iconst 0, 1) := by decide +kernel
theorem d21_16 : decode prog_1_method_22_code 16 = .ok (.ireturn, 1) := by decide +kernel
theorem d22_0 : decode prog_1_method_23_code 0 = .ok (.aload_n 0, 1) := by decide +kernel
theorem d22_1 : decode prog_1_method_23_code 1 = .ok (.iconst 0, 1) := by decide +kernel
theorem d22_2 : decode prog_1_method_23_code 2 = .ok (.putfield 65, 3) := by decide +kernel
theorem d22_5 : decode prog_1_method_23_code 5 = .ok (.aload_n 0, 1) := by decide +kernel
theorem d22_6 : decode prog_1_method_23_code 6 = .ok (.invokevirtual 96, 3) := by decide +kernel
theorem d22_9 : decode prog_1_method_23_code 9 = .ok (.return_, 1) := by decide +kernel
theorem d23_0 : decode prog_1_method_24_code 0 = .ok (.aload_n 0, 1) := by decide +kernel
theorem d23_1 : decode prog_1_method_24_code 1 = .ok (.iconst 0, 1) := by decide +kernel
theorem d23_2 : decode prog_1_method_24_code 2 = .ok (.putfield 69, 3) := by decide +kernel
theorem d23_5 : decode prog_1_method_24_code 5 = .ok (.aload_n 0, 1) := by decide +kernel
theorem d23_6 : decode prog_1_method_24_code 6 = .ok (.iconst 0, 1) := by decide +kernel
theorem d23_7 : decode prog_1_method_24_code 7 = .ok (.putfield 72, 3) := by decide +kernel
theorem d23_10 : decode prog_1_method_24_code 10 = .ok (.aload_n 0, 1) := by decide +kernel
theorem d23_11 : decode prog_1_method_24_code 11 = .ok (.iconst 0, 1) := by decide +kernel
theorem d23_12 : decode prog_1_method_24_code 12 = .ok (.putfield 75, 3) := by decide +kernel
theorem d23_15 : decode prog_1_method_24_code 15 = .ok (.return_, 1) := by decide +kernel
theorem d24_0 : decode prog_1_method_25_code 0 = .ok (.aload_n 0, 1) := by decide +kernel
theorem d24_1 : decode prog_1_method_25_code 1 = .ok (.getfield 65, 3) := by decide +kernel
theorem d24_4 : decode prog_1_method_25_code 4 = .ok (.ifCond .ne 34, 3) := by decide +kernel
theorem d24_7 : decode prog_1_method_25_code 7 = .ok (.aload_n 0, 1) := by decide +kernel
theorem d24_8 : decode prog_1_method_25_code 8 = .ok (.getfield 19, 3) := by decide +kernel
theorem d24_11 : decode prog_1_method_25_code 11 = .ok (.aload_n 0, 1) := by decide +kernel
theorem d24_12 : decode prog_1_method_25_code 12 = .ok (.getfield 12, 3) := by decide +kernel
theorem d24_15 : decode prog_1_method_25_code 15 = .ok (.invokevirtual 202, 3) := by decide +kernel
theorem d24_18 : decode prog_1_method_25_code 18 = .ok (.aload_n 0, 1) := by decide +kernel
theorem d24_19 : decode prog_1_method_25_code 19 = .ok (.getfield 26, 3) := by decide +kernel
theorem d24_22 : decode prog_1_method_25_code 22 = .ok (.aload_n 0, 1) := by decide +kernel
theorem d24_23 : decode prog_1_method_25_code 23 = .ok (.getfield 12, 3) := by decide +kernel
theorem d24_26 : decode prog_1_method_25_code 26 = .ok (.aload_n 0, 1) := by decide +kernel
theorem d24_27 : decode prog_1_method_25_code 27 = .ok (.getfield 19, 3) := by decide +kernel
theorem d24_30 : decode prog_1_method_25_code 30 = .ok (.invokevirtual 204, 3) := by decide +kernel
theorem d24_33 : decode prog_1_method_25_code 33 = .ok (.aload_n 0, 1) := by decide +kernel
theorem d24_34 : decode prog_1_method_25_code 34 = .ok (.iconst 1, 1) := by decide +kernel
theorem d24_35 : decode prog_1_method_25_code 35 = .ok (.putfield 65, 3) := by decide +kernel
theorem d24_38 : decode prog_1_method_25_code 38 = .ok (.return_, 1) := by decide +kernel
theorem d25_0 : decode prog_11_method_1_code 0 = .ok (.aload_n 0, 1) := by decide +kernel
theorem d25_1 : decode prog_11_method_1_code 1 = .ok (.invokespecial 1, 3) := by decide +kernel
theorem d25_4 : decode prog_11_method_1_code 4 = .ok (.aload_n 0, 1) := by decide +kernel
theorem d25_5 : decode prog_11_method_1_code 5 = .ok (.bipush 12, 2) := by decide +kernel
theorem d25_7 : decode prog_11_method_1_code 7 = .ok (.newarray .int, 2) := by decide +kernel
theorem d25_9 : decode prog_11_method_1_code 9 = .ok (.putfield 7, 3) := by decide +kernel
theorem d25_12 : decode prog_11_method_1_code 12 = .ok (.aload_n 0, 1) := by decide +kernel
theorem d25_13 : decode prog_11_method_1_code 13 = .ok (.bipush 24, 2) := by decide +kernel
theorem d25_15 : decode prog_11_method_1_code 15 = .ok (.newarray .int, 2) := by decide +kernel
theorem d25_17 : decode prog_11_method_1_code 17 = .ok (.putfield 13, 3) := by decide +kernel
theorem d25_20 : decode prog_11_method_1_code 20 = .ok (.aload_n 0, 1) := by decide +kernel
theorem d25_21 : decode prog_11_method_1_code 21 = .ok (.bipush 24, 2) := by decide +kernel
theorem d25_23 : decode prog_11_method_1_code 23 = .ok (.newarray .int, 2) := by decide +kernel
theorem d25_25 : decode prog_11_method_1_code 25 = .ok (.putfield 16, 3) := by decide +kernel
theorem d25_28 : decode prog_11_method_1_code 28 = .ok (.aload_n 0, 1) := by decide +kernel
theorem d25_29 : decode prog_11_method_1_code 29 = .ok (.bipush 24, 2) := by decide +kernel
theorem d25_31 : decode prog_11_method_1_code 31 = .ok (.newarray .boolean, 2) := by decide +kernel
theorem d25_33 : decode prog_11_method_1_code 33 = .ok (.putfield 19, 3) := by decide +kernel
theorem d25_36 : decode prog_11_method_1_code 36 = .ok (.aload_n 0, 1) := by decide +kernel
theorem d25_37 : decode prog_11_method_1_code 37 = .ok (.iconst 1, 1) := by decide +kernel
theorem d25_38 : decode prog_11_method_1_code 38 = .ok (.putfield 23, 3) := by decide +kernel
theorem d25_41 : decode prog_11_method_1_code 41 = .ok (.aload_n 0, 1) := by decide +kernel
theorem d25_42 : decode prog_11_method_1_code 42 = .ok (.bipush 24, 2) := by decide +kernel
theorem d25_44 : decode prog_11_method_1_code 44 = .ok (.newarray .boolean, 2) := by decide +kernel
theorem d25_46 : decode prog_11_method_1_code 46 = .ok (.putfield 27, 3) := by decide +kernel
theorem d25_49 : decode prog_11_method_1_code 49 = .ok (.aload_n 0, 1) := by decide +kernel
theorem d25_50 : decode prog_11_method_1_code 50 = .ok (.bipush 12, 2) := by decide +kernel
theorem d25_52 : decode prog_11_method_1_code 52 = .ok (.newarray .int, 2) := by decide +kernel
theorem d25_54 : decode prog_11_method_1_code 54 = .ok (.putfield 30, 3) := by decide +kernel
theorem d25_57 : decode prog_11_method_1_code 57 = .ok (.aload_n 0, 1) := by decide +kernel
theorem d25_58 : decode prog_11_method_1_code 58 = .ok (.bipush 24, 2) := by decide +kernel
theorem d25_60 : decode prog_11_method_1_code 60 = .ok (.newarray .int, 2) := by decide +kernel
theorem d25_62 : decode prog_11_method_1_code 62 = .ok (.putfield 33, 3) := by decide +kernel
theorem d25_65 : decode prog_11_method_1_code 65 = .ok (.aload_n 0, 1) := by decide +kernel
theorem d25_66 : decode prog_11_method_1_code 66 = .ok (.bipush 24, 2) := by decide +kernel
theorem d25_68 : decode prog_11_method_1_code 68 = .ok (.newarray .int, 2) := by decide +kernel
theorem d25_70 : decode prog_11_method_1_code 70 = .ok (.putfield 36, 3) := by decide +kernel
theorem d25_73 : decode prog_11_method_1_code 73 = .ok (.aload_n 0, 1) := by decide +kernel
theorem d25_74 : decode prog_11_method_1_code 74 = .ok (.bipush 24, 2) := by decide +kernel
theorem d25_76 : decode prog_11_method_1_code 76 = .ok (.newarray .int, 2) := by decide +kernel
theorem d25_78 : decode prog_11_method_1_code 78 = .ok (.putfield 39, 3) := by decide +kernel
theorem d25_81 : decode prog_11_method_1_code 81 = .ok (.aload_n 0, 1) := by decide +kernel
theorem d25_82 : decode prog_11_method_1_code 82 = .ok (.sipush 4096, 3) := by decide +kernel
theorem d25_85 : decode prog_11_method_1_code 85 = .ok (.newarray .int, 2) := by decide +kernel
theorem d25_87 : decode prog_11_method_1_code 87 = .ok (.putfield 42, 3) := by decide +kernel
theorem d25_90 : decode prog_11_method_1_code 90 = .ok (.aload_n 0, 1) := by decide +kernel
theorem d25_91 : decode prog_11_method_1_code 91 = .ok (.sipush 144, 3) := by decide +kernel
theorem d25_94 : decode prog_11_method_1_code 94 = .ok (.newarray .int, 2) := by decide +kernel
theorem d25_96 : decode prog_11_method_1_code 96 = .ok (.putfield 45, 3) := by decide +kernel
theorem d25_99 : decode prog_11_method_1_code 99 = .ok (.aload_n 0, 1) := by decide +kernel
theorem d25_100 : decode prog_11_method_1_code 100 = .ok (.ldc 48, 2) := by decide +kernel
theorem d25_102 : decode prog_11_method_1_code 102 = .ok (.newarray .int, 2) := by decide +kernel
theorem d25_104 : decode prog_11_method_1_code 104 = .ok (.putfield 49, 3) := by decide +kernel
theorem d25_107 : decode prog_11_method_1_code 107 = .ok (.aload_n 0, 1) := by decide +kernel
theorem d25_108 : decode prog_11_method_1_code 108 = .ok (.bipush 80, 2) := by decide +kernel
theorem d25_110 : decode prog_11_method_1_code 110 = .ok (.newarray .int, 2) := by decide +kernel
theorem d25_112 : decode prog_11_method_1_code 112 = .ok (.putfield 52, 3) := by decide +kernel
theorem d25_115 : decode prog_11_method_1_code 115 = .ok (.aload_n 0, 1) := by decide +kernel
theorem d25_116 : decode prog_11_method_1_code 116 = .ok (.bipush 80, 2) := by decide +kernel
theorem d25_118 : decode prog_11_method_1_code 118 = .ok (.newarray .boolean, 2) := by decide +kernel
theorem d25_120 : decode prog_11_method_1_code 120 = .ok (.putfield 55, 3) := by decide +kernel
theorem d25_123 : decode prog_11_method_1_code 123 = .ok (.aload_n 0, 1) := by decide +kernel
theorem d25_124 : decode prog_11_method_1_code 124 = .ok (.bipush 24, 2) := by decide +kernel
theorem d25_126 : decode prog_11_method_1_code 126 = .ok (.newarray .int, 2) := by decide +kernel
theorem d25_128 : decode prog_11_method_1_code 128 = .ok (.putfield 58, 3) := by decide +kernel
theorem d25_131 : decode prog_11_method_1_code 131 = .ok (.aload_n 0, 1) := by decide +kernel
theorem d25_132 : decode prog_11_method_1_code 132 = .ok (.bipush 100, 2) := by decide +kernel
theorem d25_134 : decode prog_11_method_1_code 134 = .ok (.newarray .int, 2) := by decide +kernel
theorem d25_136 : decode prog_11_method_1_code 136 = .ok (.putfield 61, 3) := by decide +kernel
theorem d25_139 : decode prog_11_method_1_code 139 = .ok (.aload_n 0, 1) := by decide +kernel
theorem d25_140 : decode prog_11_method_1_code 140 = .ok (.bipush 100, 2) := by decide +kernel
theorem d25_142 : decode prog_11_method_1_code 142 = .ok (.newarray .int, 2) := by decide +kernel
theorem d25_144 : decode prog_11_method_1_code 144 = .ok (.putfield 64, 3) := by decide +kernel
theorem d25_147 : decode prog_11_method_1_code 147 = .ok (.aload_n 0, 1) := by decide +kernel
theorem d25_148 : decode prog_11_method_1_code 148 = .ok (.sipush 960, 3) := by decide +kernel
theorem d25_151 : decode prog_11_method_1_code 151 = .ok (.newarray .int, 2) := by decide +kernel
theorem d25_153 : decode prog_11_method_1_code 153 = .ok (.putfield 67, 3) := by decide +kernel
theorem d25_156 : decode prog_11_method_1_code 156 = .ok (.aload_n 0, 1) := by decide +kernel
theorem d25_157 : decode prog_11_method_1_code 157 = .ok (.bipush 12, 2) := by decide +kernel
theorem d25_159 : decode prog_11_method_1_code 159 = .ok (.newarray .int, 2) := by decide +kernel
theorem d25_161 : decode prog_11_method_1_code 161 = .ok (.putfield 70, 3) := by decide +kernel
theorem d25_164 : decode prog_11_method_1_code 164 = .ok (.aload_n 0, 1) := by decide +kernel
theorem d25_165 : decode prog_11_method_1_code 165 = .ok (.bipush 80, 2) := by decide +kernel
theorem d25_167 : decode prog_11_method_1_code 167 = .ok (.newarray .int, 2) := by decide +kernel
theorem d25_169 : decode prog_11_method_1_code 169 = .ok (.putfield 73, 3) := by decide +kernel
theorem d25_172 : decode prog_11_method_1_code 172 = .ok (.aload_n 0, 1) := by decide +kernel
theorem d25_173 : decode prog_11_method_1_code 173 = .ok (.sipush 960, 3) := by decide +kernel
theorem d25_176 : decode prog_11_method_1_code 176 = .ok (.newarray .int, 2) := by decide +kernel
theorem d25_178 : decode prog_11_method_1_code 178 = .ok (.putfield 76, 3) := by decide +kernel
theorem d25_181 : decode prog_11_method_1_code 181 = .ok (.aload_n 0, 1) := by decide +kernel
theorem d25_182 : decode prog_11_method_1_code 182 = .ok (.bipush 80, 2) := by decide +kernel
theorem d25_184 : decode prog_11_method_1_code 184 = .ok (.newarray .int, 2) := by decide +kernel
theorem d25_186 : decode prog_11_method_1_code 186 = .ok (.putfield 79, 3) := by decide +kernel
theorem d25_189 : decode prog_11_method_1_code 189 = .ok (.aload_n 0, 1) := by decide +kernel
theorem d25_190 : decode prog_11_method_1_code 190 = .ok (.bipush 80, 2) := by decide +kernel
theorem d25_192 : decode prog_11_method_1_code 192 = .ok (.newarray .int, 2) := by decide +kernel
theorem d25_194 : decode prog_11_method_1_code 194 = .ok (.putfield 82, 3) := by decide +kernel
theorem d25_197 : decode prog_11_method_1_code 197 = .ok (.aload_n 0, 1) := by decide +kernel
theorem d25_198 : decode prog_11_method_1_code 198 = .ok (.bipush 80, 2) := by decide +kernel
theorem d25_200 : decode prog_11_method_1_code 200 = .ok (.newarray .int, 2) := by decide +kernel
theorem d25_202 : decode prog_11_method_1_code 202 = .ok (.putfield 85, 3) := by decide +kernel
theorem d25_205 : decode prog_11_method_1_code 205 = .ok (.aload_n 0, 1) := by decide +kernel
theorem d25_206 : decode prog_11_method_1_code 206 = .ok (.bipush 12, 2) := by decide +kernel
theorem d25_208 : decode prog_11_method_1_code 208 = .ok (.newarray .int, 2) := by decide +kernel
theorem d25_210 : decode prog_11_method_1_code 210 = .ok (.putfield 88, 3) := by decide +kernel
theorem d25_213 : decode prog_11_method_1_code 213 = .ok (.aload_n 0, 1) := by decide +kernel
theorem d25_214 : decode prog_11_method_1_code 214 = .ok (.bipush 12, 2) := by decide +kernel
theorem d25_216 : decode prog_11_method_1_code 216 = .ok (.newarray .int, 2) := by decide +kernel
theorem d25_218 : decode prog_11_method_1_code 218 = .ok (.putfield 91, 3) := by decide +kernel
theorem d25_221 : decode prog_11_method_1_code 221 = .ok (.aload_n 0, 1) := by decide +kernel
theorem d25_222 : decode prog_11_method_1_code 222 = .ok (.bipush 12, 2) := by decide +kernel
theorem d25_224 : decode prog_11_method_1_code 224 = .ok (.newarray .int, 2) := by decide +kernel
theorem d25_226 : decode prog_11_method_1_code 226 = .ok (.putfield 94, 3) := by decide +kernel
theorem d25_229 : decode prog_11_method_1_code 229 = .ok (.aload_n 0, 1) := by decide +kernel
theorem d25_230 : decode prog_11_method_1_code 230 = .ok (.bipush 12, 2) := by decide +kernel
theorem d25_232 : decode prog_11_method_1_code 232 = .ok (.newarray .int, 2) := by decide +kernel
theorem d25_234 : decode prog_11_method_1_code 234 = .ok (.putfield 97, 3) := by decide +kernel
theorem d25_237 : decode prog_11_method_1_code 237 = .ok (.aload_n 0, 1) := by decide +kernel
theorem d25_238 : decode prog_11_method_1_code 238 = .ok (.bipush 12, 2) := by decide +kernel
theorem d25_240 : decode prog_11_method_1_code 240 = .ok (.newarray .int, 2) := by decide +kernel
theorem d25_242 : decode prog_11_method_1_code 242 = .ok (.putfield 100, 3) := by decide +kernel
theorem d25_245 : decode prog_11_method_1_code 245 = .ok (.return_, 1) := by decide +kernel
theorem d26_0 : decode prog_11_method_2_code 0 = .ok (.aload_n 0, 1) := by decide +kernel
theorem d26_1 : decode prog_11_method_2_code 1 = .ok (.iconst 1, 1) := by decide +kernel
theorem d26_2 : decode prog_11_method_2_code 2 = .ok (.putfield 23, 3) := by decide +kernel
theorem d26_5 : decode prog_11_method_2_code 5 = .ok (.aload_n 0, 1) := by decide +kernel
theorem d26_6 : decode prog_11_method_2_code 6 = .ok (.iconst 0, 1) := by decide +kernel
theorem d26_7 : decode prog_11_method_2_code 7 = .ok (.putfield 103, 3) := by decide +kernel
theorem d26_10 : decode prog_11_method_2_code 10 = .ok (.return_, 1) := by decide +kernel
theorem d27_0 : decode prog_11_method_3_code 0 = .ok (.iload_n 1, 1) := by decide +kernel
theorem d27_1 : decode prog_11_method_3_code 1 = .ok (.ifCond .lt 15, 3) := by decide +kernel
theorem d27_4 : decode prog_11_method_3_code 4 = .ok (.iload_n 1, 1) := by decide +kernel
theorem d27_5 : decode prog_11_method_3_code 5 = .ok (.aload_n 0, 1) := by decide +kernel
theorem d27_6 : decode prog_11_method_3_code 6 = .ok (.getfield 106, 3) := by decide +kernel
theorem d27_9 : decode prog_11_method_3_code 9 = .ok (.if_icmp .ge 7, 3) := by decide +kernel
theorem d27_12 : decode prog_11_method_3_code 12 = .ok (.iconst 1, 1) := by decide +kernel
theorem d27_13 : decode prog_11_method_3_code 13 = .ok (.goto 4, 3) := by decide +kernel
theorem d27_16 : decode prog_11_method_3_code 16 = .ok (.iconst 0, 1) := by decide +kernel
theorem d27_17 : decode prog_11_method_3_code 17 = .ok (.ireturn, 1) := by decide +kernel
theorem d28_0 : decode prog_11_method_4_code 0 = .ok (.iload_n 1, 1) := by decide +kernel
theorem d28_1 : decode prog_11_method_4_code 1 = .ok (.ifCond .lt 24, 3) := by decide +kernel
theorem d28_4 : decode prog_11_method_4_code 4 = .ok (.iload_n 1, 1) := by decide +kernel
theorem d28_5 : decode prog_11_method_4_code 5 = .ok (.aload_n 0, 1) := by decide +kernel
theorem d28_6 : decode prog_11_method_4_code 6 = .ok (.getfield 110, 3) := by decide +kernel
theorem d28_9 : decode prog_11_method_4_code 9 = .ok (.if_icmp .ge 16, 3) := by decide +kernel
theorem d28_12 : decode prog_11_method_4_code 12 = .ok (.aload_n 0, 1) := by decide +kernel
theorem d28_13 : decode prog_11_method_4_code 13 = .ok (.getfield 19, 3) := by decide +kernel
theorem d28_16 : decode prog_11_method_4_code 16 = .ok (.iload_n 1, 1) := by decide +kernel
theorem d28_17 : decode prog_11_method_4_code 17 = .ok (.baload, 1) := by decide +kernel
theorem d28_18 : decode prog_11_method_4_code 18 = .ok (.ifCond .eq 7, 3) := by decide +kernel
theorem d28_21 : decode prog_11_method_4_code 21 = .ok (.iconst 1, 1) := by decide +kernel
theorem d28_22 : decode prog_11_method_4_code 22 = .ok (.goto 4, 3) := by decide +kernel
theorem d28_25 : decode prog_11_method_4_code 25 = .ok (.iconst 0, 1) := by decide +kernel
theorem d28_26 : decode prog_11_method_4_code 26 = .ok (.ireturn, 1) := by decide +kernel
theorem d29_0 : decode prog_11_method_5_code 0 = .ok (.iload_n 1, 1) := by decide +kernel
theorem d29_1 : decode prog_11_method_5_code 1 = .ok (.iconst 1, 1) := by decide +kernel
theorem d29_2 : decode prog_11_method_5_code 2 = .ok (.if_icmp .lt 9, 3) := by decide +kernel
theorem d29_5 : decode prog_11_method_5_code 5 = .ok (.iload_n 1, 1) := by decide +kernel
theorem d29_6 : decode prog_11_method_5_code 6 = .ok (.bipush 9, 2) := by decide +kernel
theorem d29_8 : decode prog_11_method_5_code 8 = .ok (.if_icmp .le 6, 3) := by decide +kernel
theorem d29_11 : decode prog_11_method_5_code 11 = .ok (.bipush (-2), 2) := by decide +kernel
theorem d29_13 : decode prog_11_method_5_code 13 = .ok (.ireturn, 1) := by decide +kernel
theorem d29_14 : decode prog_11_method_5_code 14 = .ok (.aload_n 0, 1) := by decide +kernel
theorem d29_15 : decode prog_11_method_5_code 15 = .ok (.getfield 106, 3) := by decide +kernel
theorem d29_18 : decode prog_11_method_5_code 18 = .ok (.bipush 12, 2) := by decide +kernel
theorem d29_20 : decode prog_11_method_5_code 20 = .ok (.if_icmp .ne 6, 3) := by decide +kernel
theorem d29_23 : decode prog_11_method_5_code 23 = .ok (.bipush (-4), 2) := by decide +kernel
theorem d29_25 : decode prog_11_method_5_code 25 = .ok (.ireturn, 1) := by decide +kernel
theorem d29_26 : decode prog_11_method_5_code 26 = .ok (.aload_n 0, 1) := by decide +kernel
theorem d29_27 : decode prog_11_method_5_code 27 = .ok (.getfield 7, 3) := by decide +kernel
theorem d29_30 : decode prog_11_method_5_code 30 = .ok (.aload_n 0, 1) := by decide +kernel
theorem d29_31 : decode prog_11_method_5_code 31 = .ok (.getfield 106, 3) := by decide +kernel
theorem d29_34 : decode prog_11_method_5_code 34 = .ok (.iload_n 1, 1) := by decide +kernel
theorem d29_35 : decode prog_11_method_5_code 35 = .ok (.iastore, 1) := by decide +kernel
theorem d29_36 : decode prog_11_method_5_code 36 = .ok (.aload_n 0, 1) := by decide +kernel
theorem d29_37 : decode prog_11_method_5_code 37 = .ok (.dup, 1) := by decide +kernel
theorem d29_38 : decode prog_11_method_5_code 38 = .ok (.getfield 106, 3) := by decide +kernel
theorem d29_41 : decode prog_11_method_5_code 41 = .ok (.iconst 1, 1) := by decide +kernel
theorem d29_42 : decode prog_11_method_5_code 42 = .ok (.iadd, 1) := by decide +kernel
theorem d29_43 : decode prog_11_method_5_code 43 = .ok (.putfield 106, 3) := by decide +kernel
theorem d29_46 : decode prog_11_method_5_code 46 = .ok (.aload_n 0, 1) := by decide +kernel
theorem d29_47 : decode prog_11_method_5_code 47 = .ok (.invokevirtual 113, 3) := by decide +kernel
theorem d29_50 : decode prog_11_method_5_code 50 = .ok (.aload_n 0, 1) := by decide +kernel
theorem d29_51 : decode prog_11_method_5_code 51 = .ok (.getfield 106, 3) := by decide +kernel
theorem d29_54 : decode prog_11_method_5_code 54 = .ok (.iconst 1, 1) := by decide +kernel
theorem d29_55 : decode prog_11_method_5_code 55 = .ok (.isub, 1) := by decide +kernel
theorem d29_56 : decode prog_11_method_5_code 56 = .ok (.ireturn, 1) := by decide +kernel
theorem d30_0 : decode prog_11_method_6_code 0 = .ok (.aload_n 0, 1) := by decide +kernel
theorem d30_1 : decode prog_11_method_6_code 1 = .ok (.iload_n 1, 1) := by decide +kernel
theorem d30_2 : decode prog_11_method_6_code 2 = .ok (.invokevirtual 116, 3) := by decide +kernel
theorem d30_5 : decode prog_11_method_6_code 5 = .ok (.ifCond .ne 5, 3) := by decide +kernel
theorem d30_8 : decode prog_11_method_6_code 8 = .ok (.iconst (-1), 1) := by decide +kernel
theorem d30_9 : decode prog_11_method_6_code 9 = .ok (.ireturn, 1) := by decide +kernel
theorem d30_10 : decode prog_11_method_6_code 10 = .ok (.iload_n 2, 1) := by decide +kernel
theorem d30_11 : decode prog_11_method_6_code 11 = .ok (.iconst 1, 1) := by decide +kernel
theorem d30_12 : decode prog_11_method_6_code 12 = .ok (.if_icmp .lt 9, 3) := by decide +kernel
theorem d30_15 : decode prog_11_method_6_code 15 = .ok (.iload_n 2, 1) := by decide +kernel
theorem d30_16 : decode prog_11_method_6_code 16 = .ok (.bipush 9, 2) := by decide +kernel
theorem d30_18 : decode prog_11_method_6_code 18 = .ok (.if_icmp .le 6, 3) := by decide +kernel
theorem d30_21 : decode prog_11_method_6_code 21 = .ok (.bipush (-2), 2) := by decide +kernel
theorem d30_23 : decode prog_11_method_6_code 23 = .ok (.ireturn, 1) := by decide +kernel
theorem d30_24 : decode prog_11_method_6_code 24 = .ok (.aload_n 0, 1) := by decide +kernel
theorem d30_25 : decode prog_11_method_6_code 25 = .ok (.getfield 7, 3) := by decide +kernel
theorem d30_28 : decode prog_11_method_6_code 28 = .ok (.iload_n 1, 1) := by decide +kernel
theorem d30_29 : decode prog_11_method_6_code 29 = .ok (.iaload, 1) := by decide +kernel
theorem d30_30 : decode prog_11_method_6_code 30 = .ok (.istore_n 3, 1) := by decide +kernel
theorem d30_31 : decode prog_11_method_6_code 31 = .ok (.aload_n 0, 1) := by decide +kernel
theorem d30_32 : decode prog_11_method_6_code 32 = .ok (.getfield 7, 3) := by decide +kernel
theorem d30_35 : decode prog_11_method_6_code 35 = .ok (.iload_n 1, 1) := by decide +kernel
theorem d30_36 : decode prog_11_method_6_code 36 = .ok (.iload_n 2, 1) := by decide +kernel
theorem d30_37 : decode prog_11_method_6_code 37 = .ok (.iastore, 1) := by decide +kernel
theorem d30_38 : decode prog_11_method_6_code 38 = .ok (.aload_n 0, 1) := by decide +kernel
theorem d30_39 : decode prog_11_method_6_code 39 = .ok (.invokevirtual 113, 3) := by decide +kernel
theorem d30_42 : decode prog_11_method_6_code 42 = .ok (.iload_n 3, 1) := by decide +kernel
theorem d30_43 : decode prog_11_method_6_code 43 = .ok (.ireturn, 1) := by decide +kernel
theorem d31_0 : decode prog_11_method_7_code 0 = .ok (.aload_n 0, 1) := by decide +kernel
theorem d31_1 : decode prog_11_method_7_code 1 = .ok (.iload_n 1, 1) := by decide +kernel
theorem d31_2 : decode prog_11_method_7_code 2 = .ok (.invokevirtual 116, 3) := by decide +kernel
theorem d31_5 : decode prog_11_method_7_code 5 = .ok (.ifCond .eq 16, 3) := by decide +kernel
theorem d31_8 : decode prog_11_method_7_code 8 = .ok (.aload_n 0, 1) := by decide +kernel
theorem d31_9 : decode prog_11_method_7_code 9 = .ok (.iload_n 2, 1) := by decide +kernel
theorem d31_10 : decode prog_11_method_7_code 10 = .ok (.invokevirtual 116, 3) := by decide +kernel
theorem d31_13 : decode prog_11_method_7_code 13 = .ok (.ifCond .eq 8, 3) := by decide +kernel
theorem d31_16 : decode prog_11_method_7_code 16 = .ok (.iload_n 1, 1) := by decide +kernel
theorem d31_17 : decode prog_11_method_7_code 17 = .ok (.iload_n 2, 1) := by decide +kernel
theorem d31_18 : decode prog_11_method_7_code 18 = .ok (.if_icmp .ne 5, 3) := by decide +kernel
theorem d31_21 : decode prog_11_method_7_code 21 = .ok (.iconst (-1), 1) := by decide +kernel
theorem d31_22 : decode prog_11_method_7_code 22 = .ok (.ireturn, 1) := by decide +kernel
theorem d31_23 : decode prog_11_method_7_code 23 = .ok (.aload_n 0, 1) := by decide +kernel
theorem d31_24 : decode prog_11_method_7_code 24 = .ok (.getfield 110, 3) := by decide +kernel
theorem d31_27 : decode prog_11_method_7_code 27 = .ok (.bipush 24, 2) := by decide +kernel
theorem d31_29 : decode prog_11_method_7_code 29 = .ok (.if_icmp .ne 6, 3) := by decide +kernel
theorem d31_32 : decode prog_11_method_7_code 32 = .ok (.bipush (-4), 2) := by decide +kernel
theorem d31_34 : decode prog_11_method_7_code 34 = .ok (.ireturn, 1) := by decide +kernel
theorem d31_35 : decode prog_11_method_7_code 35 = .ok (.aload_n 0, 1) := by decide +kernel
theorem d31_36 : decode prog_11_method_7_code 36 = .ok (.getfield 13, 3) := by decide +kernel
theorem d31_39 : decode prog_11_method_7_code 39 = .ok (.aload_n 0, 1) := by decide +kernel
theorem d31_40 : decode prog_11_method_7_code 40 = .ok (.getfield 110, 3) := by decide +kernel
theorem d31_43 : decode prog_11_method_7_code 43 = .ok (.iload_n 1, 1) := by decide +kernel
theorem d31_44 : decode prog_11_method_7_code 44 = .ok (.iastore, 1) := by decide +kernel
theorem d31_45 : decode prog_11_method_7_code 45 = .ok (.aload_n 0, 1) := by decide +kernel
theorem d31_46 : decode prog_11_method_7_code 46 = .ok (.getfield 16, 3) := by decide +kernel
theorem d31_49 : decode prog_11_method_7_code 49 = .ok (.aload_n 0, 1) := by decide +kernel
theorem d31_50 : decode prog_11_method_7_code 50 = .ok (.getfield 110, 3) := by decide +kernel
theorem d31_53 : decode prog_11_method_7_code 53 = .ok (.iload_n 2, 1) := by decide +kernel
theorem d31_54 : decode prog_11_method_7_code 54 = .ok (.iastore, 1) := by decide +kernel
theorem d31_55 : decode prog_11_method_7_code 55 = .ok (.aload_n 0, 1) := by decide +kernel
theorem d31_56 : decode prog_11_method_7_code 56 = .ok (.getfield 19, 3) := by decide +kernel
theorem d31_59 : decode prog_11_method_7_code 59 = .ok (.aload_n 0, 1) := by decide +kernel
theorem d31_60 : decode prog_11_method_7_code 60 = .ok (.getfield 110, 3) := by decide +kernel
theorem d31_63 : decode prog_11_method_7_code 63 = .ok (.iconst 1, 1) := by decide +kernel
theorem d31_64 : decode prog_11_method_7_code 64 = .ok (.bastore, 1) := by decide +kernel
theorem d31_65 : decode prog_11_method_7_code 65 = .ok (.aload_n 0, 1) := by decide +kernel
theorem d31_66 : decode prog_11_method_7_code 66 = .ok (.dup, 1) := by decide +kernel
theorem d31_67 : decode prog_11_method_7_code 67 = .ok (.getfield 110, 3) := by decide +kernel
theorem d31_70 : decode prog_11_method_7_code 70 = .ok (.iconst 1, 1) := by decide +kernel
theorem d31_71 : decode prog_11_method_7_code 71 = .ok (.iadd, 1) := by decide +kernel
theorem d31_72 : decode prog_11_method_7_code 72 = .ok (.putfield 110, 3) := by decide +kernel
theorem d31_75 : decode prog_11_method_7_code 75 = .ok (.aload_n 0, 1) := by decide +kernel
theorem d31_76 : decode prog_11_method_7_code 76 = .ok (.dup, 1) := by decide +kernel
theorem d31_77 : decode prog_11_method_7_code 77 = .ok (.getfield 120, 3) := by decide +kernel
theorem d31_80 : decode prog_11_method_7_code 80 = .ok (.iconst 1, 1) := by decide +kernel
theorem d31_81 : decode prog_11_method_7_code 81 = .ok (.iadd, 1) := by decide +kernel
theorem d31_82 : decode prog_11_method_7_code 82 = .ok (.putfield 120, 3) := by decide +kernel
theorem d31_85 : decode prog_11_method_7_code 85 = .ok (.aload_n 0, 1) := by decide +kernel
theorem d31_86 : decode prog_11_method_7_code 86 = .ok (.invokevirtual 113, 3) := by decide +kernel
theorem d31_89 : decode prog_11_method_7_code 89 = .ok (.aload_n 0, 1) := by decide +kernel
theorem d31_90 : decode prog_11_method_7_code 90 = .ok (.getfield 110, 3) := by decide +kernel
theorem d31_93 : decode prog_11_method_7_code 93 = .ok (.iconst 1, 1) := by decide +kernel
theorem d31_94 : decode prog_11_method_7_code 94 = .ok (.isub, 1) := by decide +kernel
theorem d31_95 : decode prog_11_method_7_code 95 = .ok (.ireturn, 1) := by decide +kernel
theorem d32_0 : decode prog_11_method_8_code 0 = .ok (.aload_n 0, 1) := by decide +kernel
theorem d32_1 : decode prog_11_method_8_code 1 = .ok (.iload_n 1, 1) := by decide +kernel
theorem d32_2 : decode prog_11_method_8_code 2 = .ok (.invokevirtual 123, 3) := by decide +kernel
theorem d32_5 : decode prog_11_method_8_code 5 = .ok (.ifCond .ne 5, 3) := by decide +kernel
theorem d32_8 : decode prog_11_method_8_code 8 = .ok (.iconst (-1), 1) := by decide +kernel
theorem d32_9 : decode prog_11_method_8_code 9 = .ok (.ireturn, 1) := by decide +kernel
theorem d32_10 : decode prog_11_method_8_code 10 = .ok (.aload_n 0, 1) := by decide +kernel
theorem d32_11 : decode prog_11_method_8_code 11 = .ok (.getfield 19, 3) := by decide +kernel
theorem d32_14 : decode prog_11_method_8_code 14 = .ok (.iload_n 1, 1) := by decide +kernel
theorem d32_15 : decode prog_11_method_8_code 15 = .ok (.iconst 0, 1) := by decide +kernel
theorem d32_16 : decode prog_11_method_8_code 16 = .ok (.bastore, 1) := by decide +kernel
theorem d32_17 : decode prog_11_method_8_code 17 = .ok (.aload_n 0, 1) := by decide +kernel
theorem d32_18 : decode prog_11_method_8_code 18 = .ok (.dup, 1) := by decide +kernel
theorem d32_19 : decode prog_11_method_8_code 19 = .ok (.getfield 120, 3) := by decide +kernel
theorem d32_22 : decode prog_11_method_8_code 22 = .ok (.iconst 1, 1) := by decide +kernel
theorem d32_23 : decode prog_11_method_8_code 23 = .ok (.isub, 1) := by decide +kernel
theorem d32_24 : decode prog_11_method_8_code 24 = .ok (.putfield 120, 3) := by decide +kernel
theorem d32_27 : decode prog_11_method_8_code 27 = .ok (.aload_n 0, 1) := by decide +kernel
theorem d32_28 : decode prog_11_method_8_code 28 = .ok (.invokevirtual 113, 3) := by decide +kernel
theorem d32_31 : decode prog_11_method_8_code 31 = .ok (.aload_n 0, 1) := by decide +kernel
theorem d32_32 : decode prog_11_method_8_code 32 = .ok (.getfield 120, 3) := by decide +kernel
theorem d32_35 : decode prog_11_method_8_code 35 = .ok (.ireturn, 1) := by decide +kernel
theorem d33_0 : decode prog_11_method_9_code 0 = .ok (.aload_n 0, 1) := by decide +kernel
theorem d33_1 : decode prog_11_method_9_code 1 = .ok (.getfield 106, 3) := by decide +kernel
theorem d33_4 : decode prog_11_method_9_code 4 = .ok (.istore_n 1, 1) := by decide +kernel
theorem d33_5 : decode prog_11_method_9_code 5 = .ok (.aload_n 0, 1) := by decide +kernel
theorem d33_6 : decode prog_11_method_9_code 6 = .ok (.iconst 0, 1) := by decide +kernel
theorem d33_7 : decode prog_11_method_9_code 7 = .ok (.putfield 106, 3) := by decide +kernel
theorem d33_10 : decode prog_11_method_9_code 10 = .ok (.aload_n 0, 1) := by decide +kernel
theorem d33_11 : decode prog_11_method_9_code 11 = .ok (.iconst 0, 1) := by decide +kernel
theorem d33_12 : decode prog_11_method_9_code 12 = .ok (.putfield 110, 3) := by decide +kernel
theorem d33_15 : decode prog_11_method_9_code 15 = .ok (.aload_n 0, 1) := by decide +kernel
theorem d33_16 : decode prog_11_method_9_code 16 = .ok (.iconst 0, 1) := by decide +kernel
theorem d33_17 : decode prog_11_method_9_code 17 = .ok (.putfield 120, 3) := by decide +kernel
theorem d33_20 : decode prog_11_method_9_code 20 = .ok (.aload_n 0, 1) := by decide +kernel
theorem d33_21 : decode prog_11_method_9_code 21 = .ok (.invokevirtual 113, 3) := by decide +kernel
theorem d33_24 : decode prog_11_method_9_code 24 = .ok (.iload_n 1, 1) := by decide +kernel
theorem d33_25 : decode prog_11_method_9_code 25 = .ok (.ireturn, 1) := by decide +kernel
theorem d34_0 : decode prog_11_method_10_code 0 = .ok (.iconst 1, 1) := by decide +kernel
theorem d34_1 : decode prog_11_method_10_code 1 = .ok (.aload_n 0, 1) := by decide +kernel
theorem d34_2 : decode prog_11_method_10_code 2 = .ok (.getfield 106, 3) := by decide +kernel
theorem d34_5 : decode prog_11_method_10_code 5 = .ok (.ishl, 1) := by decide +kernel
theorem d34_6 : decode prog_11_method_10_code 6 = .ok (.iconst 1, 1) := by decide +kernel
theorem d34_7 : decode prog_11_method_10_code 7 = .ok (.isub, 1) := by decide +kernel
theorem d34_8 : decode prog_11_method_10_code 8 = .ok (.istore_n 1, 1) := by decide +kernel
theorem d34_9 : decode prog_11_method_10_code 9 = .ok (.iconst 0, 1) := by decide +kernel
theorem d34_10 : decode prog_11_method_10_code 10 = .ok (.istore_n 2, 1) := by decide +kernel
theorem d34_11 : decode prog_11_method_10_code 11 = .ok (.iload_n 2, 1) := by decide +kernel
theorem d34_12 : decode prog_11_method_10_code 12 = .ok (.sipush 144, 3) := by decide +kernel
theorem d34_15 : decode prog_11_method_10_code 15 = .ok (.if_icmp .ge 16, 3) := by decide +kernel
theorem d34_18 : decode prog_11_method_10_code 18 = .ok (.aload_n 0, 1) := by decide +kernel
theorem d34_19 : decode prog_11_method_10_code 19 = .ok (.getfield 45, 3) := by decide +kernel
theorem d34_22 : decode prog_11_method_10_code 22 = .ok (.iload_n 2, 1) := by decide +kernel
theorem d34_23 : decode prog_11_method_10_code 23 = .ok (.iconst 0, 1) := by decide +kernel
theorem d34_24 : decode prog_11_method_10_code 24 = .ok (.iastore, 1) := by decide +kernel
theorem d34_25 : decode prog_11_method_10_code 25 = .ok (.iinc 2 1, 3) := by decide +kernel
theorem d34_28 : decode prog_11_method_10_code 28 = .ok (.goto (-17), 3) := by decide +kernel
theorem d34_31 : decode prog_11_method_10_code 31 = .ok (.iconst 0, 1) := by decide +kernel
theorem d34_32 : decode prog_11_method_10_code 32 = .ok (.istore_n 2, 1) := by decide +kernel
theorem d34_33 : decode prog_11_method_10_code 33 = .ok (.iload_n 2, 1) := by decide +kernel
theorem d34_34 : decode prog_11_method_10_code 34 = .ok (.aload_n 0, 1) := by decide +kernel
theorem d34_35 : decode prog_11_method_10_code 35 = .ok (.getfield 110, 3) := by decide +kernel
theorem d34_38 : decode prog_11_method_10_code 38 = .ok (.if_icmp .ge 52, 3) := by decide +kernel
theorem d34_41 : decode prog_11_method_10_code 41 = .ok (.aload_n 0, 1) := by decide +kernel
theorem d34_42 : decode prog_11_method_10_code 42 = .ok (.getfield 45, 3) := by decide +kernel
theorem d34_45 : decode prog_11_method_10_code 45 = .ok (.bipush 12, 2) := by decide +kernel
theorem d34_47 : decode prog_11_method_10_code 47 = .ok (.aload_n 0, 1) := by decide +kernel
theorem d34_48 : decode prog_11_method_10_code 48 = .ok (.getfield 13, 3) := by decide +kernel
theorem d34_51 : decode prog_11_method_10_code 51 = .ok (.iload_n 2, 1) := by decide +kernel
theorem d34_52 : decode prog_11_method_10_code 52 = .ok (.iaload, 1) := by decide +kernel
theorem d34_53 : decode prog_11_method_10_code 53 = .ok (.imul, 1) := by decide +kernel
theorem d34_54 : decode prog_11_method_10_code 54 = .ok (.aload_n 0, 1) := by decide +kernel
theorem d34_55 : decode prog_11_method_10_code 55 = .ok (.getfield 16, 3) := by decide +kernel
theorem d34_58 : decode prog_11_method_10_code 58 = .ok (.iload_n 2, 1) := by decide +kernel
theorem d34_59 : decode prog_11_method_10_code 59 = .ok (.iaload, 1) := by decide +kernel
theorem d34_60 : decode prog_11_method_10_code 60 = .ok (.iadd, 1) := by decide +kernel
theorem d34_61 : decode prog_11_method_10_code 61 = .ok (.dup2, 1) := by decide +kernel
theorem d34_62 : decode prog_11_method_10_code 62 = .ok (.iaload, 1) := by decide +kernel
theorem d34_63 : decode prog_11_method_10_code 63 = .ok (.aload_n 0, 1) := by decide +kernel
theorem d34_64 : decode prog_11_method_10_code 64 = .ok (.getfield 19, 3) := by decide +kernel
theorem d34_67 : decode prog_11_method_10_code 67 = .ok (.iload_n 2, 1) := by decide +kernel
theorem d34_68 : decode prog_11_method_10_code 68 = .ok (.baload, 1) := by decide +kernel
theorem d34_69 : decode prog_11_method_10_code 69 = .ok (.ifCond .eq 12, 3) := by decide +kernel
theorem d34_72 : decode prog_11_method_10_code 72 = .ok (.aload_n 0, 1) := by decide +kernel
theorem d34_73 : decode prog_11_method_10_code 73 = .ok (.getfield 39, 3) := by decide +kernel
theorem d34_76 : decode prog_11_method_10_code 76 = .ok (.iload_n 2, 1) := by decide +kernel
theorem d34_77 : decode prog_11_method_10_code 77 = .ok (.iaload, 1) := by decide +kernel
theorem d34_78 : decode prog_11_method_10_code 78 = .ok (.goto 4, 3) := by decide +kernel
theorem d34_81 : decode prog_11_method_10_code 81 = .ok (.iconst 0, 1) := by decide +kernel
theorem d34_82 : decode prog_11_method_10_code 82 = .ok (.iadd, 1) := by decide +kernel
theorem d34_83 : decode prog_11_method_10_code 83 = .ok (.iastore, 1) := by decide +kernel
theorem d34_84 : decode prog_11_method_10_code 84 = .ok (.iinc 2 1, 3) := by decide +kernel
theorem d34_87 : decode prog_11_method_10_code 87 = .ok (.goto (-54), 3) := by decide +kernel
theorem d34_90 : decode prog_11_method_10_code 90 = .ok (.aload_n 0, 1) := by decide +kernel
theorem d34_91 : decode prog_11_method_10_code 91 = .ok (.getfield 42, 3) := by decide +kernel
theorem d34_94 : decode prog_11_method_10_code 94 = .ok (.iconst 0, 1) := by decide +kernel
theorem d34_95 : decode prog_11_method_10_code 95 = .ok (.iconst 0, 1) := by decide +kernel
theorem d34_96 : decode prog_11_method_10_code 96 = .ok (.iastore, 1) := by decide +kernel
theorem d34_97 : decode prog_11_method_10_code 97 = .ok (.iconst 0, 1) := by decide +kernel
theorem d34_98 : decode prog_11_method_10_code 98 = .ok (.istore_n 2, 1) := by decide +kernel
theorem d34_99 : decode prog_11_method_10_code 99 = .ok (.iload_n 2, 1) := by decide +kernel
theorem d34_100 : decode prog_11_method_10_code 100 = .ok (.aload_n 0, 1) := by decide +kernel
theorem d34_101 : decode prog_11_method_10_code 101 = .ok (.getfield 106, 3) := by decide +kernel
theorem d34_104 : decode prog_11_method_10_code 104 = .ok (.if_icmp .ge 16, 3) := by decide +kernel
theorem d34_107 : decode prog_11_method_10_code 107 = .ok (.aload_n 0, 1) := by decide +kernel
theorem d34_108 : decode prog_11_method_10_code 108 = .ok (.getfield 49, 3) := by decide +kernel
theorem d34_111 : decode prog_11_method_10_code 111 = .ok (.iload_n 2, 1) := by decide +kernel
theorem d34_112 : decode prog_11_method_10_code 112 = .ok (.iconst 0, 1) := by decide +kernel
theorem d34_113 : decode prog_11_method_10_code 113 = .ok (.iastore, 1) := by decide +kernel
theorem d34_114 : decode prog_11_method_10_code 114 = .ok (.iinc 2 1, 3) := by decide +kernel
theorem d34_117 : decode prog_11_method_10_code 117 = .ok (.goto (-18), 3) := by decide +kernel
theorem d34_120 : decode prog_11_method_10_code 120 = .ok (.iconst 1, 1) := by decide +kernel
theorem d34_121 : decode prog_11_method_10_code 121 = .ok (.istore_n 2, 1) := by decide +kernel
theorem d34_122 : decode prog_11_method_10_code 122 = .ok (.iload_n 2, 1) := by decide +kernel
theorem d34_123 : decode prog_11_method_10_code 123 = .ok (.iload_n 1, 1) := by decide +kernel
theorem d34_124 : decode prog_11_method_10_code 124 = .ok (.if_icmp .gt 96, 3) := by decide +kernel
theorem d34_127 : decode prog_11_method_10_code 127 = .ok (.aload_n 0, 1) := by decide +kernel
theorem d34_128 : decode prog_11_method_10_code 128 = .ok (.getfield 42, 3) := by decide +kernel
theorem d34_131 : decode prog_11_method_10_code 131 = .ok (.iload_n 2, 1) := by decide +kernel
theorem d34_132 : decode prog_11_method_10_code 132 = .ok (.ldc 126, 2) := by decide +kernel
theorem d34_134 : decode prog_11_method_10_code 134 = .ok (.iastore, 1) := by decide +kernel
theorem d34_135 : decode prog_11_method_10_code 135 = .ok (.iconst 0, 1) := by decide +kernel
theorem d34_136 : decode prog_11_method_10_code 136 = .ok (.istore_n 3, 1) := by decide +kernel
theorem d34_137 : decode prog_11_method_10_code 137 = .ok (.iload_n 2, 1) := by decide +kernel
theorem d34_138 : decode prog_11_method_10_code 138 = .ok (.iload_n 3, 1) := by decide +kernel
theorem d34_139 : decode prog_11_method_10_code 139 = .ok (.ishr, 1) := by decide +kernel
theorem d34_140 : decode prog_11_method_10_code 140 = .ok (.iconst 1, 1) := by decide +kernel
theorem d34_141 : decode prog_11_method_10_code 141 = .ok (.iand, 1) := by decide +kernel
theorem d34_142 : decode prog_11_method_10_code 142 = .ok (.ifCond .ne 9, 3) := by decide +kernel
theorem d34_145 : decode prog_11_method_10_code 145 = .ok (.iinc 3 1, 3) := by decide +kernel
theorem d34_148 : decode prog_11_method_10_code 148 = .ok (.goto (-11), 3) := by decide +kernel
theorem d34_151 : decode prog_11_method_10_code 151 = .ok (.iload_n 2, 1) := by decide +kernel
theorem d34_152 : decode prog_11_method_10_code 152 = .ok (.iload_n 2, 1) := by decide +kernel
theorem d34_153 : decode prog_11_method_10_code 153 = .ok (.iconst 1, 1) := by decide +kernel
theorem d34_154 : decode prog_11_method_10_code 154 = .ok (.isub, 1) := by decide +kernel
theorem d34_155 : decode prog_11_method_10_code 155 = .ok (.iand, 1) := by decide +kernel
theorem d34_156 : decode prog_11_method_10_code 156 = .ok (.istore 4, 2) := by decide +kernel
theorem d34_158 : decode prog_11_method_10_code 158 = .ok (.iconst 0, 1) := by decide +kernel
theorem d34_159 : decode prog_11_method_10_code 159 = .ok (.istore 5, 2) := by decide +kernel
theorem d34_161 : decode prog_11_method_10_code 161 = .ok (.iload 5, 2) := by decide +kernel
theorem d34_163 : decode prog_11_method_10_code 163 = .ok (.aload_n 0, 1) := by decide +kernel
theorem d34_164 : decode prog_11_method_10_code 164 = .ok (.getfield 106, 3) := by decide +kernel
theorem d34_167 : decode prog_11_method_10_code 167 = .ok (.if_icmp .ge 47, 3) := by decide +kernel
theorem d34_170 : decode prog_11_method_10_code 170 = .ok (.aload_n 0, 1) := by decide +kernel
theorem d34_171 : decode prog_11_method_10_code 171 = .ok (.getfield 49, 3) := by decide +kernel
theorem d34_174 : decode prog_11_method_10_code 174 = .ok (.bipush 12, 2) := by decide +kernel
theorem d34_176 : decode prog_11_method_10_code 176 = .ok (.iload_n 2, 1) := by decide +kernel
theorem d34_177 : decode prog_11_method_10_code 177 = .ok (.imul, 1) := by decide +kernel
theorem d34_178 : decode prog_11_method_10_code 178 = .ok (.iload 5, 2) := by decide +kernel
theorem d34_180 : decode prog_11_method_10_code 180 = .ok (.iadd, 1) := by decide +kernel
theorem d34_181 : decode prog_11_method_10_code 181 = .ok (.aload_n 0, 1) := by decide +kernel
theorem d34_182 : decode prog_11_method_10_code 182 = .ok (.getfield 49, 3) := by decide +kernel
theorem d34_185 : decode prog_11_method_10_code 185 = .ok (.bipush 12, 2) := by decide +kernel
theorem d34_187 : decode prog_11_method_10_code 187 = .ok (.iload 4, 2) := by decide +kernel
theorem d34_189 : decode prog_11_method_10_code 189 = .ok (.imul, 1) := by decide +kernel
theorem d34_190 : decode prog_11_method_10_code 190 = .ok (.iload 5, 2) := by decide +kernel
theorem d34_192 : decode prog_11_method_10_code 192 = .ok (.iadd, 1) := by decide +kernel
theorem d34_193 : decode prog_11_method_10_code 193 = .ok (.iaload, 1) := by decide +kernel
theorem d34_194 : decode prog_11_method_10_code 194 = .ok (.aload_n 0, 1) := by decide +kernel
theorem d34_195 : decode prog_11_method_10_code 195 = .ok (.getfield 45, 3) := by decide +kernel
theorem d34_198 : decode prog_11_method_10_code 198 = .ok (.bipush 12, 2) := by decide +kernel
theorem d34_200 : decode prog_11_method_10_code 200 = .ok (.iload 5, 2) := by decide +kernel
theorem d34_202 : decode prog_11_method_10_code 202 = .ok (.imul, 1) := by decide +kernel
theorem d34_203 : decode prog_11_method_10_code 203 = .ok (.iload_n 3, 1) := by decide +kernel
theorem d34_204 : decode prog_11_method_10_code 204 = .ok (.iadd, 1) := by decide +kernel
theorem d34_205 : decode prog_11_method_10_code 205 = .ok (.iaload, 1) := by decide +kernel
theorem d34_206 : decode prog_11_method_10_code 206 = .ok (.iadd, 1) := by decide +kernel
theorem d34_207 : decode prog_11_method_10_code 207 = .ok (.iastore, 1) := by decide +kernel
theorem d34_208 : decode prog_11_method_10_code 208 = .ok (.iinc 5 1, 3) := by decide +kernel
theorem d34_211 : decode prog_11_method_10_code 211 = .ok (.goto (-50), 3) := by decide +kernel
theorem d34_214 : decode prog_11_method_10_code 214 = .ok (.iinc 2 1, 3) := by decide +kernel
theorem d34_217 : decode prog_11_method_10_code 217 = .ok (.goto (-95), 3) := by decide +kernel
theorem d34_220 : decode prog_11_method_10_code 220 = .ok (.iconst 0, 1) := by decide +kernel
theorem d34_221 : decode prog_11_method_10_code 221 = .ok (.istore_n 2, 1) := by decide +kernel
theorem d34_222 : decode prog_11_method_10_code 222 = .ok (.iload_n 2, 1) := by decide +kernel
theorem d34_223 : decode prog_11_method_10_code 223 = .ok (.iload_n 1, 1) := by decide +kernel
theorem d34_224 : decode prog_11_method_10_code 224 = .ok (.if_icmp .ge 89, 3) := by decide +kernel
theorem d34_227 : decode prog_11_method_10_code 227 = .ok (.iconst 0, 1) := by decide +kernel
theorem d34_228 : decode prog_11_method_10_code 228 = .ok (.istore_n 3, 1) := by decide +kernel
theorem d34_229 : decode prog_11_method_10_code 229 = .ok (.iload_n 3, 1) := by decide +kernel
theorem d34_230 : decode prog_11_method_10_code 230 = .ok (.aload_n 0, 1) := by decide +kernel
theorem d34_231 : decode prog_11_method_10_code 231 = .ok (.getfield 106, 3) := by decide +kernel
theorem d34_234 : decode prog_11_method_10_code 234 = .ok (.if_icmp .ge 73, 3) := by decide +kernel
theorem d34_237 : decode prog_11_method_10_code 237 = .ok (.iload_n 2, 1) := by decide +kernel
theorem d34_238 : decode prog_11_method_10_code 238 = .ok (.iconst 1, 1) := by decide +kernel
theorem d34_239 : decode prog_11_method_10_code 239 = .ok (.iload_n 3, 1) := by decide +kernel
theorem d34_240 : decode prog_11_method_10_code 240 = .ok (.ishl, 1) := by decide +kernel
theorem d34_241 : decode prog_11_method_10_code 241 = .ok (.ior, 1) := by decide +kernel
theorem d34_242 : decode prog_11_method_10_code 242 = .ok (.istore 4, 2) := by decide +kernel
theorem d34_244 : decode prog_11_method_10_code 244 = .ok (.aload_n 0, 1) := by decide +kernel
theorem d34_245 : decode prog_11_method_10_code 245 = .ok (.getfield 42, 3) := by decide +kernel
theorem d34_248 : decode prog_11_method_10_code 248 = .ok (.iload_n 2, 1) := by decide +kernel
theorem d34_249 : decode prog_11_method_10_code 249 = .ok (.iaload, 1) := by decide +kernel
theorem d34_250 : decode prog_11_method_10_code 250 = .ok (.aload_n 0, 1) := by decide +kernel
theorem d34_251 : decode prog_11_method_10_code 251 = .ok (.getfield 49, 3) := by decide +kernel
theorem d34_254 : decode prog_11_method_10_code 254 = .ok (.bipush 12, 2) := by decide +kernel
theorem d34_256 : decode prog_11_method_10_code 256 = .ok (.iload_n 2, 1) := by decide +kernel
theorem d34_257 : decode prog_11_method_10_code 257 = .ok (.imul, 1) := by decide +kernel
theorem d34_258 : decode prog_11_method_10_code 258 = .ok (.iload_n 3, 1) := by decide +kernel
theorem d34_259 : decode prog_11_method_10_code 259 = .ok (.iadd, 1) := by decide +kernel
theorem d34_260 : decode prog_11_method_10_code 260 = .ok (.iaload, 1) := by decide +kernel
theorem d34_261 : decode prog_11_method_10_code 261 = .ok (.iadd, 1) := by decide +kernel
theorem d34_262 : decode prog_11_method_10_code 262 = .ok (.istore 5, 2) := by decide +kernel
theorem d34_264 : decode prog_11_method_10_code 264 = .ok (.aload_n 0, 1) := by decide +kernel
theorem d34_265 : decode prog_11_method_10_code 265 = .ok (.getfield 42, 3) := by decide +kernel
theorem d34_268 : decode prog_11_method_10_code 268 = .ok (.iload 4, 2) := by decide +kernel
theorem d34_270 : decode prog_11_method_10_code 270 = .ok (.iload 4, 2) := by decide +kernel
theorem d34_272 : decode prog_11_method_10_code 272 = .ok (.iload_n 2, 1) := by decide +kernel
theorem d34_273 : decode prog_11_method_10_code 273 = .ok (.if_icmp .eq 20, 3) := by decide +kernel
theorem d34_276 : decode prog_11_method_10_code 276 = .ok (.iload 5, 2) := by decide +kernel
theorem d34_278 : decode prog_11_method_10_code 278 = .ok (.aload_n 0, 1) := by decide +kernel
theorem d34_279 : decode prog_11_method_10_code 279 = .ok (.getfield 42, 3) := by decide +kernel
theorem d34_282 : decode prog_11_method_10_code 282 = .ok (.iload 4, 2) := by decide +kernel
theorem d34_284 : decode prog_11_method_10_code 284 = .ok (.iaload, 1) := by decide +kernel
theorem d34_285 : decode prog_11_method_10_code 285 = .ok (.if_icmp .ge 8, 3) := by decide +kernel
theorem d34_288 : decode prog_11_method_10_code 288 = .ok (.iload 5, 2) := by decide +kernel
theorem d34_290 : decode prog_11_method_10_code 290 = .ok (.goto 10, 3) := by decide +kernel
theorem d34_293 : decode prog_11_method_10_code 293 = .ok (.aload_n 0, 1) := by decide +kernel
theorem d34_294 : decode prog_11_method_10_code 294 = .ok (.getfield 42, 3) := by decide +kernel
theorem d34_297 : decode prog_11_method_10_code 297 = .ok (.iload 4, 2) := by decide +kernel
theorem d34_299 : decode prog_11_method_10_code 299 = .ok (.iaload, 1) := by decide +kernel
theorem d34_300 : decode prog_11_method_10_code 300 = .ok (.iastore, 1) := by decide +kernel
theorem d34_301 : decode prog_11_method_10_code 301 = .ok (.iinc 3 1, 3) := by decide +kernel
theorem d34_304 : decode prog_11_method_10_code 304 = .ok (.goto (-75), 3) := by decide +kernel
theorem d34_307 : decode prog_11_method_10_code 307 = .ok (.iinc 2 1, 3) := by decide +kernel
theorem d34_310 : decode prog_11_method_10_code 310 = .ok (.goto (-88), 3) := by decide +kernel
theorem d34_313 : decode prog_11_method_10_code 313 = .ok (.aload_n 0, 1) := by decide +kernel
theorem d34_314 : decode prog_11_method_10_code 314 = .ok (.getfield 42, 3) := by decide +kernel
theorem d34_317 : decode prog_11_method_10_code 317 = .ok (.iload_n 1, 1) := by decide +kernel
theorem d34_318 : decode prog_11_method_10_code 318 = .ok (.iaload, 1) := by decide +kernel
theorem d34_319 : decode prog_11_method_10_code 319 = .ok (.ireturn, 1) := by decide +kernel
theorem d35_0 : decode prog_11_method_11_code 0 = .ok (.iconst 0, 1) := by decide +kernel
theorem d35_1 : decode prog_11_method_11_code 1 = .ok (.istore_n 1, 1) := by decide +kernel
theorem d35_2 : decode prog_11_method_11_code 2 = .ok (.iload_n 1, 1) := by decide +kernel
theorem d35_3 : decode prog_11_method_11_code 3 = .ok (.aload_n 0, 1) := by decide +kernel
theorem d35_4 : decode prog_11_method_11_code 4 = .ok (.getfield 110, 3) := by decide +kernel
theorem d35_7 : decode prog_11_method_11_code 7 = .ok (.if_icmp .ge 23, 3) := by decide +kernel
theorem d35_10 : decode prog_11_method_11_code 10 = .ok (.aload_n 0, 1) := by decide +kernel
theorem d35_11 : decode prog_11_method_11_code 11 = .ok (.getfield 39, 3) := by decide +kernel
theorem d35_14 : decode prog_11_method_11_code 14 = .ok (.iload_n 1, 1) := by decide +kernel
theorem d35_15 : decode prog_11_method_11_code 15 = .ok (.iconst 1, 1) := by decide +kernel
theorem d35_16 : decode prog_11_method_11_code 16 = .ok (.iastore, 1) := by decide +kernel
theorem d35_17 : decode prog_11_method_11_code 17 = .ok (.aload_n 0, 1) := by decide +kernel
theorem d35_18 : decode prog_11_method_11_code 18 = .ok (.getfield 27, 3) := by decide +kernel
end
section
theorem d35_21 : decode prog_11_method_11_code 21 = .ok (.iload_n 1, 1) := by decide +kernel
theorem d35_22 : decode prog_11_method_11_code 22 = .ok (.iconst 0, 1) := by decide +kernel
theorem d35_23 : decode prog_11_method_11_code 23 = .ok (.bastore, 1) := by decide +kernel
theorem d35_24 : decode prog_11_method_11_code 24 = .ok (.iinc 1 1, 3) := by decide +kernel
theorem d35_27 : decode prog_11_method_11_code 27 = .ok (.goto (-25), 3) := by decide +kernel
theorem d35_30 : decode prog_11_method_11_code 30 = .ok (.aload_n 0, 1) := by decide +kernel
theorem d35_31 : decode prog_11_method_11_code 31 = .ok (.invokevirtual 127, 3) := by decide +kernel
theorem d35_34 : decode prog_11_method_11_code 34 = .ok (.istore_n 1, 1) := by decide +kernel
theorem d35_35 : decode prog_11_method_11_code 35 = .ok (.iconst 0, 1) := by decide +kernel
theorem d35_36 : decode prog_11_method_11_code 36 = .ok (.istore_n 2, 1) := by decide +kernel
theorem d35_37 : decode prog_11_method_11_code 37 = .ok (.iload_n 2, 1) := by decide +kernel
theorem d35_38 : decode prog_11_method_11_code 38 = .ok (.aload_n 0, 1) := by decide +kernel
theorem d35_39 : decode prog_11_method_11_code 39 = .ok (.getfield 110, 3) := by decide +kernel
theorem d35_42 : decode prog_11_method_11_code 42 = .ok (.if_icmp .ge 64, 3) := by decide +kernel
theorem d35_45 : decode prog_11_method_11_code 45 = .ok (.iload_n 1, 1) := by decide +kernel
theorem d35_46 : decode prog_11_method_11_code 46 = .ok (.ifCond .le 60, 3) := by decide +kernel
theorem d35_49 : decode prog_11_method_11_code 49 = .ok (.aload_n 0, 1) := by decide +kernel
theorem d35_50 : decode prog_11_method_11_code 50 = .ok (.getfield 19, 3) := by decide +kernel
theorem d35_53 : decode prog_11_method_11_code 53 = .ok (.iload_n 2, 1) := by decide +kernel
theorem d35_54 : decode prog_11_method_11_code 54 = .ok (.baload, 1) := by decide +kernel
theorem d35_55 : decode prog_11_method_11_code 55 = .ok (.ifCond .ne 6, 3) := by decide +kernel
theorem d35_58 : decode prog_11_method_11_code 58 = .ok (.goto 42, 3) := by decide +kernel
theorem d35_61 : decode prog_11_method_11_code 61 = .ok (.aload_n 0, 1) := by decide +kernel
theorem d35_62 : decode prog_11_method_11_code 62 = .ok (.getfield 39, 3) := by decide +kernel
theorem d35_65 : decode prog_11_method_11_code 65 = .ok (.iload_n 2, 1) := by decide +kernel
theorem d35_66 : decode prog_11_method_11_code 66 = .ok (.iconst 0, 1) := by decide +kernel
theorem d35_67 : decode prog_11_method_11_code 67 = .ok (.iastore, 1) := by decide +kernel
theorem d35_68 : decode prog_11_method_11_code 68 = .ok (.aload_n 0, 1) := by decide +kernel
theorem d35_69 : decode prog_11_method_11_code 69 = .ok (.invokevirtual 127, 3) := by decide +kernel
theorem d35_72 : decode prog_11_method_11_code 72 = .ok (.iload_n 1, 1) := by decide +kernel
theorem d35_73 : decode prog_11_method_11_code 73 = .ok (.iconst 1, 1) := by decide +kernel
theorem d35_74 : decode prog_11_method_11_code 74 = .ok (.isub, 1) := by decide +kernel
theorem d35_75 : decode prog_11_method_11_code 75 = .ok (.if_icmp .gt 16, 3) := by decide +kernel
theorem d35_78 : decode prog_11_method_11_code 78 = .ok (.aload_n 0, 1) := by decide +kernel
theorem d35_79 : decode prog_11_method_11_code 79 = .ok (.getfield 27, 3) := by decide +kernel
theorem d35_82 : decode prog_11_method_11_code 82 = .ok (.iload_n 2, 1) := by decide +kernel
theorem d35_83 : decode prog_11_method_11_code 83 = .ok (.iconst 1, 1) := by decide +kernel
theorem d35_84 : decode prog_11_method_11_code 84 = .ok (.bastore, 1) := by decide +kernel
theorem d35_85 : decode prog_11_method_11_code 85 = .ok (.iinc 1 (-1), 3) := by decide +kernel
theorem d35_88 : decode prog_11_method_11_code 88 = .ok (.goto 12, 3) := by decide +kernel
theorem d35_91 : decode prog_11_method_11_code 91 = .ok (.aload_n 0, 1) := by decide +kernel
theorem d35_92 : decode prog_11_method_11_code 92 = .ok (.getfield 39, 3) := by decide +kernel
theorem d35_95 : decode prog_11_method_11_code 95 = .ok (.iload_n 2, 1) := by decide +kernel
theorem d35_96 : decode prog_11_method_11_code 96 = .ok (.sipush 1000, 3) := by decide +kernel
theorem d35_99 : decode prog_11_method_11_code 99 = .ok (.iastore, 1) := by decide +kernel
theorem d35_100 : decode prog_11_method_11_code 100 = .ok (.iinc 2 1, 3) := by decide +kernel
theorem d35_103 : decode prog_11_method_11_code 103 = .ok (.goto (-66), 3) := by decide +kernel
theorem d35_106 : decode prog_11_method_11_code 106 = .ok (.iconst 0, 1) := by decide +kernel
theorem d35_107 : decode prog_11_method_11_code 107 = .ok (.istore_n 2, 1) := by decide +kernel
theorem d35_108 : decode prog_11_method_11_code 108 = .ok (.iload_n 2, 1) := by decide +kernel
theorem d35_109 : decode prog_11_method_11_code 109 = .ok (.aload_n 0, 1) := by decide +kernel
theorem d35_110 : decode prog_11_method_11_code 110 = .ok (.getfield 110, 3) := by decide +kernel
theorem d35_113 : decode prog_11_method_11_code 113 = .ok (.if_icmp .ge 69, 3) := by decide +kernel
theorem d35_116 : decode prog_11_method_11_code 116 = .ok (.aload_n 0, 1) := by decide +kernel
theorem d35_117 : decode prog_11_method_11_code 117 = .ok (.getfield 33, 3) := by decide +kernel
theorem d35_120 : decode prog_11_method_11_code 120 = .ok (.iload_n 2, 1) := by decide +kernel
theorem d35_121 : decode prog_11_method_11_code 121 = .ok (.aload_n 0, 1) := by decide +kernel
theorem d35_122 : decode prog_11_method_11_code 122 = .ok (.getfield 27, 3) := by decide +kernel
theorem d35_125 : decode prog_11_method_11_code 125 = .ok (.iload_n 2, 1) := by decide +kernel
theorem d35_126 : decode prog_11_method_11_code 126 = .ok (.baload, 1) := by decide +kernel
theorem d35_127 : decode prog_11_method_11_code 127 = .ok (.ifCond .eq 12, 3) := by decide +kernel
theorem d35_130 : decode prog_11_method_11_code 130 = .ok (.aload_n 0, 1) := by decide +kernel
theorem d35_131 : decode prog_11_method_11_code 131 = .ok (.getfield 16, 3) := by decide +kernel
theorem d35_134 : decode prog_11_method_11_code 134 = .ok (.iload_n 2, 1) := by decide +kernel
theorem d35_135 : decode prog_11_method_11_code 135 = .ok (.iaload, 1) := by decide +kernel
theorem d35_136 : decode prog_11_method_11_code 136 = .ok (.goto 9, 3) := by decide +kernel
theorem d35_139 : decode prog_11_method_11_code 139 = .ok (.aload_n 0, 1) := by decide +kernel
theorem d35_140 : decode prog_11_method_11_code 140 = .ok (.getfield 13, 3) := by decide +kernel
theorem d35_143 : decode prog_11_method_11_code 143 = .ok (.iload_n 2, 1) := by decide +kernel
theorem d35_144 : decode prog_11_method_11_code 144 = .ok (.iaload, 1) := by decide +kernel
theorem d35_145 : decode prog_11_method_11_code 145 = .ok (.iastore, 1) := by decide +kernel
theorem d35_146 : decode prog_11_method_11_code 146 = .ok (.aload_n 0, 1) := by decide +kernel
theorem d35_147 : decode prog_11_method_11_code 147 = .ok (.getfield 36, 3) := by decide +kernel
theorem d35_150 : decode prog_11_method_11_code 150 = .ok (.iload_n 2, 1) := by decide +kernel
theorem d35_151 : decode prog_11_method_11_code 151 = .ok (.aload_n 0, 1) := by decide +kernel
theorem d35_152 : decode prog_11_method_11_code 152 = .ok (.getfield 27, 3) := by decide +kernel
theorem d35_155 : decode prog_11_method_11_code 155 = .ok (.iload_n 2, 1) := by decide +kernel
theorem d35_156 : decode prog_11_method_11_code 156 = .ok (.baload, 1) := by decide +kernel
theorem d35_157 : decode prog_11_method_11_code 157 = .ok (.ifCond .eq 12, 3) := by decide +kernel
theorem d35_160 : decode prog_11_method_11_code 160 = .ok (.aload_n 0, 1) := by decide +kernel
theorem d35_161 : decode prog_11_method_11_code 161 = .ok (.getfield 13, 3) := by decide +kernel
theorem d35_164 : decode prog_11_method_11_code 164 = .ok (.iload_n 2, 1) := by decide +kernel
theorem d35_165 : decode prog_11_method_11_code 165 = .ok (.iaload, 1) := by decide +kernel
theorem d35_166 : decode prog_11_method_11_code 166 = .ok (.goto 9, 3) := by decide +kernel
theorem d35_169 : decode prog_11_method_11_code 169 = .ok (.aload_n 0, 1) := by decide +kernel
theorem d35_170 : decode prog_11_method_11_code 170 = .ok (.getfield 16, 3) := by decide +kernel
theorem d35_173 : decode prog_11_method_11_code 173 = .ok (.iload_n 2, 1) := by decide +kernel
theorem d35_174 : decode prog_11_method_11_code 174 = .ok (.iaload, 1) := by decide +kernel
theorem d35_175 : decode prog_11_method_11_code 175 = .ok (.iastore, 1) := by decide +kernel
theorem d35_176 : decode prog_11_method_11_code 176 = .ok (.iinc 2 1, 3) := by decide +kernel
theorem d35_179 : decode prog_11_method_11_code 179 = .ok (.goto (-71), 3) := by decide +kernel
theorem d35_182 : decode prog_11_method_11_code 182 = .ok (.return_, 1) := by decide +kernel
theorem d36_0 : decode prog_11_method_12_code 0 = .ok (.iconst 0, 1) := by decide +kernel
theorem d36_1 : decode prog_11_method_12_code 1 = .ok (.istore_n 2, 1) := by decide +kernel
theorem d36_2 : decode prog_11_method_12_code 2 = .ok (.iconst 0, 1) := by decide +kernel
theorem d36_3 : decode prog_11_method_12_code 3 = .ok (.istore_n 3, 1) := by decide +kernel
theorem d36_4 : decode prog_11_method_12_code 4 = .ok (.iload_n 3, 1) := by decide +kernel
theorem d36_5 : decode prog_11_method_12_code 5 = .ok (.aload_n 0, 1) := by decide +kernel
theorem d36_6 : decode prog_11_method_12_code 6 = .ok (.getfield 110, 3) := by decide +kernel
theorem d36_9 : decode prog_11_method_12_code 9 = .ok (.if_icmp .ge 42, 3) := by decide +kernel
theorem d36_12 : decode prog_11_method_12_code 12 = .ok (.iload_n 2, 1) := by decide +kernel
theorem d36_13 : decode prog_11_method_12_code 13 = .ok (.aload_n 0, 1) := by decide +kernel
theorem d36_14 : decode prog_11_method_12_code 14 = .ok (.getfield 19, 3) := by decide +kernel
theorem d36_17 : decode prog_11_method_12_code 17 = .ok (.iload_n 3, 1) := by decide +kernel
theorem d36_18 : decode prog_11_method_12_code 18 = .ok (.baload, 1) := by decide +kernel
theorem d36_19 : decode prog_11_method_12_code 19 = .ok (.ifCond .eq 23, 3) := by decide +kernel
theorem d36_22 : decode prog_11_method_12_code 22 = .ok (.aload_n 1, 1) := by decide +kernel
theorem d36_23 : decode prog_11_method_12_code 23 = .ok (.aload_n 0, 1) := by decide +kernel
theorem d36_24 : decode prog_11_method_12_code 24 = .ok (.getfield 36, 3) := by decide +kernel
theorem d36_27 : decode prog_11_method_12_code 27 = .ok (.iload_n 3, 1) := by decide +kernel
theorem d36_28 : decode prog_11_method_12_code 28 = .ok (.iaload, 1) := by decide +kernel
theorem d36_29 : decode prog_11_method_12_code 29 = .ok (.iaload, 1) := by decide +kernel
theorem d36_30 : decode prog_11_method_12_code 30 = .ok (.aload_n 1, 1) := by decide +kernel
theorem d36_31 : decode prog_11_method_12_code 31 = .ok (.aload_n 0, 1) := by decide +kernel
theorem d36_32 : decode prog_11_method_12_code 32 = .ok (.getfield 33, 3) := by decide +kernel
theorem d36_35 : decode prog_11_method_12_code 35 = .ok (.iload_n 3, 1) := by decide +kernel
theorem d36_36 : decode prog_11_method_12_code 36 = .ok (.iaload, 1) := by decide +kernel
theorem d36_37 : decode prog_11_method_12_code 37 = .ok (.iaload, 1) := by decide +kernel
theorem d36_38 : decode prog_11_method_12_code 38 = .ok (.isub, 1) := by decide +kernel
theorem d36_39 : decode prog_11_method_12_code 39 = .ok (.goto 4, 3) := by decide +kernel
theorem d36_42 : decode prog_11_method_12_code 42 = .ok (.iconst 0, 1) := by decide +kernel
theorem d36_43 : decode prog_11_method_12_code 43 = .ok (.iadd, 1) := by decide +kernel
theorem d36_44 : decode prog_11_method_12_code 44 = .ok (.istore_n 2, 1) := by decide +kernel
theorem d36_45 : decode prog_11_method_12_code 45 = .ok (.iinc 3 1, 3) := by decide +kernel
theorem d36_48 : decode prog_11_method_12_code 48 = .ok (.goto (-44), 3) := by decide +kernel
theorem d36_51 : decode prog_11_method_12_code 51 = .ok (.iload_n 2, 1) := by decide +kernel
theorem d36_52 : decode prog_11_method_12_code 52 = .ok (.ireturn, 1) := by decide +kernel
theorem d37_0 : decode prog_11_method_13_code 0 = .ok (.iconst 0, 1) := by decide +kernel
theorem d37_1 : decode prog_11_method_13_code 1 = .ok (.istore_n 3, 1) := by decide +kernel
theorem d37_2 : decode prog_11_method_13_code 2 = .ok (.iconst 0, 1) := by decide +kernel
theorem d37_3 : decode prog_11_method_13_code 3 = .ok (.istore 4, 2) := by decide +kernel
theorem d37_5 : decode prog_11_method_13_code 5 = .ok (.iload 4, 2) := by decide +kernel
theorem d37_7 : decode prog_11_method_13_code 7 = .ok (.aload_n 0, 1) := by decide +kernel
theorem d37_8 : decode prog_11_method_13_code 8 = .ok (.getfield 110, 3) := by decide +kernel
theorem d37_11 : decode prog_11_method_13_code 11 = .ok (.if_icmp .ge 92, 3) := by decide +kernel
theorem d37_14 : decode prog_11_method_13_code 14 = .ok (.aload_n 0, 1) := by decide +kernel
theorem d37_15 : decode prog_11_method_13_code 15 = .ok (.getfield 19, 3) := by decide +kernel
theorem d37_18 : decode prog_11_method_13_code 18 = .ok (.iload 4, 2) := by decide +kernel
theorem d37_20 : decode prog_11_method_13_code 20 = .ok (.baload, 1) := by decide +kernel
theorem d37_21 : decode prog_11_method_13_code 21 = .ok (.ifCond .eq 31, 3) := by decide +kernel
theorem d37_24 : decode prog_11_method_13_code 24 = .ok (.iload_n 2, 1) := by decide +kernel
theorem d37_25 : decode prog_11_method_13_code 25 = .ok (.iload_n 1, 1) := by decide +kernel
theorem d37_26 : decode prog_11_method_13_code 26 = .ok (.aload_n 0, 1) := by decide +kernel
theorem d37_27 : decode prog_11_method_13_code 27 = .ok (.getfield 36, 3) := by decide +kernel
theorem d37_30 : decode prog_11_method_13_code 30 = .ok (.iload 4, 2) := by decide +kernel
theorem d37_32 : decode prog_11_method_13_code 32 = .ok (.iaload, 1) := by decide +kernel
theorem d37_33 : decode prog_11_method_13_code 33 = .ok (.ishr, 1) := by decide +kernel
theorem d37_34 : decode prog_11_method_13_code 34 = .ok (.iconst 1, 1) := by decide +kernel
theorem d37_35 : decode prog_11_method_13_code 35 = .ok (.iand, 1) := by decide +kernel
theorem d37_36 : decode prog_11_method_13_code 36 = .ok (.iload_n 1, 1) := by decide +kernel
theorem d37_37 : decode prog_11_method_13_code 37 = .ok (.aload_n 0, 1) := by decide +kernel
theorem d37_38 : decode prog_11_method_13_code 38 = .ok (.getfield 33, 3) := by decide +kernel
theorem d37_41 : decode prog_11_method_13_code 41 = .ok (.iload 4, 2) := by decide +kernel
theorem d37_43 : decode prog_11_method_13_code 43 = .ok (.iaload, 1) := by decide +kernel
theorem d37_44 : decode prog_11_method_13_code 44 = .ok (.ishr, 1) := by decide +kernel
theorem d37_45 : decode prog_11_method_13_code 45 = .ok (.iconst 1, 1) := by decide +kernel
theorem d37_46 : decode prog_11_method_13_code 46 = .ok (.iand, 1) := by decide +kernel
theorem d37_47 : decode prog_11_method_13_code 47 = .ok (.isub, 1) := by decide +kernel
theorem d37_48 : decode prog_11_method_13_code 48 = .ok (.imul, 1) := by decide +kernel
theorem d37_49 : decode prog_11_method_13_code 49 = .ok (.goto 4, 3) := by decide +kernel
theorem d37_52 : decode prog_11_method_13_code 52 = .ok (.iconst 0, 1) := by decide +kernel
theorem d37_53 : decode prog_11_method_13_code 53 = .ok (.istore 5, 2) := by decide +kernel
theorem d37_55 : decode prog_11_method_13_code 55 = .ok (.iload 5, 2) := by decide +kernel
theorem d37_57 : decode prog_11_method_13_code 57 = .ok (.ifCond .ge 35, 3) := by decide +kernel
theorem d37_60 : decode prog_11_method_13_code 60 = .ok (.aload_n 0, 1) := by decide +kernel
theorem d37_61 : decode prog_11_method_13_code 61 = .ok (.getfield 30, 3) := by decide +kernel
theorem d37_64 : decode prog_11_method_13_code 64 = .ok (.aload_n 0, 1) := by decide +kernel
theorem d37_65 : decode prog_11_method_13_code 65 = .ok (.getfield 36, 3) := by decide +kernel
theorem d37_68 : decode prog_11_method_13_code 68 = .ok (.iload 4, 2) := by decide +kernel
theorem d37_70 : decode prog_11_method_13_code 70 = .ok (.iaload, 1) := by decide +kernel
theorem d37_71 : decode prog_11_method_13_code 71 = .ok (.iaload, 1) := by decide +kernel
theorem d37_72 : decode prog_11_method_13_code 72 = .ok (.aload_n 0, 1) := by decide +kernel
theorem d37_73 : decode prog_11_method_13_code 73 = .ok (.getfield 30, 3) := by decide +kernel
theorem d37_76 : decode prog_11_method_13_code 76 = .ok (.aload_n 0, 1) := by decide +kernel
theorem d37_77 : decode prog_11_method_13_code 77 = .ok (.getfield 33, 3) := by decide +kernel
theorem d37_80 : decode prog_11_method_13_code 80 = .ok (.iload 4, 2) := by decide +kernel
theorem d37_82 : decode prog_11_method_13_code 82 = .ok (.iaload, 1) := by decide +kernel
theorem d37_83 : decode prog_11_method_13_code 83 = .ok (.iaload, 1) := by decide +kernel
theorem d37_84 : decode prog_11_method_13_code 84 = .ok (.isub, 1) := by decide +kernel
theorem d37_85 : decode prog_11_method_13_code 85 = .ok (.iconst 1, 1) := by decide +kernel
theorem d37_86 : decode prog_11_method_13_code 86 = .ok (.if_icmp .ne 6, 3) := by decide +kernel
theorem d37_89 : decode prog_11_method_13_code 89 = .ok (.bipush 100, 2) := by decide +kernel
theorem d37_91 : decode prog_11_method_13_code 91 = .ok (.ireturn, 1) := by decide +kernel
theorem d37_92 : decode prog_11_method_13_code 92 = .ok (.iload_n 3, 1) := by decide +kernel
theorem d37_93 : decode prog_11_method_13_code 93 = .ok (.iload 5, 2) := by decide +kernel
theorem d37_95 : decode prog_11_method_13_code 95 = .ok (.iadd, 1) := by decide +kernel
theorem d37_96 : decode prog_11_method_13_code 96 = .ok (.istore_n 3, 1) := by decide +kernel
theorem d37_97 : decode prog_11_method_13_code 97 = .ok (.iinc 4 1, 3) := by decide +kernel
theorem d37_100 : decode prog_11_method_13_code 100 = .ok (.goto (-95), 3) := by decide +kernel
theorem d37_103 : decode prog_11_method_13_code 103 = .ok (.iload_n 3, 1) := by decide +kernel
theorem d37_104 : decode prog_11_method_13_code 104 = .ok (.ireturn, 1) := by decide +kernel
theorem d38_0 : decode prog_11_method_14_code 0 = .ok (.iconst 0, 1) := by decide +kernel
theorem d38_1 : decode prog_11_method_14_code 1 = .ok (.istore_n 2, 1) := by decide +kernel
theorem d38_2 : decode prog_11_method_14_code 2 = .ok (.iload_n 2, 1) := by decide +kernel
theorem d38_3 : decode prog_11_method_14_code 3 = .ok (.aload_n 0, 1) := by decide +kernel
theorem d38_4 : decode prog_11_method_14_code 4 = .ok (.getfield 106, 3) := by decide +kernel
theorem d38_7 : decode prog_11_method_14_code 7 = .ok (.if_icmp .ge 29, 3) := by decide +kernel
theorem d38_10 : decode prog_11_method_14_code 10 = .ok (.iload_n 1, 1) := by decide +kernel
theorem d38_11 : decode prog_11_method_14_code 11 = .ok (.iload_n 2, 1) := by decide +kernel
theorem d38_12 : decode prog_11_method_14_code 12 = .ok (.ishr, 1) := by decide +kernel
theorem d38_13 : decode prog_11_method_14_code 13 = .ok (.iconst 1, 1) := by decide +kernel
theorem d38_14 : decode prog_11_method_14_code 14 = .ok (.iand, 1) := by decide +kernel
theorem d38_15 : decode prog_11_method_14_code 15 = .ok (.iconst 1, 1) := by decide +kernel
theorem d38_16 : decode prog_11_method_14_code 16 = .ok (.if_icmp .ne 14, 3) := by decide +kernel
theorem d38_19 : decode prog_11_method_14_code 19 = .ok (.aload_n 0, 1) := by decide +kernel
theorem d38_20 : decode prog_11_method_14_code 20 = .ok (.getfield 30, 3) := by decide +kernel
theorem d38_23 : decode prog_11_method_14_code 23 = .ok (.iload_n 2, 1) := by decide +kernel
theorem d38_24 : decode prog_11_method_14_code 24 = .ok (.iaload, 1) := by decide +kernel
theorem d38_25 : decode prog_11_method_14_code 25 = .ok (.ifCond .ne 5, 3) := by decide +kernel
theorem d38_28 : decode prog_11_method_14_code 28 = .ok (.iconst 0, 1) := by decide +kernel
theorem d38_29 : decode prog_11_method_14_code 29 = .ok (.ireturn, 1) := by decide +kernel
theorem d38_30 : decode prog_11_method_14_code 30 = .ok (.iinc 2 1, 3) := by decide +kernel
theorem d38_33 : decode prog_11_method_14_code 33 = .ok (.goto (-31), 3) := by decide +kernel
theorem d38_36 : decode prog_11_method_14_code 36 = .ok (.iconst 1, 1) := by decide +kernel
theorem d38_37 : decode prog_11_method_14_code 37 = .ok (.ireturn, 1) := by decide +kernel
theorem d39_0 : decode prog_11_method_15_code 0 = .ok (.iconst 0, 1) := by decide +kernel
theorem d39_1 : decode prog_11_method_15_code 1 = .ok (.istore_n 3, 1) := by decide +kernel
theorem d39_2 : decode prog_11_method_15_code 2 = .ok (.iload_n 3, 1) := by decide +kernel
theorem d39_3 : decode prog_11_method_15_code 3 = .ok (.aload_n 0, 1) := by decide +kernel
theorem d39_4 : decode prog_11_method_15_code 4 = .ok (.getfield 106, 3) := by decide +kernel
theorem d39_7 : decode prog_11_method_15_code 7 = .ok (.if_icmp .ge 32, 3) := by decide +kernel
theorem d39_10 : decode prog_11_method_15_code 10 = .ok (.aload_n 0, 1) := by decide +kernel
theorem d39_11 : decode prog_11_method_15_code 11 = .ok (.getfield 30, 3) := by decide +kernel
theorem d39_14 : decode prog_11_method_15_code 14 = .ok (.iload_n 3, 1) := by decide +kernel
theorem d39_15 : decode prog_11_method_15_code 15 = .ok (.dup2, 1) := by decide +kernel
theorem d39_16 : decode prog_11_method_15_code 16 = .ok (.iaload, 1) := by decide +kernel
theorem d39_17 : decode prog_11_method_15_code 17 = .ok (.iload_n 1, 1) := by decide +kernel
theorem d39_18 : decode prog_11_method_15_code 18 = .ok (.iload_n 3, 1) := by decide +kernel
theorem d39_19 : decode prog_11_method_15_code 19 = .ok (.ishr, 1) := by decide +kernel
theorem d39_20 : decode prog_11_method_15_code 20 = .ok (.iconst 1, 1) := by decide +kernel
theorem d39_21 : decode prog_11_method_15_code 21 = .ok (.iand, 1) := by decide +kernel
theorem d39_22 : decode prog_11_method_15_code 22 = .ok (.iconst 1, 1) := by decide +kernel
theorem d39_23 : decode prog_11_method_15_code 23 = .ok (.if_icmp .ne 7, 3) := by decide +kernel
theorem d39_26 : decode prog_11_method_15_code 26 = .ok (.iload_n 2, 1) := by decide +kernel
theorem d39_27 : decode prog_11_method_15_code 27 = .ok (.goto 4, 3) := by decide +kernel
theorem d39_30 : decode prog_11_method_15_code 30 = .ok (.iconst 0, 1) := by decide +kernel
theorem d39_31 : decode prog_11_method_15_code 31 = .ok (.iadd, 1) := by decide +kernel
theorem d39_32 : decode prog_11_method_15_code 32 = .ok (.iastore, 1) := by decide +kernel
theorem d39_33 : decode prog_11_method_15_code 33 = .ok (.iinc 3 1, 3) := by decide +kernel
theorem d39_36 : decode prog_11_method_15_code 36 = .ok (.goto (-34), 3) := by decide +kernel
theorem d39_39 : decode prog_11_method_15_code 39 = .ok (.return_, 1) := by decide +kernel
theorem d40_0 : decode prog_11_method_16_code 0 = .ok (.iconst 0, 1) := by decide +kernel
theorem d40_1 : decode prog_11_method_16_code 1 = .ok (.istore_n 1, 1) := by decide +kernel
theorem d40_2 : decode prog_11_method_16_code 2 = .ok (.iload_n 1, 1) := by decide +kernel
theorem d40_3 : decode prog_11_method_16_code 3 = .ok (.aload_n 0, 1) := by decide +kernel
theorem d40_4 : decode prog_11_method_16_code 4 = .ok (.getfield 106, 3) := by decide +kernel
theorem d40_7 : decode prog_11_method_16_code 7 = .ok (.if_icmp .ge 16, 3) := by decide +kernel
theorem d40_10 : decode prog_11_method_16_code 10 = .ok (.aload_n 0, 1) := by decide +kernel
theorem d40_11 : decode prog_11_method_16_code 11 = .ok (.getfield 30, 3) := by decide +kernel
theorem d40_14 : decode prog_11_method_16_code 14 = .ok (.iload_n 1, 1) := by decide +kernel
theorem d40_15 : decode prog_11_method_16_code 15 = .ok (.iconst 0, 1) := by decide +kernel
theorem d40_16 : decode prog_11_method_16_code 16 = .ok (.iastore, 1) := by decide +kernel
theorem d40_17 : decode prog_11_method_16_code 17 = .ok (.iinc 1 1, 3) := by decide +kernel
theorem d40_20 : decode prog_11_method_16_code 20 = .ok (.goto (-18), 3) := by decide +kernel
theorem d40_23 : decode prog_11_method_16_code 23 = .ok (.iconst 0, 1) := by decide +kernel
theorem d40_24 : decode prog_11_method_16_code 24 = .ok (.istore_n 1, 1) := by decide +kernel
theorem d40_25 : decode prog_11_method_16_code 25 = .ok (.iload_n 1, 1) := by decide +kernel
theorem d40_26 : decode prog_11_method_16_code 26 = .ok (.aload_n 0, 1) := by decide +kernel
theorem d40_27 : decode prog_11_method_16_code 27 = .ok (.getfield 106, 3) := by decide +kernel
theorem d40_30 : decode prog_11_method_16_code 30 = .ok (.if_icmp .gt 83, 3) := by decide +kernel
theorem d40_33 : decode prog_11_method_16_code 33 = .ok (.iconst 0, 1) := by decide +kernel
theorem d40_34 : decode prog_11_method_16_code 34 = .ok (.istore_n 2, 1) := by decide +kernel
theorem d40_35 : decode prog_11_method_16_code 35 = .ok (.iload_n 2, 1) := by decide +kernel
theorem d40_36 : decode prog_11_method_16_code 36 = .ok (.aload_n 0, 1) := by decide +kernel
theorem d40_37 : decode prog_11_method_16_code 37 = .ok (.getfield 110, 3) := by decide +kernel
theorem d40_40 : decode prog_11_method_16_code 40 = .ok (.if_icmp .ge 67, 3) := by decide +kernel
theorem d40_43 : decode prog_11_method_16_code 43 = .ok (.aload_n 0, 1) := by decide +kernel
theorem d40_44 : decode prog_11_method_16_code 44 = .ok (.getfield 19, 3) := by decide +kernel
theorem d40_47 : decode prog_11_method_16_code 47 = .ok (.iload_n 2, 1) := by decide +kernel
theorem d40_48 : decode prog_11_method_16_code 48 = .ok (.baload, 1) := by decide +kernel
theorem d40_49 : decode prog_11_method_16_code 49 = .ok (.ifCond .eq 52, 3) := by decide +kernel
theorem d40_52 : decode prog_11_method_16_code 52 = .ok (.aload_n 0, 1) := by decide +kernel
theorem d40_53 : decode prog_11_method_16_code 53 = .ok (.getfield 30, 3) := by decide +kernel
theorem d40_56 : decode prog_11_method_16_code 56 = .ok (.aload_n 0, 1) := by decide +kernel
theorem d40_57 : decode prog_11_method_16_code 57 = .ok (.getfield 36, 3) := by decide +kernel
theorem d40_60 : decode prog_11_method_16_code 60 = .ok (.iload_n 2, 1) := by decide +kernel
theorem d40_61 : decode prog_11_method_16_code 61 = .ok (.iaload, 1) := by decide +kernel
theorem d40_62 : decode prog_11_method_16_code 62 = .ok (.iaload, 1) := by decide +kernel
theorem d40_63 : decode prog_11_method_16_code 63 = .ok (.aload_n 0, 1) := by decide +kernel
theorem d40_64 : decode prog_11_method_16_code 64 = .ok (.getfield 30, 3) := by decide +kernel
theorem d40_67 : decode prog_11_method_16_code 67 = .ok (.aload_n 0, 1) := by decide +kernel
theorem d40_68 : decode prog_11_method_16_code 68 = .ok (.getfield 33, 3) := by decide +kernel
theorem d40_71 : decode prog_11_method_16_code 71 = .ok (.iload_n 2, 1) := by decide +kernel
theorem d40_72 : decode prog_11_method_16_code 72 = .ok (.iaload, 1) := by decide +kernel
theorem d40_73 : decode prog_11_method_16_code 73 = .ok (.iaload, 1) := by decide +kernel
theorem d40_74 : decode prog_11_method_16_code 74 = .ok (.if_icmp .gt 27, 3) := by decide +kernel
theorem d40_77 : decode prog_11_method_16_code 77 = .ok (.aload_n 0, 1) := by decide +kernel
theorem d40_78 : decode prog_11_method_16_code 78 = .ok (.getfield 30, 3) := by decide +kernel
theorem d40_81 : decode prog_11_method_16_code 81 = .ok (.aload_n 0, 1) := by decide +kernel
theorem d40_82 : decode prog_11_method_16_code 82 = .ok (.getfield 36, 3) := by decide +kernel
theorem d40_85 : decode prog_11_method_16_code 85 = .ok (.iload_n 2, 1) := by decide +kernel
theorem d40_86 : decode prog_11_method_16_code 86 = .ok (.iaload, 1) := by decide +kernel
theorem d40_87 : decode prog_11_method_16_code 87 = .ok (.aload_n 0, 1) := by decide +kernel
theorem d40_88 : decode prog_11_method_16_code 88 = .ok (.getfield 30, 3) := by decide +kernel
theorem d40_91 : decode prog_11_method_16_code 91 = .ok (.aload_n 0, 1) := by decide +kernel
theorem d40_92 : decode prog_11_method_16_code 92 = .ok (.getfield 33, 3) := by decide +kernel
theorem d40_95 : decode prog_11_method_16_code 95 = .ok (.iload_n 2, 1) := by decide +kernel
theorem d40_96 : decode prog_11_method_16_code 96 = .ok (.iaload, 1) := by decide +kernel
theorem d40_97 : decode prog_11_method_16_code 97 = .ok (.iaload, 1) := by decide +kernel
theorem d40_98 : decode prog_11_method_16_code 98 = .ok (.iconst 1, 1) := by decide +kernel
theorem d40_99 : decode prog_11_method_16_code 99 = .ok (.iadd, 1) := by decide +kernel
theorem d40_100 : decode prog_11_method_16_code 100 = .ok (.iastore, 1) := by decide +kernel
theorem d40_101 : decode prog_11_method_16_code 101 = .ok (.iinc 2 1, 3) := by decide +kernel
theorem d40_104 : decode prog_11_method_16_code 104 = .ok (.goto (-69), 3) := by decide +kernel
theorem d40_107 : decode prog_11_method_16_code 107 = .ok (.iinc 1 1, 3) := by decide +kernel
theorem d40_110 : decode prog_11_method_16_code 110 = .ok (.goto (-85), 3) := by decide +kernel
theorem d40_113 : decode prog_11_method_16_code 113 = .ok (.iconst 1, 1) := by decide +kernel
theorem d40_114 : decode prog_11_method_16_code 114 = .ok (.istore_n 1, 1) := by decide +kernel
theorem d40_115 : decode prog_11_method_16_code 115 = .ok (.iload_n 1, 1) := by decide +kernel
theorem d40_116 : decode prog_11_method_16_code 116 = .ok (.ifCond .eq 68, 3) := by decide +kernel
theorem d40_119 : decode prog_11_method_16_code 119 = .ok (.iconst 0, 1) := by decide +kernel
theorem d40_120 : decode prog_11_method_16_code 120 = .ok (.istore_n 1, 1) := by decide +kernel
theorem d40_121 : decode prog_11_method_16_code 121 = .ok (.iconst 1, 1) := by decide +kernel
theorem d40_122 : decode prog_11_method_16_code 122 = .ok (.istore_n 2, 1) := by decide +kernel
theorem d40_123 : decode prog_11_method_16_code 123 = .ok (.iload_n 2, 1) := by decide +kernel
theorem d40_124 : decode prog_11_method_16_code 124 = .ok (.iconst 1, 1) := by decide +kernel
theorem d40_125 : decode prog_11_method_16_code 125 = .ok (.aload_n 0, 1) := by decide +kernel
theorem d40_126 : decode prog_11_method_16_code 126 = .ok (.getfield 106, 3) := by decide +kernel
theorem d40_129 : decode prog_11_method_16_code 129 = .ok (.ishl, 1) := by decide +kernel
theorem d40_130 : decode prog_11_method_16_code 130 = .ok (.if_icmp .ge 51, 3) := by decide +kernel
theorem d40_133 : decode prog_11_method_16_code 133 = .ok (.aload_n 0, 1) := by decide +kernel
theorem d40_134 : decode prog_11_method_16_code 134 = .ok (.iload_n 2, 1) := by decide +kernel
theorem d40_135 : decode prog_11_method_16_code 135 = .ok (.iconst 1, 1) := by decide +kernel
theorem d40_136 : decode prog_11_method_16_code 136 = .ok (.invokevirtual 131, 3) := by decide +kernel
theorem d40_139 : decode prog_11_method_16_code 139 = .ok (.ifCond .ge 11, 3) := by decide +kernel
theorem d40_142 : decode prog_11_method_16_code 142 = .ok (.aload_n 0, 1) := by decide +kernel
theorem d40_143 : decode prog_11_method_16_code 143 = .ok (.iload_n 2, 1) := by decide +kernel
theorem d40_144 : decode prog_11_method_16_code 144 = .ok (.iconst 1, 1) := by decide +kernel
theorem d40_145 : decode prog_11_method_16_code 145 = .ok (.invokevirtual 135, 3) := by decide +kernel
theorem d40_148 : decode prog_11_method_16_code 148 = .ok (.iconst 1, 1) := by decide +kernel
theorem d40_149 : decode prog_11_method_16_code 149 = .ok (.istore_n 1, 1) := by decide +kernel
theorem d40_150 : decode prog_11_method_16_code 150 = .ok (.aload_n 0, 1) := by decide +kernel
theorem d40_151 : decode prog_11_method_16_code 151 = .ok (.iload_n 2, 1) := by decide +kernel
theorem d40_152 : decode prog_11_method_16_code 152 = .ok (.invokevirtual 139, 3) := by decide +kernel
theorem d40_155 : decode prog_11_method_16_code 155 = .ok (.ifCond .eq 20, 3) := by decide +kernel
theorem d40_158 : decode prog_11_method_16_code 158 = .ok (.aload_n 0, 1) := by decide +kernel
theorem d40_159 : decode prog_11_method_16_code 159 = .ok (.iload_n 2, 1) := by decide +kernel
theorem d40_160 : decode prog_11_method_16_code 160 = .ok (.iconst (-1), 1) := by decide +kernel
theorem d40_161 : decode prog_11_method_16_code 161 = .ok (.invokevirtual 131, 3) := by decide +kernel
theorem d40_164 : decode prog_11_method_16_code 164 = .ok (.ifCond .gt 11, 3) := by decide +kernel
theorem d40_167 : decode prog_11_method_16_code 167 = .ok (.aload_n 0, 1) := by decide +kernel
theorem d40_168 : decode prog_11_method_16_code 168 = .ok (.iload_n 2, 1) := by decide +kernel
theorem d40_169 : decode prog_11_method_16_code 169 = .ok (.iconst (-1), 1) := by decide +kernel
theorem d40_170 : decode prog_11_method_16_code 170 = .ok (.invokevirtual 135, 3) := by decide +kernel
theorem d40_173 : decode prog_11_method_16_code 173 = .ok (.iconst 1, 1) := by decide +kernel
theorem d40_174 : decode prog_11_method_16_code 174 = .ok (.istore_n 1, 1) := by decide +kernel
theorem d40_175 : decode prog_11_method_16_code 175 = .ok (.iinc 2 1, 3) := by decide +kernel
theorem d40_178 : decode prog_11_method_16_code 178 = .ok (.goto (-55), 3) := by decide +kernel
theorem d40_181 : decode prog_11_method_16_code 181 = .ok (.goto (-66), 3) := by decide +kernel
theorem d40_184 : decode prog_11_method_16_code 184 = .ok (.return_, 1) := by decide +kernel
theorem d41_0 : decode prog_11_method_17_code 0 = .ok (.aload_n 0, 1) := by decide +kernel
theorem d41_1 : decode prog_11_method_17_code 1 = .ok (.getfield 23, 3) := by decide +kernel
theorem d41_4 : decode prog_11_method_17_code 4 = .ok (.ifCond .ne 4, 3) := by decide +kernel
theorem d41_7 : decode prog_11_method_17_code 7 = .ok (.return_, 1) := by decide +kernel
theorem d41_8 : decode prog_11_method_17_code 8 = .ok (.aload_n 0, 1) := by decide +kernel
theorem d41_9 : decode prog_11_method_17_code 9 = .ok (.iconst 0, 1) := by decide +kernel
theorem d41_10 : decode prog_11_method_17_code 10 = .ok (.putfield 23, 3) := by decide +kernel
theorem d41_13 : decode prog_11_method_17_code 13 = .ok (.aload_n 0, 1) := by decide +kernel
theorem d41_14 : decode prog_11_method_17_code 14 = .ok (.invokevirtual 142, 3) := by decide +kernel
theorem d41_17 : decode prog_11_method_17_code 17 = .ok (.aload_n 0, 1) := by decide +kernel
theorem d41_18 : decode prog_11_method_17_code 18 = .ok (.invokevirtual 145, 3) := by decide +kernel
theorem d41_21 : decode prog_11_method_17_code 21 = .ok (.return_, 1) := by decide +kernel
theorem d42_0 : decode prog_11_method_18_code 0 = .ok (.aload_n 0, 1) := by decide +kernel
theorem d42_1 : decode prog_11_method_18_code 1 = .ok (.invokevirtual 148, 3) := by decide +kernel
theorem d42_4 : decode prog_11_method_18_code 4 = .ok (.iconst 0, 1) := by decide +kernel
theorem d42_5 : decode prog_11_method_18_code 5 = .ok (.istore_n 1, 1) := by decide +kernel
theorem d42_6 : decode prog_11_method_18_code 6 = .ok (.iconst 0, 1) := by decide +kernel
theorem d42_7 : decode prog_11_method_18_code 7 = .ok (.istore_n 2, 1) := by decide +kernel
theorem d42_8 : decode prog_11_method_18_code 8 = .ok (.iload_n 2, 1) := by decide +kernel
theorem d42_9 : decode prog_11_method_18_code 9 = .ok (.aload_n 0, 1) := by decide +kernel
theorem d42_10 : decode prog_11_method_18_code 10 = .ok (.getfield 110, 3) := by decide +kernel
theorem d42_13 : decode prog_11_method_18_code 13 = .ok (.if_icmp .ge 35, 3) := by decide +kernel
theorem d42_16 : decode prog_11_method_18_code 16 = .ok (.iload_n 1, 1) := by decide +kernel
theorem d42_17 : decode prog_11_method_18_code 17 = .ok (.aload_n 0, 1) := by decide +kernel
theorem d42_18 : decode prog_11_method_18_code 18 = .ok (.getfield 19, 3) := by decide +kernel
theorem d42_21 : decode prog_11_method_18_code 21 = .ok (.iload_n 2, 1) := by decide +kernel
theorem d42_22 : decode prog_11_method_18_code 22 = .ok (.baload, 1) := by decide +kernel
theorem d42_23 : decode prog_11_method_18_code 23 = .ok (.ifCond .eq 16, 3) := by decide +kernel
theorem d42_26 : decode prog_11_method_18_code 26 = .ok (.aload_n 0, 1) := by decide +kernel
theorem d42_27 : decode prog_11_method_18_code 27 = .ok (.getfield 27, 3) := by decide +kernel
theorem d42_30 : decode prog_11_method_18_code 30 = .ok (.iload_n 2, 1) := by decide +kernel
theorem d42_31 : decode prog_11_method_18_code 31 = .ok (.baload, 1) := by decide +kernel
theorem d42_32 : decode prog_11_method_18_code 32 = .ok (.ifCond .eq 7, 3) := by decide +kernel
theorem d42_35 : decode prog_11_method_18_code 35 = .ok (.iconst 1, 1) := by decide +kernel
theorem d42_36 : decode prog_11_method_18_code 36 = .ok (.goto 4, 3) := by decide +kernel
theorem d42_39 : decode prog_11_method_18_code 39 = .ok (.iconst 0, 1) := by decide +kernel
theorem d42_40 : decode prog_11_method_18_code 40 = .ok (.iadd, 1) := by decide +kernel
theorem d42_41 : decode prog_11_method_18_code 41 = .ok (.istore_n 1, 1) := by decide +kernel
theorem d42_42 : decode prog_11_method_18_code 42 = .ok (.iinc 2 1, 3) := by decide +kernel
theorem d42_45 : decode prog_11_method_18_code 45 = .ok (.goto (-37), 3) := by decide +kernel
theorem d42_48 : decode prog_11_method_18_code 48 = .ok (.iload_n 1, 1) := by decide +kernel
theorem d42_49 : decode prog_11_method_18_code 49 = .ok (.ireturn, 1) := by decide +kernel
theorem d43_0 : decode prog_11_method_19_code 0 = .ok (.aload_n 0, 1) := by decide +kernel
theorem d43_1 : decode prog_11_method_19_code 1 = .ok (.iload_n 1, 1) := by decide +kernel
theorem d43_2 : decode prog_11_method_19_code 2 = .ok (.invokevirtual 123, 3) := by decide +kernel
theorem d43_5 : decode prog_11_method_19_code 5 = .ok (.ifCond .ne 5, 3) := by decide +kernel
theorem d43_8 : decode prog_11_method_19_code 8 = .ok (.iconst (-1), 1) := by decide +kernel
theorem d43_9 : decode prog_11_method_19_code 9 = .ok (.ireturn, 1) := by decide +kernel
theorem d43_10 : decode prog_11_method_19_code 10 = .ok (.aload_n 0, 1) := by decide +kernel
theorem d43_11 : decode prog_11_method_19_code 11 = .ok (.invokevirtual 148, 3) := by decide +kernel
theorem d43_14 : decode prog_11_method_19_code 14 = .ok (.aload_n 0, 1) := by decide +kernel
theorem d43_15 : decode prog_11_method_19_code 15 = .ok (.getfield 27, 3) := by decide +kernel
theorem d43_18 : decode prog_11_method_19_code 18 = .ok (.iload_n 1, 1) := by decide +kernel
theorem d43_19 : decode prog_11_method_19_code 19 = .ok (.baload, 1) := by decide +kernel
theorem d43_20 : decode prog_11_method_19_code 20 = .ok (.ifCond .eq 7, 3) := by decide +kernel
theorem d43_23 : decode prog_11_method_19_code 23 = .ok (.iconst 1, 1) := by decide +kernel
theorem d43_24 : decode prog_11_method_19_code 24 = .ok (.goto 4, 3) := by decide +kernel
theorem d43_27 : decode prog_11_method_19_code 27 = .ok (.iconst 0, 1) := by decide +kernel
theorem d43_28 : decode prog_11_method_19_code 28 = .ok (.ireturn, 1) := by decide +kernel
theorem d44_0 : decode prog_11_method_20_code 0 = .ok (.aload_n 0, 1) := by decide +kernel
theorem d44_1 : decode prog_11_method_20_code 1 = .ok (.iload_n 1, 1) := by decide +kernel
theorem d44_2 : decode prog_11_method_20_code 2 = .ok (.invokevirtual 116, 3) := by decide +kernel
theorem d44_5 : decode prog_11_method_20_code 5 = .ok (.ifCond .ne 5, 3) := by decide +kernel
theorem d44_8 : decode prog_11_method_20_code 8 = .ok (.iconst (-1), 1) := by decide +kernel
theorem d44_9 : decode prog_11_method_20_code 9 = .ok (.ireturn, 1) := by decide +kernel
theorem d44_10 : decode prog_11_method_20_code 10 = .ok (.aload_n 0, 1) := by decide +kernel
theorem d44_11 : decode prog_11_method_20_code 11 = .ok (.invokevirtual 148, 3) := by decide +kernel
theorem d44_14 : decode prog_11_method_20_code 14 = .ok (.aload_n 0, 1) := by decide +kernel
theorem d44_15 : decode prog_11_method_20_code 15 = .ok (.getfield 30, 3) := by decide +kernel
theorem d44_18 : decode prog_11_method_20_code 18 = .ok (.iload_n 1, 1) := by decide +kernel
theorem d44_19 : decode prog_11_method_20_code 19 = .ok (.iaload, 1) := by decide +kernel
theorem d44_20 : decode prog_11_method_20_code 20 = .ok (.ireturn, 1) := by decide +kernel
theorem d45_0 : decode prog_11_method_21_code 0 = .ok (.iconst (-1), 1) := by decide +kernel
theorem d45_1 : decode prog_11_method_21_code 1 = .ok (.istore_n 1, 1) := by decide +kernel
theorem d45_2 : decode prog_11_method_21_code 2 = .ok (.iconst 0, 1) := by decide +kernel
theorem d45_3 : decode prog_11_method_21_code 3 = .ok (.istore_n 2, 1) := by decide +kernel
theorem d45_4 : decode prog_11_method_21_code 4 = .ok (.iload_n 2, 1) := by decide +kernel
theorem d45_5 : decode prog_11_method_21_code 5 = .ok (.aload_n 0, 1) := by decide +kernel
theorem d45_6 : decode prog_11_method_21_code 6 = .ok (.getfield 106, 3) := by decide +kernel
theorem d45_9 : decode prog_11_method_21_code 9 = .ok (.if_icmp .ge 30, 3) := by decide +kernel
theorem d45_12 : decode prog_11_method_21_code 12 = .ok (.aload_n 0, 1) := by decide +kernel
theorem d45_13 : decode prog_11_method_21_code 13 = .ok (.getfield 30, 3) := by decide +kernel
theorem d45_16 : decode prog_11_method_21_code 16 = .ok (.iload_n 2, 1) := by decide +kernel
theorem d45_17 : decode prog_11_method_21_code 17 = .ok (.iaload, 1) := by decide +kernel
theorem d45_18 : decode prog_11_method_21_code 18 = .ok (.iload_n 1, 1) := by decide +kernel
theorem d45_19 : decode prog_11_method_21_code 19 = .ok (.if_icmp .le 12, 3) := by decide +kernel
theorem d45_22 : decode prog_11_method_21_code 22 = .ok (.aload_n 0, 1) := by decide +kernel
theorem d45_23 : decode prog_11_method_21_code 23 = .ok (.getfield 30, 3) := by decide +kernel
theorem d45_26 : decode prog_11_method_21_code 26 = .ok (.iload_n 2, 1) := by decide +kernel
theorem d45_27 : decode prog_11_method_21_code 27 = .ok (.iaload, 1) := by decide +kernel
theorem d45_28 : decode prog_11_method_21_code 28 = .ok (.goto 4, 3) := by decide +kernel
theorem d45_31 : decode prog_11_method_21_code 31 = .ok (.iload_n 1, 1) := by decide +kernel
theorem d45_32 : decode prog_11_method_21_code 32 = .ok (.istore_n 1, 1) := by decide +kernel
theorem d45_33 : decode prog_11_method_21_code 33 = .ok (.iinc 2 1, 3) := by decide +kernel
theorem d45_36 : decode prog_11_method_21_code 36 = .ok (.goto (-32), 3) := by decide +kernel
theorem d45_39 : decode prog_11_method_21_code 39 = .ok (.iload_n 1, 1) := by decide +kernel
theorem d45_40 : decode prog_11_method_21_code 40 = .ok (.iconst 1, 1) := by decide +kernel
theorem d45_41 : decode prog_11_method_21_code 41 = .ok (.iadd, 1) := by decide +kernel
theorem d45_42 : decode prog_11_method_21_code 42 = .ok (.ireturn, 1) := by decide +kernel
theorem d46_0 : decode prog_11_method_22_code 0 = .ok (.aload_n 0, 1) := by decide +kernel
theorem d46_1 : decode prog_11_method_22_code 1 = .ok (.invokevirtual 148, 3) := by decide +kernel
theorem d46_4 : decode prog_11_method_22_code 4 = .ok (.aload_n 0, 1) := by decide +kernel
theorem d46_5 : decode prog_11_method_22_code 5 = .ok (.invokevirtual 151, 3) := by decide +kernel
theorem d46_8 : decode prog_11_method_22_code 8 = .ok (.ireturn, 1) := by decide +kernel
theorem d47_0 : decode prog_11_method_23_code 0 = .ok (.aload_n 0, 1) := by decide +kernel
theorem d47_1 : decode prog_11_method_23_code 1 = .ok (.invokevirtual 148, 3) := by decide +kernel
theorem d47_4 : decode prog_11_method_23_code 4 = .ok (.aload_n 0, 1) := by decide +kernel
theorem d47_5 : decode prog_11_method_23_code 5 = .ok (.aload_n 0, 1) := by decide +kernel
theorem d47_6 : decode prog_11_method_23_code 6 = .ok (.getfield 30, 3) := by decide +kernel
theorem d47_9 : decode prog_11_method_23_code 9 = .ok (.invokevirtual 154, 3) := by decide +kernel
theorem d47_12 : decode prog_11_method_23_code 12 = .ok (.ireturn, 1) := by decide +kernel
theorem d48_0 : decode prog_11_method_24_code 0 = .ok (.iconst 0, 1) := by decide +kernel
theorem d48_1 : decode prog_11_method_24_code 1 = .ok (.istore_n 1, 1) := by decide +kernel
theorem d48_2 : decode prog_11_method_24_code 2 = .ok (.iconst 0, 1) := by decide +kernel
theorem d48_3 : decode prog_11_method_24_code 3 = .ok (.istore_n 2, 1) := by decide +kernel
theorem d48_4 : decode prog_11_method_24_code 4 = .ok (.iload_n 2, 1) := by decide +kernel
theorem d48_5 : decode prog_11_method_24_code 5 = .ok (.aload_n 0, 1) := by decide +kernel
theorem d48_6 : decode prog_11_method_24_code 6 = .ok (.getfield 110, 3) := by decide +kernel
theorem d48_9 : decode prog_11_method_24_code 9 = .ok (.if_icmp .ge 50, 3) := by decide +kernel
theorem d48_12 : decode prog_11_method_24_code 12 = .ok (.iload_n 1, 1) := by decide +kernel
theorem d48_13 : decode prog_11_method_24_code 13 = .ok (.aload_n 0, 1) := by decide +kernel
theorem d48_14 : decode prog_11_method_24_code 14 = .ok (.getfield 19, 3) := by decide +kernel
theorem d48_17 : decode prog_11_method_24_code 17 = .ok (.iload_n 2, 1) := by decide +kernel
theorem d48_18 : decode prog_11_method_24_code 18 = .ok (.baload, 1) := by decide +kernel
theorem d48_19 : decode prog_11_method_24_code 19 = .ok (.ifCond .eq 31, 3) := by decide +kernel
theorem d48_22 : decode prog_11_method_24_code 22 = .ok (.aload_n 0, 1) := by decide +kernel
theorem d48_23 : decode prog_11_method_24_code 23 = .ok (.getfield 30, 3) := by decide +kernel
theorem d48_26 : decode prog_11_method_24_code 26 = .ok (.aload_n 0, 1) := by decide +kernel
theorem d48_27 : decode prog_11_method_24_code 27 = .ok (.getfield 36, 3) := by decide +kernel
theorem d48_30 : decode prog_11_method_24_code 30 = .ok (.iload_n 2, 1) := by decide +kernel
theorem d48_31 : decode prog_11_method_24_code 31 = .ok (.iaload, 1) := by decide +kernel
theorem d48_32 : decode prog_11_method_24_code 32 = .ok (.iaload, 1) := by decide +kernel
theorem d48_33 : decode prog_11_method_24_code 33 = .ok (.aload_n 0, 1) := by decide +kernel
theorem d48_34 : decode prog_11_method_24_code 34 = .ok (.getfield 30, 3) := by decide +kernel
theorem d48_37 : decode prog_11_method_24_code 37 = .ok (.aload_n 0, 1) := by decide +kernel
theorem d48_38 : decode prog_11_method_24_code 38 = .ok (.getfield 33, 3) := by decide +kernel
theorem d48_41 : decode prog_11_method_24_code 41 = .ok (.iload_n 2, 1) := by decide +kernel
theorem d48_42 : decode prog_11_method_24_code 42 = .ok (.iaload, 1) := by decide +kernel
theorem d48_43 : decode prog_11_method_24_code 43 = .ok (.iaload, 1) := by decide +kernel
theorem d48_44 : decode prog_11_method_24_code 44 = .ok (.isub, 1) := by decide +kernel
theorem d48_45 : decode prog_11_method_24_code 45 = .ok (.iconst 1, 1) := by decide +kernel
theorem d48_46 : decode prog_11_method_24_code 46 = .ok (.isub, 1) := by decide +kernel
theorem d48_47 : decode prog_11_method_24_code 47 = .ok (.goto 4, 3) := by decide +kernel
theorem d48_50 : decode prog_11_method_24_code 50 = .ok (.iconst 0, 1) := by decide +kernel
theorem d48_51 : decode prog_11_method_24_code 51 = .ok (.iadd, 1) := by decide +kernel
theorem d48_52 : decode prog_11_method_24_code 52 = .ok (.istore_n 1, 1) := by decide +kernel
theorem d48_53 : decode prog_11_method_24_code 53 = .ok (.iinc 2 1, 3) := by decide +kernel
theorem d48_56 : decode prog_11_method_24_code 56 = .ok (.goto (-52), 3) := by decide +kernel
theorem d48_59 : decode prog_11_method_24_code 59 = .ok (.iload_n 1, 1) := by decide +kernel
theorem d48_60 : decode prog_11_method_24_code 60 = .ok (.ireturn, 1) := by decide +kernel
theorem d49_0 : decode prog_11_method_25_code 0 = .ok (.aload_n 0, 1) := by decide +kernel
theorem d49_1 : decode prog_11_method_25_code 1 = .ok (.invokevirtual 148, 3) := by decide +kernel
theorem d49_4 : decode prog_11_method_25_code 4 = .ok (.aload_n 0, 1) := by decide +kernel
theorem d49_5 : decode prog_11_method_25_code 5 = .ok (.invokevirtual 158, 3) := by decide +kernel
theorem d49_8 : decode prog_11_method_25_code 8 = .ok (.ireturn, 1) := by decide +kernel
theorem d50_0 : decode prog_11_method_26_code 0 = .ok (.iconst 0, 1) := by decide +kernel
theorem d50_1 : decode prog_11_method_26_code 1 = .ok (.istore_n 1, 1) := by decide +kernel
theorem d50_2 : decode prog_11_method_26_code 2 = .ok (.iload_n 1, 1) := by decide +kernel
theorem d50_3 : decode prog_11_method_26_code 3 = .ok (.bipush 80, 2) := by decide +kernel
theorem d50_5 : decode prog_11_method_26_code 5 = .ok (.if_icmp .ge 52, 3) := by decide +kernel
theorem d50_8 : decode prog_11_method_26_code 8 = .ok (.aload_n 0, 1) := by decide +kernel
theorem d50_9 : decode prog_11_method_26_code 9 = .ok (.getfield 55, 3) := by decide +kernel
theorem d50_12 : decode prog_11_method_26_code 12 = .ok (.iload_n 1, 1) := by decide +kernel
theorem d50_13 : decode prog_11_method_26_code 13 = .ok (.iload_n 1, 1) := by decide +kernel
theorem d50_14 : decode prog_11_method_26_code 14 = .ok (.aload_n 0, 1) := by decide +kernel
theorem d50_15 : decode prog_11_method_26_code 15 = .ok (.getfield 106, 3) := by decide +kernel
theorem d50_18 : decode prog_11_method_26_code 18 = .ok (.if_icmp .ge 7, 3) := by decide +kernel
theorem d50_21 : decode prog_11_method_26_code 21 = .ok (.iconst 1, 1) := by decide +kernel
theorem d50_22 : decode prog_11_method_26_code 22 = .ok (.goto 4, 3) := by decide +kernel
theorem d50_25 : decode prog_11_method_26_code 25 = .ok (.iconst 0, 1) := by decide +kernel
theorem d50_26 : decode prog_11_method_26_code 26 = .ok (.bastore, 1) := by decide +kernel
theorem d50_27 : decode prog_11_method_26_code 27 = .ok (.aload_n 0, 1) := by decide +kernel
theorem d50_28 : decode prog_11_method_26_code 28 = .ok (.getfield 52, 3) := by decide +kernel
theorem d50_31 : decode prog_11_method_26_code 31 = .ok (.iload_n 1, 1) := by decide +kernel
theorem d50_32 : decode prog_11_method_26_code 32 = .ok (.iload_n 1, 1) := by decide +kernel
theorem d50_33 : decode prog_11_method_26_code 33 = .ok (.aload_n 0, 1) := by decide +kernel
theorem d50_34 : decode prog_11_method_26_code 34 = .ok (.getfield 106, 3) := by decide +kernel
theorem d50_37 : decode prog_11_method_26_code 37 = .ok (.if_icmp .ge 12, 3) := by decide +kernel
theorem d50_40 : decode prog_11_method_26_code 40 = .ok (.aload_n 0, 1) := by decide +kernel
theorem d50_41 : decode prog_11_method_26_code 41 = .ok (.getfield 30, 3) := by decide +kernel
theorem d50_44 : decode prog_11_method_26_code 44 = .ok (.iload_n 1, 1) := by decide +kernel
theorem d50_45 : decode prog_11_method_26_code 45 = .ok (.iaload, 1) := by decide +kernel
theorem d50_46 : decode prog_11_method_26_code 46 = .ok (.goto 4, 3) := by decide +kernel
theorem d50_49 : decode prog_11_method_26_code 49 = .ok (.iconst 0, 1) := by decide +kernel
theorem d50_50 : decode prog_11_method_26_code 50 = .ok (.iastore, 1) := by decide +kernel
theorem d50_51 : decode prog_11_method_26_code 51 = .ok (.iinc 1 1, 3) := by decide +kernel
theorem d50_54 : decode prog_11_method_26_code 54 = .ok (.goto (-52), 3) := by decide +kernel
theorem d50_57 : decode prog_11_method_26_code 57 = .ok (.bipush 12, 2) := by decide +kernel
theorem d50_59 : decode prog_11_method_26_code 59 = .ok (.istore_n 1, 1) := by decide +kernel
theorem d50_60 : decode prog_11_method_26_code 60 = .ok (.aload_n 0, 1) := by decide +kernel
theorem d50_61 : decode prog_11_method_26_code 61 = .ok (.iconst 0, 1) := by decide +kernel
theorem d50_62 : decode prog_11_method_26_code 62 = .ok (.putfield 161, 3) := by decide +kernel
theorem d50_65 : decode prog_11_method_26_code 65 = .ok (.iconst 0, 1) := by decide +kernel
theorem d50_66 : decode prog_11_method_26_code 66 = .ok (.istore_n 2, 1) := by decide +kernel
theorem d50_67 : decode prog_11_method_26_code 67 = .ok (.iload_n 2, 1) := by decide +kernel
theorem d50_68 : decode prog_11_method_26_code 68 = .ok (.aload_n 0, 1) := by decide +kernel
theorem d50_69 : decode prog_11_method_26_code 69 = .ok (.getfield 110, 3) := by decide +kernel
theorem d50_72 : decode prog_11_method_26_code 72 = .ok (.if_icmp .ge 158, 3) := by decide +kernel
theorem d50_75 : decode prog_11_method_26_code 75 = .ok (.aload_n 0, 1) := by decide +kernel
theorem d50_76 : decode prog_11_method_26_code 76 = .ok (.getfield 19, 3) := by decide +kernel
theorem d50_79 : decode prog_11_method_26_code 79 = .ok (.iload_n 2, 1) := by decide +kernel
theorem d50_80 : decode prog_11_method_26_code 80 = .ok (.baload, 1) := by decide +kernel
theorem d50_81 : decode prog_11_method_26_code 81 = .ok (.ifCond .ne 6, 3) := by decide +kernel
theorem d50_84 : decode prog_11_method_26_code 84 = .ok (.goto 140, 3) := by decide +kernel
theorem d50_87 : decode prog_11_method_26_code 87 = .ok (.aload_n 0, 1) := by decide +kernel
theorem d50_88 : decode prog_11_method_26_code 88 = .ok (.getfield 58, 3) := by decide +kernel
theorem d50_91 : decode prog_11_method_26_code 91 = .ok (.iload_n 2, 1) := by decide +kernel
theorem d50_92 : decode prog_11_method_26_code 92 = .ok (.iload_n 1, 1) := by decide +kernel
theorem d50_93 : decode prog_11_method_26_code 93 = .ok (.iastore, 1) := by decide +kernel
theorem d50_94 : decode prog_11_method_26_code 94 = .ok (.aload_n 0, 1) := by decide +kernel
theorem d50_95 : decode prog_11_method_26_code 95 = .ok (.getfield 33, 3) := by decide +kernel
theorem d50_98 : decode prog_11_method_26_code 98 = .ok (.iload_n 2, 1) := by decide +kernel
theorem d50_99 : decode prog_11_method_26_code 99 = .ok (.iaload, 1) := by decide +kernel
theorem d50_100 : decode prog_11_method_26_code 100 = .ok (.istore_n 3, 1) := by decide +kernel
theorem d50_101 : decode prog_11_method_26_code 101 = .ok (.aload_n 0, 1) := by decide +kernel
theorem d50_102 : decode prog_11_method_26_code 102 = .ok (.getfield 30, 3) := by decide +kernel
theorem d50_105 : decode prog_11_method_26_code 105 = .ok (.aload_n 0, 1) := by decide +kernel
theorem d50_106 : decode prog_11_method_26_code 106 = .ok (.getfield 33, 3) := by decide +kernel
theorem d50_109 : decode prog_11_method_26_code 109 = .ok (.iload_n 2, 1) := by decide +kernel
theorem d50_110 : decode prog_11_method_26_code 110 = .ok (.iaload, 1) := by decide +kernel
theorem d50_111 : decode prog_11_method_26_code 111 = .ok (.iaload, 1) := by decide +kernel
theorem d50_112 : decode prog_11_method_26_code 112 = .ok (.iconst 1, 1) := by decide +kernel
theorem d50_113 : decode prog_11_method_26_code 113 = .ok (.iadd, 1) := by decide +kernel
theorem d50_114 : decode prog_11_method_26_code 114 = .ok (.istore 4, 2) := by decide +kernel
theorem d50_116 : decode prog_11_method_26_code 116 = .ok (.iload 4, 2) := by decide +kernel
theorem d50_118 : decode prog_11_method_26_code 118 = .ok (.aload_n 0, 1) := by decide +kernel
theorem d50_119 : decode prog_11_method_26_code 119 = .ok (.getfield 30, 3) := by decide +kernel
theorem d50_122 : decode prog_11_method_26_code 122 = .ok (.aload_n 0, 1) := by decide +kernel
theorem d50_123 : decode prog_11_method_26_code 123 = .ok (.getfield 36, 3) := by decide +kernel
theorem d50_126 : decode prog_11_method_26_code 126 = .ok (.iload_n 2, 1) := by decide +kernel
theorem d50_127 : decode prog_11_method_26_code 127 = .ok (.iaload, 1) := by decide +kernel
theorem d50_128 : decode prog_11_method_26_code 128 = .ok (.iaload, 1) := by decide +kernel
theorem d50_129 : decode prog_11_method_26_code 129 = .ok (.if_icmp .gt 95, 3) := by decide +kernel
theorem d50_132 : decode prog_11_method_26_code 132 = .ok (.iload 4, 2) := by decide +kernel
theorem d50_134 : decode prog_11_method_26_code 134 = .ok (.aload_n 0, 1) := by decide +kernel
theorem d50_135 : decode prog_11_method_26_code 135 = .ok (.getfield 30, 3) := by decide +kernel
theorem d50_138 : decode prog_11_method_26_code 138 = .ok (.aload_n 0, 1) := by decide +kernel
theorem d50_139 : decode prog_11_method_26_code 139 = .ok (.getfield 36, 3) := by decide +kernel
theorem d50_142 : decode prog_11_method_26_code 142 = .ok (.iload_n 2, 1) := by decide +kernel
theorem d50_143 : decode prog_11_method_26_code 143 = .ok (.iaload, 1) := by decide +kernel
theorem d50_144 : decode prog_11_method_26_code 144 = .ok (.iaload, 1) := by decide +kernel
theorem d50_145 : decode prog_11_method_26_code 145 = .ok (.if_icmp .ne 12, 3) := by decide +kernel
theorem d50_148 : decode prog_11_method_26_code 148 = .ok (.aload_n 0, 1) := by decide +kernel
theorem d50_149 : decode prog_11_method_26_code 149 = .ok (.getfield 36, 3) := by decide +kernel
theorem d50_152 : decode prog_11_method_26_code 152 = .ok (.iload_n 2, 1) := by decide +kernel
theorem d50_153 : decode prog_11_method_26_code 153 = .ok (.iaload, 1) := by decide +kernel
theorem d50_154 : decode prog_11_method_26_code 154 = .ok (.goto 4, 3) := by decide +kernel
theorem d50_157 : decode prog_11_method_26_code 157 = .ok (.iload_n 1, 1) := by decide +kernel
theorem d50_158 : decode prog_11_method_26_code 158 = .ok (.istore 5, 2) := by decide +kernel
theorem d50_160 : decode prog_11_method_26_code 160 = .ok (.iload 5, 2) := by decide +kernel
theorem d50_162 : decode prog_11_method_26_code 162 = .ok (.iload_n 1, 1) := by decide +kernel
theorem d50_163 : decode prog_11_method_26_code 163 = .ok (.if_icmp .ne 21, 3) := by decide +kernel
theorem d50_166 : decode prog_11_method_26_code 166 = .ok (.aload_n 0, 1) := by decide +kernel
theorem d50_167 : decode prog_11_method_26_code 167 = .ok (.getfield 55, 3) := by decide +kernel
theorem d50_170 : decode prog_11_method_26_code 170 = .ok (.iload_n 1, 1) := by decide +kernel
theorem d50_171 : decode prog_11_method_26_code 171 = .ok (.iconst 1, 1) := by decide +kernel
theorem d50_172 : decode prog_11_method_26_code 172 = .ok (.bastore, 1) := by decide +kernel
theorem d50_173 : decode prog_11_method_26_code 173 = .ok (.aload_n 0, 1) := by decide +kernel
theorem d50_174 : decode prog_11_method_26_code 174 = .ok (.getfield 52, 3) := by decide +kernel
theorem d50_177 : decode prog_11_method_26_code 177 = .ok (.iload_n 1, 1) := by decide +kernel
theorem d50_178 : decode prog_11_method_26_code 178 = .ok (.iload 4, 2) := by decide +kernel
theorem d50_180 : decode prog_11_method_26_code 180 = .ok (.iastore, 1) := by decide +kernel
theorem d50_181 : decode prog_11_method_26_code 181 = .ok (.iinc 1 1, 3) := by decide +kernel
theorem d50_184 : decode prog_11_method_26_code 184 = .ok (.aload_n 0, 1) := by decide +kernel
theorem d50_185 : decode prog_11_method_26_code 185 = .ok (.getfield 61, 3) := by decide +kernel
theorem d50_188 : decode prog_11_method_26_code 188 = .ok (.aload_n 0, 1) := by decide +kernel
theorem d50_189 : decode prog_11_method_26_code 189 = .ok (.getfield 161, 3) := by decide +kernel
theorem d50_192 : decode prog_11_method_26_code 192 = .ok (.iload_n 3, 1) := by decide +kernel
theorem d50_193 : decode prog_11_method_26_code 193 = .ok (.iastore, 1) := by decide +kernel
theorem d50_194 : decode prog_11_method_26_code 194 = .ok (.aload_n 0, 1) := by decide +kernel
theorem d50_195 : decode prog_11_method_26_code 195 = .ok (.getfield 64, 3) := by decide +kernel
theorem d50_198 : decode prog_11_method_26_code 198 = .ok (.aload_n 0, 1) := by decide +kernel
theorem d50_199 : decode prog_11_method_26_code 199 = .ok (.getfield 161, 3) := by decide +kernel
theorem d50_202 : decode prog_11_method_26_code 202 = .ok (.iload 5, 2) := by decide +kernel
theorem d50_204 : decode prog_11_method_26_code 204 = .ok (.iastore, 1) := by decide +kernel
theorem d50_205 : decode prog_11_method_26_code 205 = .ok (.aload_n 0, 1) := by decide +kernel
theorem d50_206 : decode prog_11_method_26_code 206 = .ok (.dup, 1) := by decide +kernel
theorem d50_207 : decode prog_11_method_26_code 207 = .ok (.getfield 161, 3) := by decide +kernel
theorem d50_210 : decode prog_11_method_26_code 210 = .ok (.iconst 1, 1) := by decide +kernel
theorem d50_211 : decode prog_11_method_26_code 211 = .ok (.iadd, 1) := by decide +kernel
theorem d50_212 : decode prog_11_method_26_code 212 = .ok (.putfield 161, 3) := by decide +kernel
theorem d50_215 : decode prog_11_method_26_code 215 = .ok (.iload 5, 2) := by decide +kernel
theorem d50_217 : decode prog_11_method_26_code 217 = .ok (.istore_n 3, 1) := by decide +kernel
theorem d50_218 : decode prog_11_method_26_code 218 = .ok (.iinc 4 1, 3) := by decide +kernel
theorem d50_221 : decode prog_11_method_26_code 221 = .ok (.goto (-105), 3) := by decide +kernel
theorem d50_224 : decode prog_11_method_26_code 224 = .ok (.iinc 2 1, 3) := by decide +kernel
theorem d50_227 : decode prog_11_method_26_code 227 = .ok (.goto (-160), 3) := by decide +kernel
theorem d50_230 : decode prog_11_method_26_code 230 = .ok (.iconst 0, 1) := by decide +kernel
theorem d50_231 : decode prog_11_method_26_code 231 = .ok (.istore_n 2, 1) := by decide +kernel
theorem d50_232 : decode prog_11_method_26_code 232 = .ok (.iload_n 2, 1) := by decide +kernel
theorem d50_233 : decode prog_11_method_26_code 233 = .ok (.bipush 12, 2) := by decide +kernel
theorem d50_235 : decode prog_11_method_26_code 235 = .ok (.if_icmp .ge 16, 3) := by decide +kernel
theorem d50_238 : decode prog_11_method_26_code 238 = .ok (.aload_n 0, 1) := by decide +kernel
theorem d50_239 : decode prog_11_method_26_code 239 = .ok (.getfield 70, 3) := by decide +kernel
theorem d50_242 : decode prog_11_method_26_code 242 = .ok (.iload_n 2, 1) := by decide +kernel
theorem d50_243 : decode prog_11_method_26_code 243 = .ok (.iconst 0, 1) := by decide +kernel
theorem d50_244 : decode prog_11_method_26_code 244 = .ok (.iastore, 1) := by decide +kernel
theorem d50_245 : decode prog_11_method_26_code 245 = .ok (.iinc 2 1, 3) := by decide +kernel
theorem d50_248 : decode prog_11_method_26_code 248 = .ok (.goto (-16), 3) := by decide +kernel
theorem d50_251 : decode prog_11_method_26_code 251 = .ok (.iconst 0, 1) := by decide +kernel
theorem d50_252 : decode prog_11_method_26_code 252 = .ok (.istore_n 2, 1) := by decide +kernel
theorem d50_253 : decode prog_11_method_26_code 253 = .ok (.iload_n 2, 1) := by decide +kernel
theorem d50_254 : decode prog_11_method_26_code 254 = .ok (.bipush 80, 2) := by decide +kernel
theorem d50_256 : decode prog_11_method_26_code 256 = .ok (.if_icmp .ge 64, 3) := by decide +kernel
theorem d50_259 : decode prog_11_method_26_code 259 = .ok (.aload_n 0, 1) := by decide +kernel
theorem d50_260 : decode prog_11_method_26_code 260 = .ok (.getfield 55, 3) := by decide +kernel
theorem d50_263 : decode prog_11_method_26_code 263 = .ok (.iload_n 2, 1) := by decide +kernel
theorem d50_264 : decode prog_11_method_26_code 264 = .ok (.baload, 1) := by decide +kernel
theorem d50_265 : decode prog_11_method_26_code 265 = .ok (.ifCond .eq 49, 3) := by decide +kernel
theorem d50_268 : decode prog_11_method_26_code 268 = .ok (.aload_n 0, 1) := by decide +kernel
theorem d50_269 : decode prog_11_method_26_code 269 = .ok (.getfield 52, 3) := by decide +kernel
theorem d50_272 : decode prog_11_method_26_code 272 = .ok (.iload_n 2, 1) := by decide +kernel
theorem d50_273 : decode prog_11_method_26_code 273 = .ok (.iaload, 1) := by decide +kernel
theorem d50_274 : decode prog_11_method_26_code 274 = .ok (.istore_n 3, 1) := by decide +kernel
theorem d50_275 : decode prog_11_method_26_code 275 = .ok (.aload_n 0, 1) := by decide +kernel
theorem d50_276 : decode prog_11_method_26_code 276 = .ok (.getfield 67, 3) := by decide +kernel
theorem d50_279 : decode prog_11_method_26_code 279 = .ok (.bipush 80, 2) := by decide +kernel
theorem d50_281 : decode prog_11_method_26_code 281 = .ok (.iload_n 3, 1) := by decide +kernel
theorem d50_282 : decode prog_11_method_26_code 282 = .ok (.imul, 1) := by decide +kernel
theorem d50_283 : decode prog_11_method_26_code 283 = .ok (.aload_n 0, 1) := by decide +kernel
theorem d50_284 : decode prog_11_method_26_code 284 = .ok (.getfield 70, 3) := by decide +kernel
theorem d50_287 : decode prog_11_method_26_code 287 = .ok (.iload_n 3, 1) := by decide +kernel
theorem d50_288 : decode prog_11_method_26_code 288 = .ok (.iaload, 1) := by decide +kernel
theorem d50_289 : decode prog_11_method_26_code 289 = .ok (.iadd, 1) := by decide +kernel
theorem d50_290 : decode prog_11_method_26_code 290 = .ok (.iload_n 2, 1) := by decide +kernel
theorem d50_291 : decode prog_11_method_26_code 291 = .ok (.iastore, 1) := by decide +kernel
theorem d50_292 : decode prog_11_method_26_code 292 = .ok (.aload_n 0, 1) := by decide +kernel
theorem d50_293 : decode prog_11_method_26_code 293 = .ok (.getfield 73, 3) := by decide +kernel
theorem d50_296 : decode prog_11_method_26_code 296 = .ok (.iload_n 2, 1) := by decide +kernel
theorem d50_297 : decode prog_11_method_26_code 297 = .ok (.aload_n 0, 1) := by decide +kernel
theorem d50_298 : decode prog_11_method_26_code 298 = .ok (.getfield 70, 3) := by decide +kernel
theorem d50_301 : decode prog_11_method_26_code 301 = .ok (.iload_n 3, 1) := by decide +kernel
theorem d50_302 : decode prog_11_method_26_code 302 = .ok (.iaload, 1) := by decide +kernel
theorem d50_303 : decode prog_11_method_26_code 303 = .ok (.iastore, 1) := by decide +kernel
theorem d50_304 : decode prog_11_method_26_code 304 = .ok (.aload_n 0, 1) := by decide +kernel
theorem d50_305 : decode prog_11_method_26_code 305 = .ok (.getfield 70, 3) := by decide +kernel
theorem d50_308 : decode prog_11_method_26_code 308 = .ok (.iload_n 3, 1) := by decide +kernel
theorem d50_309 : decode prog_11_method_26_code 309 = .ok (.dup2, 1) := by decide +kernel
theorem d50_310 : decode prog_11_method_26_code 310 = .ok (.iaload, 1) := by decide +kernel
theorem d50_311 : decode prog_11_method_26_code 311 = .ok (.iconst 1, 1) := by decide +kernel
theorem d50_312 : decode prog_11_method_26_code 312 = .ok (.iadd, 1) := by decide +kernel
theorem d50_313 : decode prog_11_method_26_code 313 = .ok (.iastore, 1) := by decide +kernel
theorem d50_314 : decode prog_11_method_26_code 314 = .ok (.iinc 2 1, 3) := by decide +kernel
theorem d50_317 : decode prog_11_method_26_code 317 = .ok (.goto (-64), 3) := by decide +kernel
theorem d50_320 : decode prog_11_method_26_code 320 = .ok (.return_, 1) := by decide +kernel
theorem d51_0 : decode prog_11_method_27_code 0 = .ok (.iconst 0, 1) := by decide +kernel
theorem d51_1 : decode prog_11_method_27_code 1 = .ok (.istore_n 1, 1) := by decide +kernel
theorem d51_2 : decode prog_11_method_27_code 2 = .ok (.iconst 0, 1) := by decide +kernel
theorem d51_3 : decode prog_11_method_27_code 3 = .ok (.istore_n 2, 1) := by decide +kernel
theorem d51_4 : decode prog_11_method_27_code 4 = .ok (.iload_n 2, 1) := by decide +kernel
theorem d51_5 : decode prog_11_method_27_code 5 = .ok (.aload_n 0, 1) := by decide +kernel
theorem d51_6 : decode prog_11_method_27_code 6 = .ok (.getfield 161, 3) := by decide +kernel
theorem d51_9 : decode prog_11_method_27_code 9 = .ok (.if_icmp .ge 120, 3) := by decide +kernel
theorem d51_12 : decode prog_11_method_27_code 12 = .ok (.iconst 0, 1) := by decide +kernel
theorem d51_13 : decode prog_11_method_27_code 13 = .ok (.istore_n 3, 1) := by decide +kernel
theorem d51_14 : decode prog_11_method_27_code 14 = .ok (.iload_n 3, 1) := by decide +kernel
theorem d51_15 : decode prog_11_method_27_code 15 = .ok (.aload_n 0, 1) := by decide +kernel
theorem d51_16 : decode prog_11_method_27_code 16 = .ok (.getfield 161, 3) := by decide +kernel
theorem d51_19 : decode prog_11_method_27_code 19 = .ok (.if_icmp .ge 104, 3) := by decide +kernel
theorem d51_22 : decode prog_11_method_27_code 22 = .ok (.aload_n 0, 1) := by decide +kernel
theorem d51_23 : decode prog_11_method_27_code 23 = .ok (.getfield 52, 3) := by decide +kernel
theorem d51_26 : decode prog_11_method_27_code 26 = .ok (.aload_n 0, 1) := by decide +kernel
theorem d51_27 : decode prog_11_method_27_code 27 = .ok (.getfield 61, 3) := by decide +kernel
theorem d51_30 : decode prog_11_method_27_code 30 = .ok (.iload_n 2, 1) := by decide +kernel
theorem d51_31 : decode prog_11_method_27_code 31 = .ok (.iaload, 1) := by decide +kernel
theorem d51_32 : decode prog_11_method_27_code 32 = .ok (.iaload, 1) := by decide +kernel
theorem d51_33 : decode prog_11_method_27_code 33 = .ok (.aload_n 0, 1) := by decide +kernel
theorem d51_34 : decode prog_11_method_27_code 34 = .ok (.getfield 52, 3) := by decide +kernel
theorem d51_37 : decode prog_11_method_27_code 37 = .ok (.aload_n 0, 1) := by decide +kernel
theorem d51_38 : decode prog_11_method_27_code 38 = .ok (.getfield 61, 3) := by decide +kernel
theorem d51_41 : decode prog_11_method_27_code 41 = .ok (.iload_n 3, 1) := by decide +kernel
theorem d51_42 : decode prog_11_method_27_code 42 = .ok (.iaload, 1) := by decide +kernel
theorem d51_43 : decode prog_11_method_27_code 43 = .ok (.iaload, 1) := by decide +kernel
theorem d51_44 : decode prog_11_method_27_code 44 = .ok (.if_icmp .ne 7, 3) := by decide +kernel
theorem d51_47 : decode prog_11_method_27_code 47 = .ok (.iconst 1, 1) := by decide +kernel
theorem d51_48 : decode prog_11_method_27_code 48 = .ok (.goto 4, 3) := by decide +kernel
theorem d51_51 : decode prog_11_method_27_code 51 = .ok (.iconst 0, 1) := by decide +kernel
theorem d51_52 : decode prog_11_method_27_code 52 = .ok (.istore 4, 2) := by decide +kernel
theorem d51_54 : decode prog_11_method_27_code 54 = .ok (.iload_n 1, 1) := by decide +kernel
theorem d51_55 : decode prog_11_method_27_code 55 = .ok (.iload 4, 2) := by decide +kernel
theorem d51_57 : decode prog_11_method_27_code 57 = .ok (.ifCond .eq 57, 3) := by decide +kernel
theorem d51_60 : decode prog_11_method_27_code 60 = .ok (.aload_n 0, 1) := by decide +kernel
theorem d51_61 : decode prog_11_method_27_code 61 = .ok (.getfield 73, 3) := by decide +kernel
theorem d51_64 : decode prog_11_method_27_code 64 = .ok (.aload_n 0, 1) := by decide +kernel
theorem d51_65 : decode prog_11_method_27_code 65 = .ok (.getfield 61, 3) := by decide +kernel
theorem d51_68 : decode prog_11_method_27_code 68 = .ok (.iload_n 2, 1) := by decide +kernel
theorem d51_69 : decode prog_11_method_27_code 69 = .ok (.iaload, 1) := by decide +kernel
theorem d51_70 : decode prog_11_method_27_code 70 = .ok (.iaload, 1) := by decide +kernel
theorem d51_71 : decode prog_11_method_27_code 71 = .ok (.aload_n 0, 1) := by decide +kernel
theorem d51_72 : decode prog_11_method_27_code 72 = .ok (.getfield 73, 3) := by decide +kernel
theorem d51_75 : decode prog_11_method_27_code 75 = .ok (.aload_n 0, 1) := by decide +kernel
theorem d51_76 : decode prog_11_method_27_code 76 = .ok (.getfield 61, 3) := by decide +kernel
theorem d51_79 : decode prog_11_method_27_code 79 = .ok (.iload_n 3, 1) := by decide +kernel
theorem d51_80 : decode prog_11_method_27_code 80 = .ok (.iaload, 1) := by decide +kernel
theorem d51_81 : decode prog_11_method_27_code 81 = .ok (.iaload, 1) := by decide +kernel
theorem d51_82 : decode prog_11_method_27_code 82 = .ok (.if_icmp .ge 32, 3) := by decide +kernel
theorem d51_85 : decode prog_11_method_27_code 85 = .ok (.aload_n 0, 1) := by decide +kernel
theorem d51_86 : decode prog_11_method_27_code 86 = .ok (.getfield 73, 3) := by decide +kernel
theorem d51_89 : decode prog_11_method_27_code 89 = .ok (.aload_n 0, 1) := by decide +kernel
theorem d51_90 : decode prog_11_method_27_code 90 = .ok (.getfield 64, 3) := by decide +kernel
theorem d51_93 : decode prog_11_method_27_code 93 = .ok (.iload_n 2, 1) := by decide +kernel
theorem d51_94 : decode prog_11_method_27_code 94 = .ok (.iaload, 1) := by decide +kernel
theorem d51_95 : decode prog_11_method_27_code 95 = .ok (.iaload, 1) := by decide +kernel
theorem d51_96 : decode prog_11_method_27_code 96 = .ok (.aload_n 0, 1) := by decide +kernel
theorem d51_97 : decode prog_11_method_27_code 97 = .ok (.getfield 73, 3) := by decide +kernel
theorem d51_100 : decode prog_11_method_27_code 100 = .ok (.aload_n 0, 1) := by decide +kernel
theorem d51_101 : decode prog_11_method_27_code 101 = .ok (.getfield 64, 3) := by decide +kernel
theorem d51_104 : decode prog_11_method_27_code 104 = .ok (.iload_n 3, 1) := by decide +kernel
theorem d51_105 : decode prog_11_method_27_code 105 = .ok (.iaload, 1) := by decide +kernel
theorem d51_106 : decode prog_11_method_27_code 106 = .ok (.iaload, 1) := by decide +kernel
theorem d51_107 : decode prog_11_method_27_code 107 = .ok (.if_icmp .le 7, 3) := by decide +kernel
theorem d51_110 : decode prog_11_method_27_code 110 = .ok (.iconst 1, 1) := by decide +kernel
theorem d51_111 : decode prog_11_method_27_code 111 = .ok (.goto 4, 3) := by decide +kernel
theorem d51_114 : decode prog_11_method_27_code 114 = .ok (.iconst 0, 1) := by decide +kernel
theorem d51_115 : decode prog_11_method_27_code 115 = .ok (.iadd, 1) := by decide +kernel
theorem d51_116 : decode prog_11_method_27_code 116 = .ok (.istore_n 1, 1) := by decide +kernel
theorem d51_117 : decode prog_11_method_27_code 117 = .ok (.iinc 3 1, 3) := by decide +kernel
theorem d51_120 : decode prog_11_method_27_code 120 = .ok (.goto (-106), 3) := by decide +kernel
theorem d51_123 : decode prog_11_method_27_code 123 = .ok (.iinc 2 1, 3) := by decide +kernel
theorem d51_126 : decode prog_11_method_27_code 126 = .ok (.goto (-122), 3) := by decide +kernel
theorem d51_129 : decode prog_11_method_27_code 129 = .ok (.iload_n 1, 1) := by decide +kernel
theorem d51_130 : decode prog_11_method_27_code 130 = .ok (.ireturn, 1) := by decide +kernel
theorem d52_0 : decode prog_11_method_28_code 0 = .ok (.iconst 0, 1) := by decide +kernel
theorem d52_1 : decode prog_11_method_28_code 1 = .ok (.istore_n 3, 1) := by decide +kernel
theorem d52_2 : decode prog_11_method_28_code 2 = .ok (.iload_n 3, 1) := by decide +kernel
theorem d52_3 : decode prog_11_method_28_code 3 = .ok (.aload_n 0, 1) := by decide +kernel
theorem d52_4 : decode prog_11_method_28_code 4 = .ok (.getfield 70, 3) := by decide +kernel
theorem d52_7 : decode prog_11_method_28_code 7 = .ok (.iload_n 1, 1) := by decide +kernel
theorem d52_8 : decode prog_11_method_28_code 8 = .ok (.iaload, 1) := by decide +kernel
theorem d52_9 : decode prog_11_method_28_code 9 = .ok (.if_icmp .ge 159, 3) := by decide +kernel
theorem d52_12 : decode prog_11_method_28_code 12 = .ok (.aload_n 0, 1) := by decide +kernel
theorem d52_13 : decode prog_11_method_28_code 13 = .ok (.getfield 67, 3) := by decide +kernel
theorem d52_16 : decode prog_11_method_28_code 16 = .ok (.bipush 80, 2) := by decide +kernel
theorem d52_18 : decode prog_11_method_28_code 18 = .ok (.iload_n 1, 1) := by decide +kernel
theorem d52_19 : decode prog_11_method_28_code 19 = .ok (.imul, 1) := by decide +kernel
theorem d52_20 : decode prog_11_method_28_code 20 = .ok (.iload_n 3, 1) := by decide +kernel
theorem d52_21 : decode prog_11_method_28_code 21 = .ok (.iadd, 1) := by decide +kernel
theorem d52_22 : decode prog_11_method_28_code 22 = .ok (.iaload, 1) := by decide +kernel
theorem d52_23 : decode prog_11_method_28_code 23 = .ok (.istore 4, 2) := by decide +kernel
theorem d52_25 : decode prog_11_method_28_code 25 = .ok (.aload_n 0, 1) := by decide +kernel
theorem d52_26 : decode prog_11_method_28_code 26 = .ok (.getfield 82, 3) := by decide +kernel
theorem d52_29 : decode prog_11_method_28_code 29 = .ok (.iload 4, 2) := by decide +kernel
theorem d52_31 : decode prog_11_method_28_code 31 = .ok (.iconst 0, 1) := by decide +kernel
theorem d52_32 : decode prog_11_method_28_code 32 = .ok (.iastore, 1) := by decide +kernel
theorem d52_33 : decode prog_11_method_28_code 33 = .ok (.aload_n 0, 1) := by decide +kernel
theorem d52_34 : decode prog_11_method_28_code 34 = .ok (.getfield 85, 3) := by decide +kernel
theorem d52_37 : decode prog_11_method_28_code 37 = .ok (.iload 4, 2) := by decide +kernel
theorem d52_39 : decode prog_11_method_28_code 39 = .ok (.iconst 0, 1) := by decide +kernel
theorem d52_40 : decode prog_11_method_28_code 40 = .ok (.iastore, 1) := by decide +kernel
theorem d52_41 : decode prog_11_method_28_code 41 = .ok (.iconst 0, 1) := by decide +kernel
theorem d52_42 : decode prog_11_method_28_code 42 = .ok (.istore 5, 2) := by decide +kernel
theorem d52_44 : decode prog_11_method_28_code 44 = .ok (.iload 5, 2) := by decide +kernel
theorem d52_46 : decode prog_11_method_28_code 46 = .ok (.aload_n 0, 1) := by decide +kernel
theorem d52_47 : decode prog_11_method_28_code 47 = .ok (.getfield 161, 3) := by decide +kernel
theorem d52_50 : decode prog_11_method_28_code 50 = .ok (.if_icmp .ge 86, 3) := by decide +kernel
theorem d52_53 : decode prog_11_method_28_code 53 = .ok (.iload_n 2, 1) := by decide +kernel
theorem d52_54 : decode prog_11_method_28_code 54 = .ok (.ifCond .eq 13, 3) := by decide +kernel
theorem d52_57 : decode prog_11_method_28_code 57 = .ok (.aload_n 0, 1) := by decide +kernel
theorem d52_58 : decode prog_11_method_28_code 58 = .ok (.getfield 64, 3) := by decide +kernel
theorem d52_61 : decode prog_11_method_28_code 61 = .ok (.iload 5, 2) := by decide +kernel
theorem d52_63 : decode prog_11_method_28_code 63 = .ok (.iaload, 1) := by decide +kernel
theorem d52_64 : decode prog_11_method_28_code 64 = .ok (.goto 10, 3) := by decide +kernel
theorem d52_67 : decode prog_11_method_28_code 67 = .ok (.aload_n 0, 1) := by decide +kernel
theorem d52_68 : decode prog_11_method_28_code 68 = .ok (.getfield 61, 3) := by decide +kernel
theorem d52_71 : decode prog_11_method_28_code 71 = .ok (.iload 5, 2) := by decide +kernel
theorem d52_73 : decode prog_11_method_28_code 73 = .ok (.iaload, 1) := by decide +kernel
theorem d52_74 : decode prog_11_method_28_code 74 = .ok (.istore 6, 2) := by decide +kernel
theorem d52_76 : decode prog_11_method_28_code 76 = .ok (.iload 6, 2) := by decide +kernel
theorem d52_78 : decode prog_11_method_28_code 78 = .ok (.iload 4, 2) := by decide +kernel
theorem d52_80 : decode prog_11_method_28_code 80 = .ok (.if_icmp .ne 50, 3) := by decide +kernel
theorem d52_83 : decode prog_11_method_28_code 83 = .ok (.aload_n 0, 1) := by decide +kernel
theorem d52_84 : decode prog_11_method_28_code 84 = .ok (.getfield 82, 3) := by decide +kernel
theorem d52_87 : decode prog_11_method_28_code 87 = .ok (.iload 4, 2) := by decide +kernel
theorem d52_89 : decode prog_11_method_28_code 89 = .ok (.dup2, 1) := by decide +kernel
theorem d52_90 : decode prog_11_method_28_code 90 = .ok (.iaload, 1) := by decide +kernel
theorem d52_91 : decode prog_11_method_28_code 91 = .ok (.aload_n 0, 1) := by decide +kernel
theorem d52_92 : decode prog_11_method_28_code 92 = .ok (.getfield 73, 3) := by decide +kernel
theorem d52_95 : decode prog_11_method_28_code 95 = .ok (.iload_n 2, 1) := by decide +kernel
theorem d52_96 : decode prog_11_method_28_code 96 = .ok (.ifCond .eq 13, 3) := by decide +kernel
theorem d52_99 : decode prog_11_method_28_code 99 = .ok (.aload_n 0, 1) := by decide +kernel
theorem d52_100 : decode prog_11_method_28_code 100 = .ok (.getfield 61, 3) := by decide +kernel
theorem d52_103 : decode prog_11_method_28_code 103 = .ok (.iload 5, 2) := by decide +kernel
theorem d52_105 : decode prog_11_method_28_code 105 = .ok (.iaload, 1) := by decide +kernel
theorem d52_106 : decode prog_11_method_28_code 106 = .ok (.goto 10, 3) := by decide +kernel
theorem d52_109 : decode prog_11_method_28_code 109 = .ok (.aload_n 0, 1) := by decide +kernel
theorem d52_110 : decode prog_11_method_28_code 110 = .ok (.getfield 64, 3) := by decide +kernel
theorem d52_113 : decode prog_11_method_28_code 113 = .ok (.iload 5, 2) := by decide +kernel
theorem d52_115 : decode prog_11_method_28_code 115 = .ok (.iaload, 1) := by decide +kernel
theorem d52_116 : decode prog_11_method_28_code 116 = .ok (.iaload, 1) := by decide +kernel
theorem d52_117 : decode prog_11_method_28_code 117 = .ok (.iadd, 1) := by decide +kernel
theorem d52_118 : decode prog_11_method_28_code 118 = .ok (.iastore, 1) := by decide +kernel
theorem d52_119 : decode prog_11_method_28_code 119 = .ok (.aload_n 0, 1) := by decide +kernel
theorem d52_120 : decode prog_11_method_28_code 120 = .ok (.getfield 85, 3) := by decide +kernel
theorem d52_123 : decode prog_11_method_28_code 123 = .ok (.iload 4, 2) := by decide +kernel
theorem d52_125 : decode prog_11_method_28_code 125 = .ok (.dup2, 1) := by decide +kernel
theorem d52_126 : decode prog_11_method_28_code 126 = .ok (.iaload, 1) := by decide +kernel
theorem d52_127 : decode prog_11_method_28_code 127 = .ok (.iconst 1, 1) := by decide +kernel
theorem d52_128 : decode prog_11_method_28_code 128 = .ok (.iadd, 1) := by decide +kernel
theorem d52_129 : decode prog_11_method_28_code 129 = .ok (.iastore, 1) := by decide +kernel
theorem d52_130 : decode prog_11_method_28_code 130 = .ok (.iinc 5 1, 3) := by decide +kernel
theorem d52_133 : decode prog_11_method_28_code 133 = .ok (.goto (-89), 3) := by decide +kernel
theorem d52_136 : decode prog_11_method_28_code 136 = .ok (.aload_n 0, 1) := by decide +kernel
theorem d52_137 : decode prog_11_method_28_code 137 = .ok (.getfield 85, 3) := by decide +kernel
theorem d52_140 : decode prog_11_method_28_code 140 = .ok (.iload 4, 2) := by decide +kernel
theorem d52_142 : decode prog_11_method_28_code 142 = .ok (.iaload, 1) := by decide +kernel
theorem d52_143 : decode prog_11_method_28_code 143 = .ok (.ifCond .ne 19, 3) := by decide +kernel
theorem d52_146 : decode prog_11_method_28_code 146 = .ok (.aload_n 0, 1) := by decide +kernel
theorem d52_147 : decode prog_11_method_28_code 147 = .ok (.getfield 82, 3) := by decide +kernel
theorem d52_150 : decode prog_11_method_28_code 150 = .ok (.iload 4, 2) := by decide +kernel
theorem d52_152 : decode prog_11_method_28_code 152 = .ok (.iload_n 3, 1) := by decide +kernel
theorem d52_153 : decode prog_11_method_28_code 153 = .ok (.iastore, 1) := by decide +kernel
theorem d52_154 : decode prog_11_method_28_code 154 = .ok (.aload_n 0, 1) := by decide +kernel
theorem d52_155 : decode prog_11_method_28_code 155 = .ok (.getfield 85, 3) := by decide +kernel
theorem d52_158 : decode prog_11_method_28_code 158 = .ok (.iload 4, 2) := by decide +kernel
theorem d52_160 : decode prog_11_method_28_code 160 = .ok (.iconst 1, 1) := by decide +kernel
theorem d52_161 : decode prog_11_method_28_code 161 = .ok (.iastore, 1) := by decide +kernel
theorem d52_162 : decode prog_11_method_28_code 162 = .ok (.iinc 3 1, 3) := by decide +kernel
theorem d52_165 : decode prog_11_method_28_code 165 = .ok (.goto (-163), 3) := by decide +kernel
theorem d52_168 : decode prog_11_method_28_code 168 = .ok (.iconst 1, 1) := by decide +kernel
theorem d52_169 : decode prog_11_method_28_code 169 = .ok (.istore_n 3, 1) := by decide +kernel
theorem d52_170 : decode prog_11_method_28_code 170 = .ok (.iload_n 3, 1) := by decide +kernel
theorem d52_171 : decode prog_11_method_28_code 171 = .ok (.aload_n 0, 1) := by decide +kernel
theorem d52_172 : decode prog_11_method_28_code 172 = .ok (.getfield 70, 3) := by decide +kernel
theorem d52_175 : decode prog_11_method_28_code 175 = .ok (.iload_n 1, 1) := by decide +kernel
theorem d52_176 : decode prog_11_method_28_code 176 = .ok (.iaload, 1) := by decide +kernel
theorem d52_177 : decode prog_11_method_28_code 177 = .ok (.if_icmp .ge 133, 3) := by decide +kernel
theorem d52_180 : decode prog_11_method_28_code 180 = .ok (.aload_n 0, 1) := by decide +kernel
theorem d52_181 : decode prog_11_method_28_code 181 = .ok (.getfield 67, 3) := by decide +kernel
theorem d52_184 : decode prog_11_method_28_code 184 = .ok (.bipush 80, 2) := by decide +kernel
theorem d52_186 : decode prog_11_method_28_code 186 = .ok (.iload_n 1, 1) := by decide +kernel
theorem d52_187 : decode prog_11_method_28_code 187 = .ok (.imul, 1) := by decide +kernel
theorem d52_188 : decode prog_11_method_28_code 188 = .ok (.iload_n 3, 1) := by decide +kernel
theorem d52_189 : decode prog_11_method_28_code 189 = .ok (.iadd, 1) := by decide +kernel
theorem d52_190 : decode prog_11_method_28_code 190 = .ok (.iaload, 1) := by decide +kernel
theorem d52_191 : decode prog_11_method_28_code 191 = .ok (.istore 4, 2) := by decide +kernel
theorem d52_193 : decode prog_11_method_28_code 193 = .ok (.iload_n 3, 1) := by decide +kernel
theorem d52_194 : decode prog_11_method_28_code 194 = .ok (.istore 5, 2) := by decide +kernel
theorem d52_196 : decode prog_11_method_28_code 196 = .ok (.iload 5, 2) := by decide +kernel
theorem d52_198 : decode prog_11_method_28_code 198 = .ok (.ifCond .le 92, 3) := by decide +kernel
theorem d52_201 : decode prog_11_method_28_code 201 = .ok (.aload_n 0, 1) := by decide +kernel
theorem d52_202 : decode prog_11_method_28_code 202 = .ok (.getfield 82, 3) := by decide +kernel
theorem d52_205 : decode prog_11_method_28_code 205 = .ok (.aload_n 0, 1) := by decide +kernel
theorem d52_206 : decode prog_11_method_28_code 206 = .ok (.getfield 67, 3) := by decide +kernel
theorem d52_209 : decode prog_11_method_28_code 209 = .ok (.bipush 80, 2) := by decide +kernel
theorem d52_211 : decode prog_11_method_28_code 211 = .ok (.iload_n 1, 1) := by decide +kernel
theorem d52_212 : decode prog_11_method_28_code 212 = .ok (.imul, 1) := by decide +kernel
theorem d52_213 : decode prog_11_method_28_code 213 = .ok (.iload 5, 2) := by decide +kernel
theorem d52_215 : decode prog_11_method_28_code 215 = .ok (.iadd, 1) := by decide +kernel
theorem d52_216 : decode prog_11_method_28_code 216 = .ok (.iconst 1, 1) := by decide +kernel
theorem d52_217 : decode prog_11_method_28_code 217 = .ok (.isub, 1) := by decide +kernel
theorem d52_218 : decode prog_11_method_28_code 218 = .ok (.iaload, 1) := by decide +kernel
theorem d52_219 : decode prog_11_method_28_code 219 = .ok (.iaload, 1) := by decide +kernel
theorem d52_220 : decode prog_11_method_28_code 220 = .ok (.aload_n 0, 1) := by decide +kernel
theorem d52_221 : decode prog_11_method_28_code 221 = .ok (.getfield 85, 3) := by decide +kernel
theorem d52_224 : decode prog_11_method_28_code 224 = .ok (.iload 4, 2) := by decide +kernel
theorem d52_226 : decode prog_11_method_28_code 226 = .ok (.iaload, 1) := by decide +kernel
theorem d52_227 : decode prog_11_method_28_code 227 = .ok (.imul, 1) := by decide +kernel
theorem d52_228 : decode prog_11_method_28_code 228 = .ok (.aload_n 0, 1) := by decide +kernel
theorem d52_229 : decode prog_11_method_28_code 229 = .ok (.getfield 82, 3) := by decide +kernel
theorem d52_232 : decode prog_11_method_28_code 232 = .ok (.iload 4, 2) := by decide +kernel
theorem d52_234 : decode prog_11_method_28_code 234 = .ok (.iaload, 1) := by decide +kernel
theorem d52_235 : decode prog_11_method_28_code 235 = .ok (.aload_n 0, 1) := by decide +kernel
theorem d52_236 : decode prog_11_method_28_code 236 = .ok (.getfield 85, 3) := by decide +kernel
theorem d52_239 : decode prog_11_method_28_code 239 = .ok (.aload_n 0, 1) := by decide +kernel
theorem d52_240 : decode prog_11_method_28_code 240 = .ok (.getfield 67, 3) := by decide +kernel
theorem d52_243 : decode prog_11_method_28_code 243 = .ok (.bipush 80, 2) := by decide +kernel
theorem d52_245 : decode prog_11_method_28_code 245 = .ok (.iload_n 1, 1) := by decide +kernel
theorem d52_246 : decode prog_11_method_28_code 246 = .ok (.imul, 1) := by decide +kernel
theorem d52_247 : decode prog_11_method_28_code 247 = .ok (.iload 5, 2) := by decide +kernel
theorem d52_249 : decode prog_11_method_28_code 249 = .ok (.iadd, 1) := by decide +kernel
theorem d52_250 : decode prog_11_method_28_code 250 = .ok (.iconst 1, 1) := by decide +kernel
theorem d52_251 : decode prog_11_method_28_code 251 = .ok (.isub, 1) := by decide +kernel
theorem d52_252 : decode prog_11_method_28_code 252 = .ok (.iaload, 1) := by decide +kernel
theorem d52_253 : decode prog_11_method_28_code 253 = .ok (.iaload, 1) := by decide +kernel
theorem d52_254 : decode prog_11_method_28_code 254 = .ok (.imul, 1) := by decide +kernel
theorem d52_255 : decode prog_11_method_28_code 255 = .ok (.if_icmp .le 35, 3) := by decide +kernel
theorem d52_258 : decode prog_11_method_28_code 258 = .ok (.aload_n 0, 1) := by decide +kernel
theorem d52_259 : decode prog_11_method_28_code 259 = .ok (.getfield 67, 3) := by decide +kernel
theorem d52_262 : decode prog_11_method_28_code 262 = .ok (.bipush 80, 2) := by decide +kernel
theorem d52_264 : decode prog_11_method_28_code 264 = .ok (.iload_n 1, 1) := by decide +kernel
theorem d52_265 : decode prog_11_method_28_code 265 = .ok (.imul, 1) := by decide +kernel
theorem d52_266 : decode prog_11_method_28_code 266 = .ok (.iload 5, 2) := by decide +kernel
theorem d52_268 : decode prog_11_method_28_code 268 = .ok (.iadd, 1) := by decide +kernel
theorem d52_269 : decode prog_11_method_28_code 269 = .ok (.aload_n 0, 1) := by decide +kernel
theorem d52_270 : decode prog_11_method_28_code 270 = .ok (.getfield 67, 3) := by decide +kernel
theorem d52_273 : decode prog_11_method_28_code 273 = .ok (.bipush 80, 2) := by decide +kernel
theorem d52_275 : decode prog_11_method_28_code 275 = .ok (.iload_n 1, 1) := by decide +kernel
theorem d52_276 : decode prog_11_method_28_code 276 = .ok (.imul, 1) := by decide +kernel
theorem d52_277 : decode prog_11_method_28_code 277 = .ok (.iload 5, 2) := by decide +kernel
theorem d52_279 : decode prog_11_method_28_code 279 = .ok (.iadd, 1) := by decide +kernel
theorem d52_280 : decode prog_11_method_28_code 280 = .ok (.iconst 1, 1) := by decide +kernel
theorem d52_281 : decode prog_11_method_28_code 281 = .ok (.isub, 1) := by decide +kernel
theorem d52_282 : decode prog_11_method_28_code 282 = .ok (.iaload, 1) := by decide +kernel
theorem d52_283 : decode prog_11_method_28_code 283 = .ok (.iastore, 1) := by decide +kernel
theorem d52_284 : decode prog_11_method_28_code 284 = .ok (.iinc 5 (-1), 3) := by decide +kernel
theorem d52_287 : decode prog_11_method_28_code 287 = .ok (.goto (-91), 3) := by decide +kernel
theorem d52_290 : decode prog_11_method_28_code 290 = .ok (.aload_n 0, 1) := by decide +kernel
theorem d52_291 : decode prog_11_method_28_code 291 = .ok (.getfield 67, 3) := by decide +kernel
theorem d52_294 : decode prog_11_method_28_code 294 = .ok (.bipush 80, 2) := by decide +kernel
theorem d52_296 : decode prog_11_method_28_code 296 = .ok (.iload_n 1, 1) := by decide +kernel
theorem d52_297 : decode prog_11_method_28_code 297 = .ok (.imul, 1) := by decide +kernel
theorem d52_298 : decode prog_11_method_28_code 298 = .ok (.iload 5, 2) := by decide +kernel
theorem d52_300 : decode prog_11_method_28_code 300 = .ok (.iadd, 1) := by decide +kernel
theorem d52_301 : decode prog_11_method_28_code 301 = .ok (.iload 4, 2) := by decide +kernel
theorem d52_303 : decode prog_11_method_28_code 303 = .ok (.iastore, 1) := by decide +kernel
theorem d52_304 : decode prog_11_method_28_code 304 = .ok (.iinc 3 1, 3) := by decide +kernel
theorem d52_307 : decode prog_11_method_28_code 307 = .ok (.goto (-137), 3) := by decide +kernel
theorem d52_310 : decode prog_11_method_28_code 310 = .ok (.aload_n 0, 1) := by decide +kernel
theorem d52_311 : decode prog_11_method_28_code 311 = .ok (.iload_n 1, 1) := by decide +kernel
theorem d52_312 : decode prog_11_method_28_code 312 = .ok (.invokevirtual 164, 3) := by decide +kernel
theorem d52_315 : decode prog_11_method_28_code 315 = .ok (.return_, 1) := by decide +kernel
theorem d53_0 : decode prog_11_method_29_code 0 = .ok (.iconst 0, 1) := by decide +kernel
theorem d53_1 : decode prog_11_method_29_code 1 = .ok (.istore_n 2, 1) := by decide +kernel
theorem d53_2 : decode prog_11_method_29_code 2 = .ok (.iload_n 2, 1) := by decide +kernel
theorem d53_3 : decode prog_11_method_29_code 3 = .ok (.aload_n 0, 1) := by decide +kernel
theorem d53_4 : decode prog_11_method_29_code 4 = .ok (.getfield 70, 3) := by decide +kernel
theorem d53_7 : decode prog_11_method_29_code 7 = .ok (.iload_n 1, 1) := by decide +kernel
theorem d53_8 : decode prog_11_method_29_code 8 = .ok (.iaload, 1) := by decide +kernel
theorem d53_9 : decode prog_11_method_29_code 9 = .ok (.if_icmp .ge 26, 3) := by decide +kernel
theorem d53_12 : decode prog_11_method_29_code 12 = .ok (.aload_n 0, 1) := by decide +kernel
theorem d53_13 : decode prog_11_method_29_code 13 = .ok (.getfield 73, 3) := by decide +kernel
theorem d53_16 : decode prog_11_method_29_code 16 = .ok (.aload_n 0, 1) := by decide +kernel
theorem d53_17 : decode prog_11_method_29_code 17 = .ok (.getfield 67, 3) := by decide +kernel
theorem d53_20 : decode prog_11_method_29_code 20 = .ok (.bipush 80, 2) := by decide +kernel
theorem d53_22 : decode prog_11_method_29_code 22 = .ok (.iload_n 1, 1) := by decide +kernel
theorem d53_23 : decode prog_11_method_29_code 23 = .ok (.imul, 1) := by decide +kernel
theorem d53_24 : decode prog_11_method_29_code 24 = .ok (.iload_n 2, 1) := by decide +kernel
theorem d53_25 : decode prog_11_method_29_code 25 = .ok (.iadd, 1) := by decide +kernel
theorem d53_26 : decode prog_11_method_29_code 26 = .ok (.iaload, 1) := by decide +kernel
theorem d53_27 : decode prog_11_method_29_code 27 = .ok (.iload_n 2, 1) := by decide +kernel
theorem d53_28 : decode prog_11_method_29_code 28 = .ok (.iastore, 1) := by decide +kernel
theorem d53_29 : decode prog_11_method_29_code 29 = .ok (.iinc 2 1, 3) := by decide +kernel
theorem d53_32 : decode prog_11_method_29_code 32 = .ok (.goto (-30), 3) := by decide +kernel
theorem d53_35 : decode prog_11_method_29_code 35 = .ok (.return_, 1) := by decide +kernel
theorem d54_0 : decode prog_11_method_30_code 0 = .ok (.aload_n 0, 1) := by decide +kernel
theorem d54_1 : decode prog_11_method_30_code 1 = .ok (.iload_n 1, 1) := by decide +kernel
theorem d54_2 : decode prog_11_method_30_code 2 = .ok (.putfield 168, 3) := by decide +kernel
theorem d54_5 : decode prog_11_method_30_code 5 = .ok (.aload_n 0, 1) := by decide +kernel
theorem d54_6 : decode prog_11_method_30_code 6 = .ok (.iload_n 2, 1) := by decide +kernel
theorem d54_7 : decode prog_11_method_30_code 7 = .ok (.putfield 171, 3) := by decide +kernel
theorem d54_10 : decode prog_11_method_30_code 10 = .ok (.iconst 0, 1) := by decide +kernel
theorem d54_11 : decode prog_11_method_30_code 11 = .ok (.istore_n 3, 1) := by decide +kernel
theorem d54_12 : decode prog_11_method_30_code 12 = .ok (.iload_n 3, 1) := by decide +kernel
theorem d54_13 : decode prog_11_method_30_code 13 = .ok (.sipush 960, 3) := by decide +kernel
theorem d54_16 : decode prog_11_method_30_code 16 = .ok (.if_icmp .ge 21, 3) := by decide +kernel
theorem d54_19 : decode prog_11_method_30_code 19 = .ok (.aload_n 0, 1) := by decide +kernel
theorem d54_20 : decode prog_11_method_30_code 20 = .ok (.getfield 76, 3) := by decide +kernel
theorem d54_23 : decode prog_11_method_30_code 23 = .ok (.iload_n 3, 1) := by decide +kernel
theorem d54_24 : decode prog_11_method_30_code 24 = .ok (.aload_n 0, 1) := by decide +kernel
theorem d54_25 : decode prog_11_method_30_code 25 = .ok (.getfield 67, 3) := by decide +kernel
end
section
theorem d54_28 : decode prog_11_method_30_code 28 = .ok (.iload_n 3, 1) := by decide +kernel
theorem d54_29 : decode prog_11_method_30_code 29 = .ok (.iaload, 1) := by decide +kernel
theorem d54_30 : decode prog_11_method_30_code 30 = .ok (.iastore, 1) := by decide +kernel
theorem d54_31 : decode prog_11_method_30_code 31 = .ok (.iinc 3 1, 3) := by decide +kernel
theorem d54_34 : decode prog_11_method_30_code 34 = .ok (.goto (-22), 3) := by decide +kernel
theorem d54_37 : decode prog_11_method_30_code 37 = .ok (.return_, 1) := by decide +kernel
theorem d55_0 : decode prog_11_method_31_code 0 = .ok (.iload_n 1, 1) := by decide +kernel
theorem d55_1 : decode prog_11_method_31_code 1 = .ok (.ifCond .lt 9, 3) := by decide +kernel
theorem d55_4 : decode prog_11_method_31_code 4 = .ok (.iload_n 1, 1) := by decide +kernel
theorem d55_5 : decode prog_11_method_31_code 5 = .ok (.bipush 20, 2) := by decide +kernel
theorem d55_7 : decode prog_11_method_31_code 7 = .ok (.if_icmp .le 6, 3) := by decide +kernel
theorem d55_10 : decode prog_11_method_31_code 10 = .ok (.bipush (-2), 2) := by decide +kernel
theorem d55_12 : decode prog_11_method_31_code 12 = .ok (.ireturn, 1) := by decide +kernel
theorem d55_13 : decode prog_11_method_31_code 13 = .ok (.aload_n 0, 1) := by decide +kernel
theorem d55_14 : decode prog_11_method_31_code 14 = .ok (.invokevirtual 148, 3) := by decide +kernel
theorem d55_17 : decode prog_11_method_31_code 17 = .ok (.aload_n 0, 1) := by decide +kernel
theorem d55_18 : decode prog_11_method_31_code 18 = .ok (.invokevirtual 158, 3) := by decide +kernel
theorem d55_21 : decode prog_11_method_31_code 21 = .ok (.bipush 60, 2) := by decide +kernel
theorem d55_23 : decode prog_11_method_31_code 23 = .ok (.if_icmp .le 6, 3) := by decide +kernel
theorem d55_26 : decode prog_11_method_31_code 26 = .ok (.bipush (-4), 2) := by decide +kernel
theorem d55_28 : decode prog_11_method_31_code 28 = .ok (.ireturn, 1) := by decide +kernel
theorem d55_29 : decode prog_11_method_31_code 29 = .ok (.aload_n 0, 1) := by decide +kernel
theorem d55_30 : decode prog_11_method_31_code 30 = .ok (.iconst 1, 1) := by decide +kernel
theorem d55_31 : decode prog_11_method_31_code 31 = .ok (.putfield 103, 3) := by decide +kernel
theorem d55_34 : decode prog_11_method_31_code 34 = .ok (.aload_n 0, 1) := by decide +kernel
theorem d55_35 : decode prog_11_method_31_code 35 = .ok (.invokevirtual 174, 3) := by decide +kernel
theorem d55_38 : decode prog_11_method_31_code 38 = .ok (.aload_n 0, 1) := by decide +kernel
theorem d55_39 : decode prog_11_method_31_code 39 = .ok (.iconst 0, 1) := by decide +kernel
theorem d55_40 : decode prog_11_method_31_code 40 = .ok (.aload_n 0, 1) := by decide +kernel
theorem d55_41 : decode prog_11_method_31_code 41 = .ok (.invokevirtual 177, 3) := by decide +kernel
theorem d55_44 : decode prog_11_method_31_code 44 = .ok (.invokevirtual 180, 3) := by decide +kernel
theorem d55_47 : decode prog_11_method_31_code 47 = .ok (.aload_n 0, 1) := by decide +kernel
theorem d55_48 : decode prog_11_method_31_code 48 = .ok (.invokevirtual 151, 3) := by decide +kernel
theorem d55_51 : decode prog_11_method_31_code 51 = .ok (.istore_n 2, 1) := by decide +kernel
theorem d55_52 : decode prog_11_method_31_code 52 = .ok (.iconst 1, 1) := by decide +kernel
theorem d55_53 : decode prog_11_method_31_code 53 = .ok (.istore_n 3, 1) := by decide +kernel
theorem d55_54 : decode prog_11_method_31_code 54 = .ok (.iload_n 3, 1) := by decide +kernel
theorem d55_55 : decode prog_11_method_31_code 55 = .ok (.iload_n 1, 1) := by decide +kernel
theorem d55_56 : decode prog_11_method_31_code 56 = .ok (.if_icmp .gt 76, 3) := by decide +kernel
theorem d55_59 : decode prog_11_method_31_code 59 = .ok (.iconst 1, 1) := by decide +kernel
theorem d55_60 : decode prog_11_method_31_code 60 = .ok (.istore 4, 2) := by decide +kernel
theorem d55_62 : decode prog_11_method_31_code 62 = .ok (.iload 4, 2) := by decide +kernel
theorem d55_64 : decode prog_11_method_31_code 64 = .ok (.iload_n 2, 1) := by decide +kernel
theorem d55_65 : decode prog_11_method_31_code 65 = .ok (.if_icmp .ge 16, 3) := by decide +kernel
theorem d55_68 : decode prog_11_method_31_code 68 = .ok (.aload_n 0, 1) := by decide +kernel
theorem d55_69 : decode prog_11_method_31_code 69 = .ok (.iload 4, 2) := by decide +kernel
theorem d55_71 : decode prog_11_method_31_code 71 = .ok (.iconst 1, 1) := by decide +kernel
theorem d55_72 : decode prog_11_method_31_code 72 = .ok (.invokevirtual 183, 3) := by decide +kernel
theorem d55_75 : decode prog_11_method_31_code 75 = .ok (.iinc 4 1, 3) := by decide +kernel
theorem d55_78 : decode prog_11_method_31_code 78 = .ok (.goto (-16), 3) := by decide +kernel
theorem d55_81 : decode prog_11_method_31_code 81 = .ok (.iload_n 2, 1) := by decide +kernel
theorem d55_82 : decode prog_11_method_31_code 82 = .ok (.iconst 2, 1) := by decide +kernel
theorem d55_83 : decode prog_11_method_31_code 83 = .ok (.isub, 1) := by decide +kernel
theorem d55_84 : decode prog_11_method_31_code 84 = .ok (.istore 4, 2) := by decide +kernel
theorem d55_86 : decode prog_11_method_31_code 86 = .ok (.iload 4, 2) := by decide +kernel
theorem d55_88 : decode prog_11_method_31_code 88 = .ok (.ifCond .lt 16, 3) := by decide +kernel
theorem d55_91 : decode prog_11_method_31_code 91 = .ok (.aload_n 0, 1) := by decide +kernel
theorem d55_92 : decode prog_11_method_31_code 92 = .ok (.iload 4, 2) := by decide +kernel
theorem d55_94 : decode prog_11_method_31_code 94 = .ok (.iconst 0, 1) := by decide +kernel
theorem d55_95 : decode prog_11_method_31_code 95 = .ok (.invokevirtual 183, 3) := by decide +kernel
theorem d55_98 : decode prog_11_method_31_code 98 = .ok (.iinc 4 (-1), 3) := by decide +kernel
theorem d55_101 : decode prog_11_method_31_code 101 = .ok (.goto (-15), 3) := by decide +kernel
theorem d55_104 : decode prog_11_method_31_code 104 = .ok (.aload_n 0, 1) := by decide +kernel
theorem d55_105 : decode prog_11_method_31_code 105 = .ok (.invokevirtual 177, 3) := by decide +kernel
theorem d55_108 : decode prog_11_method_31_code 108 = .ok (.istore 4, 2) := by decide +kernel
theorem d55_110 : decode prog_11_method_31_code 110 = .ok (.iload 4, 2) := by decide +kernel
theorem d55_112 : decode prog_11_method_31_code 112 = .ok (.aload_n 0, 1) := by decide +kernel
theorem d55_113 : decode prog_11_method_31_code 113 = .ok (.getfield 171, 3) := by decide +kernel
theorem d55_116 : decode prog_11_method_31_code 116 = .ok (.if_icmp .ge 10, 3) := by decide +kernel
theorem d55_119 : decode prog_11_method_31_code 119 = .ok (.aload_n 0, 1) := by decide +kernel
theorem d55_120 : decode prog_11_method_31_code 120 = .ok (.iload_n 3, 1) := by decide +kernel
theorem d55_121 : decode prog_11_method_31_code 121 = .ok (.iload 4, 2) := by decide +kernel
theorem d55_123 : decode prog_11_method_31_code 123 = .ok (.invokevirtual 180, 3) := by decide +kernel
theorem d55_126 : decode prog_11_method_31_code 126 = .ok (.iinc 3 1, 3) := by decide +kernel
theorem d55_129 : decode prog_11_method_31_code 129 = .ok (.goto (-75), 3) := by decide +kernel
theorem d55_132 : decode prog_11_method_31_code 132 = .ok (.iconst 0, 1) := by decide +kernel
theorem d55_133 : decode prog_11_method_31_code 133 = .ok (.istore_n 3, 1) := by decide +kernel
theorem d55_134 : decode prog_11_method_31_code 134 = .ok (.iload_n 3, 1) := by decide +kernel
theorem d55_135 : decode prog_11_method_31_code 135 = .ok (.sipush 960, 3) := by decide +kernel
theorem d55_138 : decode prog_11_method_31_code 138 = .ok (.if_icmp .ge 21, 3) := by decide +kernel
theorem d55_141 : decode prog_11_method_31_code 141 = .ok (.aload_n 0, 1) := by decide +kernel
theorem d55_142 : decode prog_11_method_31_code 142 = .ok (.getfield 67, 3) := by decide +kernel
theorem d55_145 : decode prog_11_method_31_code 145 = .ok (.iload_n 3, 1) := by decide +kernel
theorem d55_146 : decode prog_11_method_31_code 146 = .ok (.aload_n 0, 1) := by decide +kernel
theorem d55_147 : decode prog_11_method_31_code 147 = .ok (.getfield 76, 3) := by decide +kernel
theorem d55_150 : decode prog_11_method_31_code 150 = .ok (.iload_n 3, 1) := by decide +kernel
theorem d55_151 : decode prog_11_method_31_code 151 = .ok (.iaload, 1) := by decide +kernel
theorem d55_152 : decode prog_11_method_31_code 152 = .ok (.iastore, 1) := by decide +kernel
theorem d55_153 : decode prog_11_method_31_code 153 = .ok (.iinc 3 1, 3) := by decide +kernel
theorem d55_156 : decode prog_11_method_31_code 156 = .ok (.goto (-22), 3) := by decide +kernel
theorem d55_159 : decode prog_11_method_31_code 159 = .ok (.iconst 0, 1) := by decide +kernel
theorem d55_160 : decode prog_11_method_31_code 160 = .ok (.istore_n 3, 1) := by decide +kernel
theorem d55_161 : decode prog_11_method_31_code 161 = .ok (.iload_n 3, 1) := by decide +kernel
theorem d55_162 : decode prog_11_method_31_code 162 = .ok (.iload_n 2, 1) := by decide +kernel
theorem d55_163 : decode prog_11_method_31_code 163 = .ok (.if_icmp .ge 14, 3) := by decide +kernel
theorem d55_166 : decode prog_11_method_31_code 166 = .ok (.aload_n 0, 1) := by decide +kernel
theorem d55_167 : decode prog_11_method_31_code 167 = .ok (.iload_n 3, 1) := by decide +kernel
theorem d55_168 : decode prog_11_method_31_code 168 = .ok (.invokevirtual 164, 3) := by decide +kernel
theorem d55_171 : decode prog_11_method_31_code 171 = .ok (.iinc 3 1, 3) := by decide +kernel
theorem d55_174 : decode prog_11_method_31_code 174 = .ok (.goto (-13), 3) := by decide +kernel
theorem d55_177 : decode prog_11_method_31_code 177 = .ok (.aload_n 0, 1) := by decide +kernel
theorem d55_178 : decode prog_11_method_31_code 178 = .ok (.iload_n 2, 1) := by decide +kernel
theorem d55_179 : decode prog_11_method_31_code 179 = .ok (.invokevirtual 187, 3) := by decide +kernel
theorem d55_182 : decode prog_11_method_31_code 182 = .ok (.aload_n 0, 1) := by decide +kernel
theorem d55_183 : decode prog_11_method_31_code 183 = .ok (.getfield 171, 3) := by decide +kernel
theorem d55_186 : decode prog_11_method_31_code 186 = .ok (.ireturn, 1) := by decide +kernel
theorem d56_0 : decode prog_11_method_32_code 0 = .ok (.iload_n 1, 1) := by decide +kernel
theorem d56_1 : decode prog_11_method_32_code 1 = .ok (.bipush 12, 2) := by decide +kernel
theorem d56_3 : decode prog_11_method_32_code 3 = .ok (.if_icmp .ge 12, 3) := by decide +kernel
theorem d56_6 : decode prog_11_method_32_code 6 = .ok (.aload_n 0, 1) := by decide +kernel
theorem d56_7 : decode prog_11_method_32_code 7 = .ok (.getfield 7, 3) := by decide +kernel
theorem d56_10 : decode prog_11_method_32_code 10 = .ok (.iload_n 1, 1) := by decide +kernel
theorem d56_11 : decode prog_11_method_32_code 11 = .ok (.iaload, 1) := by decide +kernel
theorem d56_12 : decode prog_11_method_32_code 12 = .ok (.goto 4, 3) := by decide +kernel
theorem d56_15 : decode prog_11_method_32_code 15 = .ok (.iconst 1, 1) := by decide +kernel
theorem d56_16 : decode prog_11_method_32_code 16 = .ok (.ireturn, 1) := by decide +kernel
theorem d57_0 : decode prog_11_method_33_code 0 = .ok (.iload_n 0, 1) := by decide +kernel
theorem d57_1 : decode prog_11_method_33_code 1 = .ok (.iload_n 1, 1) := by decide +kernel
theorem d57_2 : decode prog_11_method_33_code 2 = .ok (.idiv, 1) := by decide +kernel
theorem d57_3 : decode prog_11_method_33_code 3 = .ok (.istore_n 2, 1) := by decide +kernel
theorem d57_4 : decode prog_11_method_33_code 4 = .ok (.iload_n 0, 1) := by decide +kernel
theorem d57_5 : decode prog_11_method_33_code 5 = .ok (.iload_n 1, 1) := by decide +kernel
theorem d57_6 : decode prog_11_method_33_code 6 = .ok (.irem, 1) := by decide +kernel
theorem d57_7 : decode prog_11_method_33_code 7 = .ok (.ifCond .ge 9, 3) := by decide +kernel
theorem d57_10 : decode prog_11_method_33_code 10 = .ok (.iload_n 2, 1) := by decide +kernel
theorem d57_11 : decode prog_11_method_33_code 11 = .ok (.iconst 1, 1) := by decide +kernel
theorem d57_12 : decode prog_11_method_33_code 12 = .ok (.isub, 1) := by decide +kernel
theorem d57_13 : decode prog_11_method_33_code 13 = .ok (.goto 4, 3) := by decide +kernel
theorem d57_16 : decode prog_11_method_33_code 16 = .ok (.iload_n 2, 1) := by decide +kernel
theorem d57_17 : decode prog_11_method_33_code 17 = .ok (.ireturn, 1) := by decide +kernel
theorem d58_0 : decode prog_11_method_34_code 0 = .ok (.iconst 0, 1) := by decide +kernel
theorem d58_1 : decode prog_11_method_34_code 1 = .ok (.istore_n 2, 1) := by decide +kernel
theorem d58_2 : decode prog_11_method_34_code 2 = .ok (.iload_n 2, 1) := by decide +kernel
theorem d58_3 : decode prog_11_method_34_code 3 = .ok (.iload_n 1, 1) := by decide +kernel
theorem d58_4 : decode prog_11_method_34_code 4 = .ok (.if_icmp .ge 218, 3) := by decide +kernel
theorem d58_7 : decode prog_11_method_34_code 7 = .ok (.iconst 0, 1) := by decide +kernel
theorem d58_8 : decode prog_11_method_34_code 8 = .ok (.istore_n 3, 1) := by decide +kernel
theorem d58_9 : decode prog_11_method_34_code 9 = .ok (.iconst 0, 1) := by decide +kernel
theorem d58_10 : decode prog_11_method_34_code 10 = .ok (.istore 4, 2) := by decide +kernel
theorem d58_12 : decode prog_11_method_34_code 12 = .ok (.iload 4, 2) := by decide +kernel
theorem d58_14 : decode prog_11_method_34_code 14 = .ok (.aload_n 0, 1) := by decide +kernel
theorem d58_15 : decode prog_11_method_34_code 15 = .ok (.getfield 70, 3) := by decide +kernel
theorem d58_18 : decode prog_11_method_34_code 18 = .ok (.iload_n 2, 1) := by decide +kernel
theorem d58_19 : decode prog_11_method_34_code 19 = .ok (.iaload, 1) := by decide +kernel
theorem d58_20 : decode prog_11_method_34_code 20 = .ok (.if_icmp .ge 196, 3) := by decide +kernel
theorem d58_23 : decode prog_11_method_34_code 23 = .ok (.aload_n 0, 1) := by decide +kernel
theorem d58_24 : decode prog_11_method_34_code 24 = .ok (.getfield 67, 3) := by decide +kernel
theorem d58_27 : decode prog_11_method_34_code 27 = .ok (.bipush 80, 2) := by decide +kernel
theorem d58_29 : decode prog_11_method_34_code 29 = .ok (.iload_n 2, 1) := by decide +kernel
theorem d58_30 : decode prog_11_method_34_code 30 = .ok (.imul, 1) := by decide +kernel
theorem d58_31 : decode prog_11_method_34_code 31 = .ok (.iload 4, 2) := by decide +kernel
theorem d58_33 : decode prog_11_method_34_code 33 = .ok (.iadd, 1) := by decide +kernel
theorem d58_34 : decode prog_11_method_34_code 34 = .ok (.iaload, 1) := by decide +kernel
theorem d58_35 : decode prog_11_method_34_code 35 = .ok (.istore 5, 2) := by decide +kernel
theorem d58_37 : decode prog_11_method_34_code 37 = .ok (.iconst 0, 1) := by decide +kernel
theorem d58_38 : decode prog_11_method_34_code 38 = .ok (.istore 6, 2) := by decide +kernel
theorem d58_40 : decode prog_11_method_34_code 40 = .ok (.iconst 0, 1) := by decide +kernel
theorem d58_41 : decode prog_11_method_34_code 41 = .ok (.istore 7, 2) := by decide +kernel
theorem d58_43 : decode prog_11_method_34_code 43 = .ok (.iconst 0, 1) := by decide +kernel
theorem d58_44 : decode prog_11_method_34_code 44 = .ok (.istore 8, 2) := by decide +kernel
theorem d58_46 : decode prog_11_method_34_code 46 = .ok (.iload 8, 2) := by decide +kernel
theorem d58_48 : decode prog_11_method_34_code 48 = .ok (.aload_n 0, 1) := by decide +kernel
theorem d58_49 : decode prog_11_method_34_code 49 = .ok (.getfield 161, 3) := by decide +kernel
theorem d58_52 : decode prog_11_method_34_code 52 = .ok (.if_icmp .ge 55, 3) := by decide +kernel
theorem d58_55 : decode prog_11_method_34_code 55 = .ok (.aload_n 0, 1) := by decide +kernel
theorem d58_56 : decode prog_11_method_34_code 56 = .ok (.getfield 64, 3) := by decide +kernel
theorem d58_59 : decode prog_11_method_34_code 59 = .ok (.iload 8, 2) := by decide +kernel
theorem d58_61 : decode prog_11_method_34_code 61 = .ok (.iaload, 1) := by decide +kernel
theorem d58_62 : decode prog_11_method_34_code 62 = .ok (.iload 5, 2) := by decide +kernel
theorem d58_64 : decode prog_11_method_34_code 64 = .ok (.if_icmp .ne 37, 3) := by decide +kernel
theorem d58_67 : decode prog_11_method_34_code 67 = .ok (.iload 6, 2) := by decide +kernel
theorem d58_69 : decode prog_11_method_34_code 69 = .ok (.iconst 2, 1) := by decide +kernel
theorem d58_70 : decode prog_11_method_34_code 70 = .ok (.aload_n 0, 1) := by decide +kernel
theorem d58_71 : decode prog_11_method_34_code 71 = .ok (.getfield 79, 3) := by decide +kernel
theorem d58_74 : decode prog_11_method_34_code 74 = .ok (.aload_n 0, 1) := by decide +kernel
theorem d58_75 : decode prog_11_method_34_code 75 = .ok (.getfield 61, 3) := by decide +kernel
theorem d58_78 : decode prog_11_method_34_code 78 = .ok (.iload 8, 2) := by decide +kernel
theorem d58_80 : decode prog_11_method_34_code 80 = .ok (.iaload, 1) := by decide +kernel
theorem d58_81 : decode prog_11_method_34_code 81 = .ok (.iaload, 1) := by decide +kernel
theorem d58_82 : decode prog_11_method_34_code 82 = .ok (.imul, 1) := by decide +kernel
theorem d58_83 : decode prog_11_method_34_code 83 = .ok (.aload_n 0, 1) := by decide +kernel
theorem d58_84 : decode prog_11_method_34_code 84 = .ok (.aload_n 0, 1) := by decide +kernel
theorem d58_85 : decode prog_11_method_34_code 85 = .ok (.getfield 61, 3) := by decide +kernel
theorem d58_88 : decode prog_11_method_34_code 88 = .ok (.iload 8, 2) := by decide +kernel
theorem d58_90 : decode prog_11_method_34_code 90 = .ok (.iaload, 1) := by decide +kernel
theorem d58_91 : decode prog_11_method_34_code 91 = .ok (.invokevirtual 190, 3) := by decide +kernel
theorem d58_94 : decode prog_11_method_34_code 94 = .ok (.iadd, 1) := by decide +kernel
theorem d58_95 : decode prog_11_method_34_code 95 = .ok (.iadd, 1) := by decide +kernel
theorem d58_96 : decode prog_11_method_34_code 96 = .ok (.istore 6, 2) := by decide +kernel
theorem d58_98 : decode prog_11_method_34_code 98 = .ok (.iinc 7 1, 3) := by decide +kernel
theorem d58_101 : decode prog_11_method_34_code 101 = .ok (.iinc 8 1, 3) := by decide +kernel
theorem d58_104 : decode prog_11_method_34_code 104 = .ok (.goto (-58), 3) := by decide +kernel
theorem d58_107 : decode prog_11_method_34_code 107 = .ok (.iload 7, 2) := by decide +kernel
theorem d58_109 : decode prog_11_method_34_code 109 = .ok (.ifCond .ne 7, 3) := by decide +kernel
theorem d58_112 : decode prog_11_method_34_code 112 = .ok (.iconst 0, 1) := by decide +kernel
theorem d58_113 : decode prog_11_method_34_code 113 = .ok (.goto 21, 3) := by decide +kernel
theorem d58_116 : decode prog_11_method_34_code 116 = .ok (.iload 6, 2) := by decide +kernel
theorem d58_118 : decode prog_11_method_34_code 118 = .ok (.iconst 2, 1) := by decide +kernel
theorem d58_119 : decode prog_11_method_34_code 119 = .ok (.iload 7, 2) := by decide +kernel
theorem d58_121 : decode prog_11_method_34_code 121 = .ok (.imul, 1) := by decide +kernel
theorem d58_122 : decode prog_11_method_34_code 122 = .ok (.invokestatic 194, 3) := by decide +kernel
theorem d58_125 : decode prog_11_method_34_code 125 = .ok (.aload_n 0, 1) := by decide +kernel
theorem d58_126 : decode prog_11_method_34_code 126 = .ok (.iload 5, 2) := by decide +kernel
theorem d58_128 : decode prog_11_method_34_code 128 = .ok (.invokevirtual 190, 3) := by decide +kernel
theorem d58_131 : decode prog_11_method_34_code 131 = .ok (.iconst 2, 1) := by decide +kernel
theorem d58_132 : decode prog_11_method_34_code 132 = .ok (.idiv, 1) := by decide +kernel
theorem d58_133 : decode prog_11_method_34_code 133 = .ok (.isub, 1) := by decide +kernel
theorem d58_134 : decode prog_11_method_34_code 134 = .ok (.istore 8, 2) := by decide +kernel
theorem d58_136 : decode prog_11_method_34_code 136 = .ok (.iload 8, 2) := by decide +kernel
theorem d58_138 : decode prog_11_method_34_code 138 = .ok (.ifCond .ge 7, 3) := by decide +kernel
theorem d58_141 : decode prog_11_method_34_code 141 = .ok (.iconst 0, 1) := by decide +kernel
theorem d58_142 : decode prog_11_method_34_code 142 = .ok (.goto 5, 3) := by decide +kernel
theorem d58_145 : decode prog_11_method_34_code 145 = .ok (.iload 8, 2) := by decide +kernel
theorem d58_147 : decode prog_11_method_34_code 147 = .ok (.istore 8, 2) := by decide +kernel
theorem d58_149 : decode prog_11_method_34_code 149 = .ok (.iload_n 2, 1) := by decide +kernel
theorem d58_150 : decode prog_11_method_34_code 150 = .ok (.ifCond .ne 17, 3) := by decide +kernel
theorem d58_153 : decode prog_11_method_34_code 153 = .ok (.iload 4, 2) := by decide +kernel
theorem d58_155 : decode prog_11_method_34_code 155 = .ok (.ifCond .ne 7, 3) := by decide +kernel
theorem d58_158 : decode prog_11_method_34_code 158 = .ok (.iconst 0, 1) := by decide +kernel
theorem d58_159 : decode prog_11_method_34_code 159 = .ok (.goto 6, 3) := by decide +kernel
theorem d58_162 : decode prog_11_method_34_code 162 = .ok (.iload_n 3, 1) := by decide +kernel
theorem d58_163 : decode prog_11_method_34_code 163 = .ok (.iconst 1, 1) := by decide +kernel
theorem d58_164 : decode prog_11_method_34_code 164 = .ok (.iadd, 1) := by decide +kernel
theorem d58_165 : decode prog_11_method_34_code 165 = .ok (.istore 8, 2) := by decide +kernel
theorem d58_167 : decode prog_11_method_34_code 167 = .ok (.aload_n 0, 1) := by decide +kernel
theorem d58_168 : decode prog_11_method_34_code 168 = .ok (.getfield 79, 3) := by decide +kernel
theorem d58_171 : decode prog_11_method_34_code 171 = .ok (.iload 5, 2) := by decide +kernel
theorem d58_173 : decode prog_11_method_34_code 173 = .ok (.iload 4, 2) := by decide +kernel
theorem d58_175 : decode prog_11_method_34_code 175 = .ok (.ifCond .le 17, 3) := by decide +kernel
theorem d58_178 : decode prog_11_method_34_code 178 = .ok (.iload 8, 2) := by decide +kernel
theorem d58_180 : decode prog_11_method_34_code 180 = .ok (.iload_n 3, 1) := by decide +kernel
theorem d58_181 : decode prog_11_method_34_code 181 = .ok (.iconst 1, 1) := by decide +kernel
theorem d58_182 : decode prog_11_method_34_code 182 = .ok (.iadd, 1) := by decide +kernel
theorem d58_183 : decode prog_11_method_34_code 183 = .ok (.if_icmp .ge 9, 3) := by decide +kernel
theorem d58_186 : decode prog_11_method_34_code 186 = .ok (.iload_n 3, 1) := by decide +kernel
theorem d58_187 : decode prog_11_method_34_code 187 = .ok (.iconst 1, 1) := by decide +kernel
theorem d58_188 : decode prog_11_method_34_code 188 = .ok (.iadd, 1) := by decide +kernel
theorem d58_189 : decode prog_11_method_34_code 189 = .ok (.goto 5, 3) := by decide +kernel
theorem d58_192 : decode prog_11_method_34_code 192 = .ok (.iload 8, 2) := by decide +kernel
theorem d58_194 : decode prog_11_method_34_code 194 = .ok (.iastore, 1) := by decide +kernel
theorem d58_195 : decode prog_11_method_34_code 195 = .ok (.aload_n 0, 1) := by decide +kernel
theorem d58_196 : decode prog_11_method_34_code 196 = .ok (.getfield 79, 3) := by decide +kernel
theorem d58_199 : decode prog_11_method_34_code 199 = .ok (.iload 5, 2) := by decide +kernel
theorem d58_201 : decode prog_11_method_34_code 201 = .ok (.iaload, 1) := by decide +kernel
theorem d58_202 : decode prog_11_method_34_code 202 = .ok (.aload_n 0, 1) := by decide +kernel
theorem d58_203 : decode prog_11_method_34_code 203 = .ok (.iload 5, 2) := by decide +kernel
theorem d58_205 : decode prog_11_method_34_code 205 = .ok (.invokevirtual 190, 3) := by decide +kernel
theorem d58_208 : decode prog_11_method_34_code 208 = .ok (.iadd, 1) := by decide +kernel
theorem d58_209 : decode prog_11_method_34_code 209 = .ok (.istore_n 3, 1) := by decide +kernel
theorem d58_210 : decode prog_11_method_34_code 210 = .ok (.iinc 4 1, 3) := by decide +kernel
theorem d58_213 : decode prog_11_method_34_code 213 = .ok (.goto (-201), 3) := by decide +kernel
theorem d58_216 : decode prog_11_method_34_code 216 = .ok (.iinc 2 1, 3) := by decide +kernel
theorem d58_219 : decode prog_11_method_34_code 219 = .ok (.goto (-217), 3) := by decide +kernel
theorem d58_222 : decode prog_11_method_34_code 222 = .ok (.return_, 1) := by decide +kernel
theorem d59_0 : decode prog_11_method_35_code 0 = .ok (.aload_n 0, 1) := by decide +kernel
theorem d59_1 : decode prog_11_method_35_code 1 = .ok (.getfield 103, 3) := by decide +kernel
theorem d59_4 : decode prog_11_method_35_code 4 = .ok (.ifCond .eq 10, 3) := by decide +kernel
theorem d59_7 : decode prog_11_method_35_code 7 = .ok (.aload_n 0, 1) := by decide +kernel
theorem d59_8 : decode prog_11_method_35_code 8 = .ok (.getfield 168, 3) := by decide +kernel
theorem d59_11 : decode prog_11_method_35_code 11 = .ok (.goto 5, 3) := by decide +kernel
theorem d59_14 : decode prog_11_method_35_code 14 = .ok (.bipush (-3), 2) := by decide +kernel
theorem d59_16 : decode prog_11_method_35_code 16 = .ok (.ireturn, 1) := by decide +kernel
theorem d60_0 : decode prog_11_method_36_code 0 = .ok (.aload_n 0, 1) := by decide +kernel
theorem d60_1 : decode prog_11_method_36_code 1 = .ok (.getfield 103, 3) := by decide +kernel
theorem d60_4 : decode prog_11_method_36_code 4 = .ok (.ifCond .ne 8, 3) := by decide +kernel
theorem d60_7 : decode prog_11_method_36_code 7 = .ok (.bipush (-3), 2) := by decide +kernel
theorem d60_9 : decode prog_11_method_36_code 9 = .ok (.goto 25, 3) := by decide +kernel
theorem d60_12 : decode prog_11_method_36_code 12 = .ok (.iload_n 1, 1) := by decide +kernel
theorem d60_13 : decode prog_11_method_36_code 13 = .ok (.ifCond .lt 11, 3) := by decide +kernel
theorem d60_16 : decode prog_11_method_36_code 16 = .ok (.iload_n 1, 1) := by decide +kernel
theorem d60_17 : decode prog_11_method_36_code 17 = .ok (.aload_n 0, 1) := by decide +kernel
theorem d60_18 : decode prog_11_method_36_code 18 = .ok (.invokevirtual 151, 3) := by decide +kernel
theorem d60_21 : decode prog_11_method_36_code 21 = .ok (.if_icmp .lt 7, 3) := by decide +kernel
theorem d60_24 : decode prog_11_method_36_code 24 = .ok (.iconst (-1), 1) := by decide +kernel
theorem d60_25 : decode prog_11_method_36_code 25 = .ok (.goto 9, 3) := by decide +kernel
theorem d60_28 : decode prog_11_method_36_code 28 = .ok (.aload_n 0, 1) := by decide +kernel
theorem d60_29 : decode prog_11_method_36_code 29 = .ok (.getfield 70, 3) := by decide +kernel
theorem d60_32 : decode prog_11_method_36_code 32 = .ok (.iload_n 1, 1) := by decide +kernel
theorem d60_33 : decode prog_11_method_36_code 33 = .ok (.iaload, 1) := by decide +kernel
theorem d60_34 : decode prog_11_method_36_code 34 = .ok (.ireturn, 1) := by decide +kernel
theorem d61_0 : decode prog_11_method_37_code 0 = .ok (.aload_n 0, 1) := by decide +kernel
theorem d61_1 : decode prog_11_method_37_code 1 = .ok (.getfield 103, 3) := by decide +kernel
theorem d61_4 : decode prog_11_method_37_code 4 = .ok (.ifCond .ne 8, 3) := by decide +kernel
theorem d61_7 : decode prog_11_method_37_code 7 = .ok (.bipush (-3), 2) := by decide +kernel
theorem d61_9 : decode prog_11_method_37_code 9 = .ok (.goto 44, 3) := by decide +kernel
theorem d61_12 : decode prog_11_method_37_code 12 = .ok (.iload_n 1, 1) := by decide +kernel
theorem d61_13 : decode prog_11_method_37_code 13 = .ok (.ifCond .lt 25, 3) := by decide +kernel
theorem d61_16 : decode prog_11_method_37_code 16 = .ok (.iload_n 1, 1) := by decide +kernel
theorem d61_17 : decode prog_11_method_37_code 17 = .ok (.aload_n 0, 1) := by decide +kernel
theorem d61_18 : decode prog_11_method_37_code 18 = .ok (.invokevirtual 151, 3) := by decide +kernel
theorem d61_21 : decode prog_11_method_37_code 21 = .ok (.if_icmp .ge 17, 3) := by decide +kernel
theorem d61_24 : decode prog_11_method_37_code 24 = .ok (.iload_n 2, 1) := by decide +kernel
theorem d61_25 : decode prog_11_method_37_code 25 = .ok (.ifCond .lt 13, 3) := by decide +kernel
theorem d61_28 : decode prog_11_method_37_code 28 = .ok (.iload_n 2, 1) := by decide +kernel
theorem d61_29 : decode prog_11_method_37_code 29 = .ok (.aload_n 0, 1) := by decide +kernel
theorem d61_30 : decode prog_11_method_37_code 30 = .ok (.getfield 70, 3) := by decide +kernel
theorem d61_33 : decode prog_11_method_37_code 33 = .ok (.iload_n 1, 1) := by decide +kernel
theorem d61_34 : decode prog_11_method_37_code 34 = .ok (.iaload, 1) := by decide +kernel
theorem d61_35 : decode prog_11_method_37_code 35 = .ok (.if_icmp .lt 7, 3) := by decide +kernel
theorem d61_38 : decode prog_11_method_37_code 38 = .ok (.iconst (-1), 1) := by decide +kernel
theorem d61_39 : decode prog_11_method_37_code 39 = .ok (.goto 14, 3) := by decide +kernel
theorem d61_42 : decode prog_11_method_37_code 42 = .ok (.aload_n 0, 1) := by decide +kernel
theorem d61_43 : decode prog_11_method_37_code 43 = .ok (.getfield 76, 3) := by decide +kernel
theorem d61_46 : decode prog_11_method_37_code 46 = .ok (.bipush 80, 2) := by decide +kernel
theorem d61_48 : decode prog_11_method_37_code 48 = .ok (.iload_n 1, 1) := by decide +kernel
theorem d61_49 : decode prog_11_method_37_code 49 = .ok (.imul, 1) := by decide +kernel
theorem d61_50 : decode prog_11_method_37_code 50 = .ok (.iload_n 2, 1) := by decide +kernel
theorem d61_51 : decode prog_11_method_37_code 51 = .ok (.iadd, 1) := by decide +kernel
theorem d61_52 : decode prog_11_method_37_code 52 = .ok (.iaload, 1) := by decide +kernel
theorem d61_53 : decode prog_11_method_37_code 53 = .ok (.ireturn, 1) := by decide +kernel
theorem d62_0 : decode prog_11_method_38_code 0 = .ok (.aload_n 0, 1) := by decide +kernel
theorem d62_1 : decode prog_11_method_38_code 1 = .ok (.getfield 103, 3) := by decide +kernel
theorem d62_4 : decode prog_11_method_38_code 4 = .ok (.ifCond .ne 6, 3) := by decide +kernel
theorem d62_7 : decode prog_11_method_38_code 7 = .ok (.bipush (-3), 2) := by decide +kernel
theorem d62_9 : decode prog_11_method_38_code 9 = .ok (.ireturn, 1) := by decide +kernel
theorem d62_10 : decode prog_11_method_38_code 10 = .ok (.aload_n 0, 1) := by decide +kernel
theorem d62_11 : decode prog_11_method_38_code 11 = .ok (.invokevirtual 151, 3) := by decide +kernel
theorem d62_14 : decode prog_11_method_38_code 14 = .ok (.istore_n 1, 1) := by decide +kernel
theorem d62_15 : decode prog_11_method_38_code 15 = .ok (.lconst 1, 1) := by decide +kernel
theorem d62_16 : decode prog_11_method_38_code 16 = .ok (.lstore_n 2, 1) := by decide +kernel
theorem d62_17 : decode prog_11_method_38_code 17 = .ok (.iconst 0, 1) := by decide +kernel
theorem d62_18 : decode prog_11_method_38_code 18 = .ok (.istore 4, 2) := by decide +kernel
theorem d62_20 : decode prog_11_method_38_code 20 = .ok (.iload 4, 2) := by decide +kernel
theorem d62_22 : decode prog_11_method_38_code 22 = .ok (.iload_n 1, 1) := by decide +kernel
theorem d62_23 : decode prog_11_method_38_code 23 = .ok (.if_icmp .ge 48, 3) := by decide +kernel
theorem d62_26 : decode prog_11_method_38_code 26 = .ok (.iconst 2, 1) := by decide +kernel
theorem d62_27 : decode prog_11_method_38_code 27 = .ok (.istore 5, 2) := by decide +kernel
theorem d62_29 : decode prog_11_method_38_code 29 = .ok (.iload 5, 2) := by decide +kernel
theorem d62_31 : decode prog_11_method_38_code 31 = .ok (.aload_n 0, 1) := by decide +kernel
theorem d62_32 : decode prog_11_method_38_code 32 = .ok (.getfield 70, 3) := by decide +kernel
theorem d62_35 : decode prog_11_method_38_code 35 = .ok (.iload 4, 2) := by decide +kernel
theorem d62_37 : decode prog_11_method_38_code 37 = .ok (.iaload, 1) := by decide +kernel
theorem d62_38 : decode prog_11_method_38_code 38 = .ok (.if_icmp .gt 27, 3) := by decide +kernel
theorem d62_41 : decode prog_11_method_38_code 41 = .ok (.lload_n 2, 1) := by decide +kernel
theorem d62_42 : decode prog_11_method_38_code 42 = .ok (.ldc2_w 197, 3) := by decide +kernel
theorem d62_45 : decode prog_11_method_38_code 45 = .ok (.lcmp, 1) := by decide +kernel
theorem d62_46 : decode prog_11_method_38_code 46 = .ok (.ifCond .le 7, 3) := by decide +kernel
theorem d62_49 : decode prog_11_method_38_code 49 = .ok (.lload_n 2, 1) := by decide +kernel
theorem d62_50 : decode prog_11_method_38_code 50 = .ok (.goto 8, 3) := by decide +kernel
theorem d62_53 : decode prog_11_method_38_code 53 = .ok (.lload_n 2, 1) := by decide +kernel
theorem d62_54 : decode prog_11_method_38_code 54 = .ok (.iload 5, 2) := by decide +kernel
theorem d62_56 : decode prog_11_method_38_code 56 = .ok (.i2l, 1) := by decide +kernel
theorem d62_57 : decode prog_11_method_38_code 57 = .ok (.lmul, 1) := by decide +kernel
theorem d62_58 : decode prog_11_method_38_code 58 = .ok (.lstore_n 2, 1) := by decide +kernel
theorem d62_59 : decode prog_11_method_38_code 59 = .ok (.iinc 5 1, 3) := by decide +kernel
theorem d62_62 : decode prog_11_method_38_code 62 = .ok (.goto (-33), 3) := by decide +kernel
theorem d62_65 : decode prog_11_method_38_code 65 = .ok (.iinc 4 1, 3) := by decide +kernel
theorem d62_68 : decode prog_11_method_38_code 68 = .ok (.goto (-48), 3) := by decide +kernel
theorem d62_71 : decode prog_11_method_38_code 71 = .ok (.lload_n 2, 1) := by decide +kernel
theorem d62_72 : decode prog_11_method_38_code 72 = .ok (.ldc2_w 197, 3) := by decide +kernel
theorem d62_75 : decode prog_11_method_38_code 75 = .ok (.lcmp, 1) := by decide +kernel
theorem d62_76 : decode prog_11_method_38_code 76 = .ok (.ifCond .le 6, 3) := by decide +kernel
theorem d62_79 : decode prog_11_method_38_code 79 = .ok (.bipush (-4), 2) := by decide +kernel
theorem d62_81 : decode prog_11_method_38_code 81 = .ok (.ireturn, 1) := by decide +kernel
theorem d62_82 : decode prog_11_method_38_code 82 = .ok (.iconst 0, 1) := by decide +kernel
theorem d62_83 : decode prog_11_method_38_code 83 = .ok (.istore 4, 2) := by decide +kernel
theorem d62_85 : decode prog_11_method_38_code 85 = .ok (.iload 4, 2) := by decide +kernel
theorem d62_87 : decode prog_11_method_38_code 87 = .ok (.iload_n 1, 1) := by decide +kernel
theorem d62_88 : decode prog_11_method_38_code 88 = .ok (.if_icmp .ge 15, 3) := by decide +kernel
theorem d62_91 : decode prog_11_method_38_code 91 = .ok (.aload_n 0, 1) := by decide +kernel
theorem d62_92 : decode prog_11_method_38_code 92 = .ok (.iload 4, 2) := by decide +kernel
theorem d62_94 : decode prog_11_method_38_code 94 = .ok (.invokevirtual 199, 3) := by decide +kernel
theorem d62_97 : decode prog_11_method_38_code 97 = .ok (.iinc 4 1, 3) := by decide +kernel
theorem d62_100 : decode prog_11_method_38_code 100 = .ok (.goto (-15), 3) := by decide +kernel
theorem d62_103 : decode prog_11_method_38_code 103 = .ok (.aload_n 0, 1) := by decide +kernel
theorem d62_104 : decode prog_11_method_38_code 104 = .ok (.invokevirtual 177, 3) := by decide +kernel
theorem d62_107 : decode prog_11_method_38_code 107 = .ok (.istore 4, 2) := by decide +kernel
theorem d62_109 : decode prog_11_method_38_code 109 = .ok (.iconst 1, 1) := by decide +kernel
theorem d62_110 : decode prog_11_method_38_code 110 = .ok (.istore 5, 2) := by decide +kernel
theorem d62_112 : decode prog_11_method_38_code 112 = .ok (.iload 5, 2) := by decide +kernel
theorem d62_114 : decode prog_11_method_38_code 114 = .ok (.ifCond .eq 71, 3) := by decide +kernel
theorem d62_117 : decode prog_11_method_38_code 117 = .ok (.iconst 0, 1) := by decide +kernel
theorem d62_118 : decode prog_11_method_38_code 118 = .ok (.istore 6, 2) := by decide +kernel
theorem d62_120 : decode prog_11_method_38_code 120 = .ok (.iload 6, 2) := by decide +kernel
theorem d62_122 : decode prog_11_method_38_code 122 = .ok (.iload_n 1, 1) := by decide +kernel
theorem d62_123 : decode prog_11_method_38_code 123 = .ok (.if_icmp .ge 24, 3) := by decide +kernel
theorem d62_126 : decode prog_11_method_38_code 126 = .ok (.aload_n 0, 1) := by decide +kernel
theorem d62_127 : decode prog_11_method_38_code 127 = .ok (.iload 6, 2) := by decide +kernel
theorem d62_129 : decode prog_11_method_38_code 129 = .ok (.invokevirtual 202, 3) := by decide +kernel
theorem d62_132 : decode prog_11_method_38_code 132 = .ok (.ifCond .ne 15, 3) := by decide +kernel
theorem d62_135 : decode prog_11_method_38_code 135 = .ok (.aload_n 0, 1) := by decide +kernel
theorem d62_136 : decode prog_11_method_38_code 136 = .ok (.iload 6, 2) := by decide +kernel
theorem d62_138 : decode prog_11_method_38_code 138 = .ok (.invokevirtual 199, 3) := by decide +kernel
theorem d62_141 : decode prog_11_method_38_code 141 = .ok (.iinc 6 1, 3) := by decide +kernel
theorem d62_144 : decode prog_11_method_38_code 144 = .ok (.goto (-24), 3) := by decide +kernel
theorem d62_147 : decode prog_11_method_38_code 147 = .ok (.iload 6, 2) := by decide +kernel
theorem d62_149 : decode prog_11_method_38_code 149 = .ok (.iload_n 1, 1) := by decide +kernel
theorem d62_150 : decode prog_11_method_38_code 150 = .ok (.if_icmp .ge 7, 3) := by decide +kernel
theorem d62_153 : decode prog_11_method_38_code 153 = .ok (.iconst 1, 1) := by decide +kernel
theorem d62_154 : decode prog_11_method_38_code 154 = .ok (.goto 4, 3) := by decide +kernel
theorem d62_157 : decode prog_11_method_38_code 157 = .ok (.iconst 0, 1) := by decide +kernel
theorem d62_158 : decode prog_11_method_38_code 158 = .ok (.istore 5, 2) := by decide +kernel
theorem d62_160 : decode prog_11_method_38_code 160 = .ok (.aload_n 0, 1) := by decide +kernel
theorem d62_161 : decode prog_11_method_38_code 161 = .ok (.invokevirtual 177, 3) := by decide +kernel
theorem d62_164 : decode prog_11_method_38_code 164 = .ok (.istore 7, 2) := by decide +kernel
theorem d62_166 : decode prog_11_method_38_code 166 = .ok (.iload 7, 2) := by decide +kernel
theorem d62_168 : decode prog_11_method_38_code 168 = .ok (.iload 4, 2) := by decide +kernel
theorem d62_170 : decode prog_11_method_38_code 170 = .ok (.if_icmp .ge 8, 3) := by decide +kernel
theorem d62_173 : decode prog_11_method_38_code 173 = .ok (.iload 7, 2) := by decide +kernel
theorem d62_175 : decode prog_11_method_38_code 175 = .ok (.goto 5, 3) := by decide +kernel
theorem d62_178 : decode prog_11_method_38_code 178 = .ok (.iload 4, 2) := by decide +kernel
theorem d62_180 : decode prog_11_method_38_code 180 = .ok (.istore 4, 2) := by decide +kernel
theorem d62_182 : decode prog_11_method_38_code 182 = .ok (.goto (-70), 3) := by decide +kernel
theorem d62_185 : decode prog_11_method_38_code 185 = .ok (.iconst 0, 1) := by decide +kernel
theorem d62_186 : decode prog_11_method_38_code 186 = .ok (.istore 6, 2) := by decide +kernel
theorem d62_188 : decode prog_11_method_38_code 188 = .ok (.iload 6, 2) := by decide +kernel
theorem d62_190 : decode prog_11_method_38_code 190 = .ok (.sipush 960, 3) := by decide +kernel
theorem d62_193 : decode prog_11_method_38_code 193 = .ok (.if_icmp .ge 23, 3) := by decide +kernel
theorem d62_196 : decode prog_11_method_38_code 196 = .ok (.aload_n 0, 1) := by decide +kernel
theorem d62_197 : decode prog_11_method_38_code 197 = .ok (.getfield 67, 3) := by decide +kernel
theorem d62_200 : decode prog_11_method_38_code 200 = .ok (.iload 6, 2) := by decide +kernel
theorem d62_202 : decode prog_11_method_38_code 202 = .ok (.aload_n 0, 1) := by decide +kernel
theorem d62_203 : decode prog_11_method_38_code 203 = .ok (.getfield 76, 3) := by decide +kernel
theorem d62_206 : decode prog_11_method_38_code 206 = .ok (.iload 6, 2) := by decide +kernel
theorem d62_208 : decode prog_11_method_38_code 208 = .ok (.iaload, 1) := by decide +kernel
theorem d62_209 : decode prog_11_method_38_code 209 = .ok (.iastore, 1) := by decide +kernel
theorem d62_210 : decode prog_11_method_38_code 210 = .ok (.iinc 6 1, 3) := by decide +kernel
theorem d62_213 : decode prog_11_method_38_code 213 = .ok (.goto (-25), 3) := by decide +kernel
theorem d62_216 : decode prog_11_method_38_code 216 = .ok (.iconst 0, 1) := by decide +kernel
theorem d62_217 : decode prog_11_method_38_code 217 = .ok (.istore 6, 2) := by decide +kernel
theorem d62_219 : decode prog_11_method_38_code 219 = .ok (.iload 6, 2) := by decide +kernel
theorem d62_221 : decode prog_11_method_38_code 221 = .ok (.iload_n 1, 1) := by decide +kernel
theorem d62_222 : decode prog_11_method_38_code 222 = .ok (.if_icmp .ge 15, 3) := by decide +kernel
theorem d62_225 : decode prog_11_method_38_code 225 = .ok (.aload_n 0, 1) := by decide +kernel
theorem d62_226 : decode prog_11_method_38_code 226 = .ok (.iload 6, 2) := by decide +kernel
theorem d62_228 : decode prog_11_method_38_code 228 = .ok (.invokevirtual 164, 3) := by decide +kernel
theorem d62_231 : decode prog_11_method_38_code 231 = .ok (.iinc 6 1, 3) := by decide +kernel
theorem d62_234 : decode prog_11_method_38_code 234 = .ok (.goto (-15), 3) := by decide +kernel
theorem d62_237 : decode prog_11_method_38_code 237 = .ok (.iload 4, 2) := by decide +kernel
theorem d62_239 : decode prog_11_method_38_code 239 = .ok (.ireturn, 1) := by decide +kernel
theorem d63_0 : decode prog_11_method_39_code 0 = .ok (.iconst 1, 1) := by decide +kernel
theorem d63_1 : decode prog_11_method_39_code 1 = .ok (.istore_n 2, 1) := by decide +kernel
theorem d63_2 : decode prog_11_method_39_code 2 = .ok (.iload_n 2, 1) := by decide +kernel
theorem d63_3 : decode prog_11_method_39_code 3 = .ok (.aload_n 0, 1) := by decide +kernel
theorem d63_4 : decode prog_11_method_39_code 4 = .ok (.getfield 70, 3) := by decide +kernel
theorem d63_7 : decode prog_11_method_39_code 7 = .ok (.iload_n 1, 1) := by decide +kernel
theorem d63_8 : decode prog_11_method_39_code 8 = .ok (.iaload, 1) := by decide +kernel
theorem d63_9 : decode prog_11_method_39_code 9 = .ok (.if_icmp .ge 92, 3) := by decide +kernel
theorem d63_12 : decode prog_11_method_39_code 12 = .ok (.aload_n 0, 1) := by decide +kernel
theorem d63_13 : decode prog_11_method_39_code 13 = .ok (.getfield 67, 3) := by decide +kernel
theorem d63_16 : decode prog_11_method_39_code 16 = .ok (.bipush 80, 2) := by decide +kernel
theorem d63_18 : decode prog_11_method_39_code 18 = .ok (.iload_n 1, 1) := by decide +kernel
theorem d63_19 : decode prog_11_method_39_code 19 = .ok (.imul, 1) := by decide +kernel
theorem d63_20 : decode prog_11_method_39_code 20 = .ok (.iload_n 2, 1) := by decide +kernel
theorem d63_21 : decode prog_11_method_39_code 21 = .ok (.iadd, 1) := by decide +kernel
theorem d63_22 : decode prog_11_method_39_code 22 = .ok (.iaload, 1) := by decide +kernel
theorem d63_23 : decode prog_11_method_39_code 23 = .ok (.istore_n 3, 1) := by decide +kernel
theorem d63_24 : decode prog_11_method_39_code 24 = .ok (.iload_n 2, 1) := by decide +kernel
theorem d63_25 : decode prog_11_method_39_code 25 = .ok (.istore 4, 2) := by decide +kernel
theorem d63_27 : decode prog_11_method_39_code 27 = .ok (.iload 4, 2) := by decide +kernel
theorem d63_29 : decode prog_11_method_39_code 29 = .ok (.ifCond .le 53, 3) := by decide +kernel
theorem d63_32 : decode prog_11_method_39_code 32 = .ok (.aload_n 0, 1) := by decide +kernel
theorem d63_33 : decode prog_11_method_39_code 33 = .ok (.getfield 67, 3) := by decide +kernel
theorem d63_36 : decode prog_11_method_39_code 36 = .ok (.bipush 80, 2) := by decide +kernel
theorem d63_38 : decode prog_11_method_39_code 38 = .ok (.iload_n 1, 1) := by decide +kernel
theorem d63_39 : decode prog_11_method_39_code 39 = .ok (.imul, 1) := by decide +kernel
theorem d63_40 : decode prog_11_method_39_code 40 = .ok (.iload 4, 2) := by decide +kernel
theorem d63_42 : decode prog_11_method_39_code 42 = .ok (.iadd, 1) := by decide +kernel
theorem d63_43 : decode prog_11_method_39_code 43 = .ok (.iconst 1, 1) := by decide +kernel
theorem d63_44 : decode prog_11_method_39_code 44 = .ok (.isub, 1) := by decide +kernel
theorem d63_45 : decode prog_11_method_39_code 45 = .ok (.iaload, 1) := by decide +kernel
theorem d63_46 : decode prog_11_method_39_code 46 = .ok (.iload_n 3, 1) := by decide +kernel
theorem d63_47 : decode prog_11_method_39_code 47 = .ok (.if_icmp .le 35, 3) := by decide +kernel
theorem d63_50 : decode prog_11_method_39_code 50 = .ok (.aload_n 0, 1) := by decide +kernel
theorem d63_51 : decode prog_11_method_39_code 51 = .ok (.getfield 67, 3) := by decide +kernel
theorem d63_54 : decode prog_11_method_39_code 54 = .ok (.bipush 80, 2) := by decide +kernel
theorem d63_56 : decode prog_11_method_39_code 56 = .ok (.iload_n 1, 1) := by decide +kernel
theorem d63_57 : decode prog_11_method_39_code 57 = .ok (.imul, 1) := by decide +kernel
theorem d63_58 : decode prog_11_method_39_code 58 = .ok (.iload 4, 2) := by decide +kernel
theorem d63_60 : decode prog_11_method_39_code 60 = .ok (.iadd, 1) := by decide +kernel
theorem d63_61 : decode prog_11_method_39_code 61 = .ok (.aload_n 0, 1) := by decide +kernel
theorem d63_62 : decode prog_11_method_39_code 62 = .ok (.getfield 67, 3) := by decide +kernel
theorem d63_65 : decode prog_11_method_39_code 65 = .ok (.bipush 80, 2) := by decide +kernel
theorem d63_67 : decode prog_11_method_39_code 67 = .ok (.iload_n 1, 1) := by decide +kernel
theorem d63_68 : decode prog_11_method_39_code 68 = .ok (.imul, 1) := by decide +kernel
theorem d63_69 : decode prog_11_method_39_code 69 = .ok (.iload 4, 2) := by decide +kernel
theorem d63_71 : decode prog_11_method_39_code 71 = .ok (.iadd, 1) := by decide +kernel
theorem d63_72 : decode prog_11_method_39_code 72 = .ok (.iconst 1, 1) := by decide +kernel
theorem d63_73 : decode prog_11_method_39_code 73 = .ok (.isub, 1) := by decide +kernel
theorem d63_74 : decode prog_11_method_39_code 74 = .ok (.iaload, 1) := by decide +kernel
theorem d63_75 : decode prog_11_method_39_code 75 = .ok (.iastore, 1) := by decide +kernel
theorem d63_76 : decode prog_11_method_39_code 76 = .ok (.iinc 4 (-1), 3) := by decide +kernel
theorem d63_79 : decode prog_11_method_39_code 79 = .ok (.goto (-52), 3) := by decide +kernel
theorem d63_82 : decode prog_11_method_39_code 82 = .ok (.aload_n 0, 1) := by decide +kernel
theorem d63_83 : decode prog_11_method_39_code 83 = .ok (.getfield 67, 3) := by decide +kernel
theorem d63_86 : decode prog_11_method_39_code 86 = .ok (.bipush 80, 2) := by decide +kernel
theorem d63_88 : decode prog_11_method_39_code 88 = .ok (.iload_n 1, 1) := by decide +kernel
theorem d63_89 : decode prog_11_method_39_code 89 = .ok (.imul, 1) := by decide +kernel
theorem d63_90 : decode prog_11_method_39_code 90 = .ok (.iload 4, 2) := by decide +kernel
theorem d63_92 : decode prog_11_method_39_code 92 = .ok (.iadd, 1) := by decide +kernel
theorem d63_93 : decode prog_11_method_39_code 93 = .ok (.iload_n 3, 1) := by decide +kernel
theorem d63_94 : decode prog_11_method_39_code 94 = .ok (.iastore, 1) := by decide +kernel
theorem d63_95 : decode prog_11_method_39_code 95 = .ok (.iinc 2 1, 3) := by decide +kernel
theorem d63_98 : decode prog_11_method_39_code 98 = .ok (.goto (-96), 3) := by decide +kernel
theorem d63_101 : decode prog_11_method_39_code 101 = .ok (.aload_n 0, 1) := by decide +kernel
theorem d63_102 : decode prog_11_method_39_code 102 = .ok (.iload_n 1, 1) := by decide +kernel
theorem d63_103 : decode prog_11_method_39_code 103 = .ok (.invokevirtual 164, 3) := by decide +kernel
theorem d63_106 : decode prog_11_method_39_code 106 = .ok (.return_, 1) := by decide +kernel
theorem d64_0 : decode prog_11_method_40_code 0 = .ok (.bipush 80, 2) := by decide +kernel
theorem d64_2 : decode prog_11_method_40_code 2 = .ok (.iload_n 1, 1) := by decide +kernel
theorem d64_3 : decode prog_11_method_40_code 3 = .ok (.imul, 1) := by decide +kernel
theorem d64_4 : decode prog_11_method_40_code 4 = .ok (.istore_n 2, 1) := by decide +kernel
theorem d64_5 : decode prog_11_method_40_code 5 = .ok (.aload_n 0, 1) := by decide +kernel
theorem d64_6 : decode prog_11_method_40_code 6 = .ok (.getfield 70, 3) := by decide +kernel
theorem d64_9 : decode prog_11_method_40_code 9 = .ok (.iload_n 1, 1) := by decide +kernel
theorem d64_10 : decode prog_11_method_40_code 10 = .ok (.iaload, 1) := by decide +kernel
theorem d64_11 : decode prog_11_method_40_code 11 = .ok (.iconst 2, 1) := by decide +kernel
theorem d64_12 : decode prog_11_method_40_code 12 = .ok (.isub, 1) := by decide +kernel
theorem d64_13 : decode prog_11_method_40_code 13 = .ok (.istore_n 3, 1) := by decide +kernel
theorem d64_14 : decode prog_11_method_40_code 14 = .ok (.iload_n 3, 1) := by decide +kernel
theorem d64_15 : decode prog_11_method_40_code 15 = .ok (.ifCond .lt 30, 3) := by decide +kernel
theorem d64_18 : decode prog_11_method_40_code 18 = .ok (.aload_n 0, 1) := by decide +kernel
theorem d64_19 : decode prog_11_method_40_code 19 = .ok (.getfield 67, 3) := by decide +kernel
theorem d64_22 : decode prog_11_method_40_code 22 = .ok (.iload_n 2, 1) := by decide +kernel
theorem d64_23 : decode prog_11_method_40_code 23 = .ok (.iload_n 3, 1) := by decide +kernel
theorem d64_24 : decode prog_11_method_40_code 24 = .ok (.iadd, 1) := by decide +kernel
theorem d64_25 : decode prog_11_method_40_code 25 = .ok (.iaload, 1) := by decide +kernel
theorem d64_26 : decode prog_11_method_40_code 26 = .ok (.aload_n 0, 1) := by decide +kernel
theorem d64_27 : decode prog_11_method_40_code 27 = .ok (.getfield 67, 3) := by decide +kernel
theorem d64_30 : decode prog_11_method_40_code 30 = .ok (.iload_n 2, 1) := by decide +kernel
theorem d64_31 : decode prog_11_method_40_code 31 = .ok (.iload_n 3, 1) := by decide +kernel
theorem d64_32 : decode prog_11_method_40_code 32 = .ok (.iadd, 1) := by decide +kernel
theorem d64_33 : decode prog_11_method_40_code 33 = .ok (.iconst 1, 1) := by decide +kernel
theorem d64_34 : decode prog_11_method_40_code 34 = .ok (.iadd, 1) := by decide +kernel
theorem d64_35 : decode prog_11_method_40_code 35 = .ok (.iaload, 1) := by decide +kernel
theorem d64_36 : decode prog_11_method_40_code 36 = .ok (.if_icmp .le 9, 3) := by decide +kernel
theorem d64_39 : decode prog_11_method_40_code 39 = .ok (.iinc 3 (-1), 3) := by decide +kernel
theorem d64_42 : decode prog_11_method_40_code 42 = .ok (.goto (-28), 3) := by decide +kernel
theorem d64_45 : decode prog_11_method_40_code 45 = .ok (.iload_n 3, 1) := by decide +kernel
theorem d64_46 : decode prog_11_method_40_code 46 = .ok (.ifCond .ge 5, 3) := by decide +kernel
theorem d64_49 : decode prog_11_method_40_code 49 = .ok (.iconst 0, 1) := by decide +kernel
theorem d64_50 : decode prog_11_method_40_code 50 = .ok (.ireturn, 1) := by decide +kernel
theorem d64_51 : decode prog_11_method_40_code 51 = .ok (.aload_n 0, 1) := by decide +kernel
theorem d64_52 : decode prog_11_method_40_code 52 = .ok (.getfield 70, 3) := by decide +kernel
theorem d64_55 : decode prog_11_method_40_code 55 = .ok (.iload_n 1, 1) := by decide +kernel
theorem d64_56 : decode prog_11_method_40_code 56 = .ok (.iaload, 1) := by decide +kernel
theorem d64_57 : decode prog_11_method_40_code 57 = .ok (.iconst 1, 1) := by decide +kernel
theorem d64_58 : decode prog_11_method_40_code 58 = .ok (.isub, 1) := by decide +kernel
theorem d64_59 : decode prog_11_method_40_code 59 = .ok (.istore 4, 2) := by decide +kernel
theorem d64_61 : decode prog_11_method_40_code 61 = .ok (.aload_n 0, 1) := by decide +kernel
theorem d64_62 : decode prog_11_method_40_code 62 = .ok (.getfield 67, 3) := by decide +kernel
theorem d64_65 : decode prog_11_method_40_code 65 = .ok (.iload_n 2, 1) := by decide +kernel
theorem d64_66 : decode prog_11_method_40_code 66 = .ok (.iload 4, 2) := by decide +kernel
theorem d64_68 : decode prog_11_method_40_code 68 = .ok (.iadd, 1) := by decide +kernel
theorem d64_69 : decode prog_11_method_40_code 69 = .ok (.iaload, 1) := by decide +kernel
theorem d64_70 : decode prog_11_method_40_code 70 = .ok (.aload_n 0, 1) := by decide +kernel
theorem d64_71 : decode prog_11_method_40_code 71 = .ok (.getfield 67, 3) := by decide +kernel
theorem d64_74 : decode prog_11_method_40_code 74 = .ok (.iload_n 2, 1) := by decide +kernel
theorem d64_75 : decode prog_11_method_40_code 75 = .ok (.iload_n 3, 1) := by decide +kernel
theorem d64_76 : decode prog_11_method_40_code 76 = .ok (.iadd, 1) := by decide +kernel
theorem d64_77 : decode prog_11_method_40_code 77 = .ok (.iaload, 1) := by decide +kernel
theorem d64_78 : decode prog_11_method_40_code 78 = .ok (.if_icmp .ge 9, 3) := by decide +kernel
theorem d64_81 : decode prog_11_method_40_code 81 = .ok (.iinc 4 (-1), 3) := by decide +kernel
theorem d64_84 : decode prog_11_method_40_code 84 = .ok (.goto (-23), 3) := by decide +kernel
theorem d64_87 : decode prog_11_method_40_code 87 = .ok (.aload_n 0, 1) := by decide +kernel
theorem d64_88 : decode prog_11_method_40_code 88 = .ok (.getfield 67, 3) := by decide +kernel
theorem d64_91 : decode prog_11_method_40_code 91 = .ok (.iload_n 2, 1) := by decide +kernel
theorem d64_92 : decode prog_11_method_40_code 92 = .ok (.iload_n 3, 1) := by decide +kernel
theorem d64_93 : decode prog_11_method_40_code 93 = .ok (.iadd, 1) := by decide +kernel
theorem d64_94 : decode prog_11_method_40_code 94 = .ok (.iaload, 1) := by decide +kernel
theorem d64_95 : decode prog_11_method_40_code 95 = .ok (.istore 5, 2) := by decide +kernel
theorem d64_97 : decode prog_11_method_40_code 97 = .ok (.aload_n 0, 1) := by decide +kernel
theorem d64_98 : decode prog_11_method_40_code 98 = .ok (.getfield 67, 3) := by decide +kernel
theorem d64_101 : decode prog_11_method_40_code 101 = .ok (.iload_n 2, 1) := by decide +kernel
theorem d64_102 : decode prog_11_method_40_code 102 = .ok (.iload_n 3, 1) := by decide +kernel
theorem d64_103 : decode prog_11_method_40_code 103 = .ok (.iadd, 1) := by decide +kernel
theorem d64_104 : decode prog_11_method_40_code 104 = .ok (.aload_n 0, 1) := by decide +kernel
theorem d64_105 : decode prog_11_method_40_code 105 = .ok (.getfield 67, 3) := by decide +kernel
theorem d64_108 : decode prog_11_method_40_code 108 = .ok (.iload_n 2, 1) := by decide +kernel
theorem d64_109 : decode prog_11_method_40_code 109 = .ok (.iload 4, 2) := by decide +kernel
theorem d64_111 : decode prog_11_method_40_code 111 = .ok (.iadd, 1) := by decide +kernel
theorem d64_112 : decode prog_11_method_40_code 112 = .ok (.iaload, 1) := by decide +kernel
theorem d64_113 : decode prog_11_method_40_code 113 = .ok (.iastore, 1) := by decide +kernel
theorem d64_114 : decode prog_11_method_40_code 114 = .ok (.aload_n 0, 1) := by decide +kernel
theorem d64_115 : decode prog_11_method_40_code 115 = .ok (.getfield 67, 3) := by decide +kernel
theorem d64_118 : decode prog_11_method_40_code 118 = .ok (.iload_n 2, 1) := by decide +kernel
theorem d64_119 : decode prog_11_method_40_code 119 = .ok (.iload 4, 2) := by decide +kernel
theorem d64_121 : decode prog_11_method_40_code 121 = .ok (.iadd, 1) := by decide +kernel
theorem d64_122 : decode prog_11_method_40_code 122 = .ok (.iload 5, 2) := by decide +kernel
theorem d64_124 : decode prog_11_method_40_code 124 = .ok (.iastore, 1) := by decide +kernel
theorem d64_125 : decode prog_11_method_40_code 125 = .ok (.iload_n 3, 1) := by decide +kernel
theorem d64_126 : decode prog_11_method_40_code 126 = .ok (.iconst 1, 1) := by decide +kernel
theorem d64_127 : decode prog_11_method_40_code 127 = .ok (.iadd, 1) := by decide +kernel
theorem d64_128 : decode prog_11_method_40_code 128 = .ok (.istore 6, 2) := by decide +kernel
theorem d64_130 : decode prog_11_method_40_code 130 = .ok (.aload_n 0, 1) := by decide +kernel
theorem d64_131 : decode prog_11_method_40_code 131 = .ok (.getfield 70, 3) := by decide +kernel
theorem d64_134 : decode prog_11_method_40_code 134 = .ok (.iload_n 1, 1) := by decide +kernel
theorem d64_135 : decode prog_11_method_40_code 135 = .ok (.iaload, 1) := by decide +kernel
theorem d64_136 : decode prog_11_method_40_code 136 = .ok (.iconst 1, 1) := by decide +kernel
theorem d64_137 : decode prog_11_method_40_code 137 = .ok (.isub, 1) := by decide +kernel
theorem d64_138 : decode prog_11_method_40_code 138 = .ok (.istore 7, 2) := by decide +kernel
theorem d64_140 : decode prog_11_method_40_code 140 = .ok (.iload 6, 2) := by decide +kernel
theorem d64_142 : decode prog_11_method_40_code 142 = .ok (.iload 7, 2) := by decide +kernel
theorem d64_144 : decode prog_11_method_40_code 144 = .ok (.if_icmp .ge 52, 3) := by decide +kernel
theorem d64_147 : decode prog_11_method_40_code 147 = .ok (.aload_n 0, 1) := by decide +kernel
theorem d64_148 : decode prog_11_method_40_code 148 = .ok (.getfield 67, 3) := by decide +kernel
theorem d64_151 : decode prog_11_method_40_code 151 = .ok (.iload_n 2, 1) := by decide +kernel
theorem d64_152 : decode prog_11_method_40_code 152 = .ok (.iload 6, 2) := by decide +kernel
theorem d64_154 : decode prog_11_method_40_code 154 = .ok (.iadd, 1) := by decide +kernel
theorem d64_155 : decode prog_11_method_40_code 155 = .ok (.iaload, 1) := by decide +kernel
theorem d64_156 : decode prog_11_method_40_code 156 = .ok (.istore 5, 2) := by decide +kernel
theorem d64_158 : decode prog_11_method_40_code 158 = .ok (.aload_n 0, 1) := by decide +kernel
theorem d64_159 : decode prog_11_method_40_code 159 = .ok (.getfield 67, 3) := by decide +kernel
theorem d64_162 : decode prog_11_method_40_code 162 = .ok (.iload_n 2, 1) := by decide +kernel
theorem d64_163 : decode prog_11_method_40_code 163 = .ok (.iload 6, 2) := by decide +kernel
theorem d64_165 : decode prog_11_method_40_code 165 = .ok (.iadd, 1) := by decide +kernel
theorem d64_166 : decode prog_11_method_40_code 166 = .ok (.aload_n 0, 1) := by decide +kernel
theorem d64_167 : decode prog_11_method_40_code 167 = .ok (.getfield 67, 3) := by decide +kernel
theorem d64_170 : decode prog_11_method_40_code 170 = .ok (.iload_n 2, 1) := by decide +kernel
theorem d64_171 : decode prog_11_method_40_code 171 = .ok (.iload 7, 2) := by decide +kernel
theorem d64_173 : decode prog_11_method_40_code 173 = .ok (.iadd, 1) := by decide +kernel
theorem d64_174 : decode prog_11_method_40_code 174 = .ok (.iaload, 1) := by decide +kernel
theorem d64_175 : decode prog_11_method_40_code 175 = .ok (.iastore, 1) := by decide +kernel
theorem d64_176 : decode prog_11_method_40_code 176 = .ok (.aload_n 0, 1) := by decide +kernel
theorem d64_177 : decode prog_11_method_40_code 177 = .ok (.getfield 67, 3) := by decide +kernel
theorem d64_180 : decode prog_11_method_40_code 180 = .ok (.iload_n 2, 1) := by decide +kernel
theorem d64_181 : decode prog_11_method_40_code 181 = .ok (.iload 7, 2) := by decide +kernel
theorem d64_183 : decode prog_11_method_40_code 183 = .ok (.iadd, 1) := by decide +kernel
theorem d64_184 : decode prog_11_method_40_code 184 = .ok (.iload 5, 2) := by decide +kernel
theorem d64_186 : decode prog_11_method_40_code 186 = .ok (.iastore, 1) := by decide +kernel
theorem d64_187 : decode prog_11_method_40_code 187 = .ok (.iinc 6 1, 3) := by decide +kernel
theorem d64_190 : decode prog_11_method_40_code 190 = .ok (.iinc 7 (-1), 3) := by decide +kernel
theorem d64_193 : decode prog_11_method_40_code 193 = .ok (.goto (-53), 3) := by decide +kernel
theorem d64_196 : decode prog_11_method_40_code 196 = .ok (.aload_n 0, 1) := by decide +kernel
theorem d64_197 : decode prog_11_method_40_code 197 = .ok (.iload_n 1, 1) := by decide +kernel
theorem d64_198 : decode prog_11_method_40_code 198 = .ok (.invokevirtual 164, 3) := by decide +kernel
theorem d64_201 : decode prog_11_method_40_code 201 = .ok (.iconst 1, 1) := by decide +kernel
theorem d64_202 : decode prog_11_method_40_code 202 = .ok (.ireturn, 1) := by decide +kernel
theorem d65_0 : decode prog_11_method_41_code 0 = .ok (.aload_n 0, 1) := by decide +kernel
theorem d65_1 : decode prog_11_method_41_code 1 = .ok (.getfield 103, 3) := by decide +kernel
theorem d65_4 : decode prog_11_method_41_code 4 = .ok (.ifCond .ne 8, 3) := by decide +kernel
theorem d65_7 : decode prog_11_method_41_code 7 = .ok (.bipush (-3), 2) := by decide +kernel
theorem d65_9 : decode prog_11_method_41_code 9 = .ok (.goto 32, 3) := by decide +kernel
theorem d65_12 : decode prog_11_method_41_code 12 = .ok (.iload_n 1, 1) := by decide +kernel
theorem d65_13 : decode prog_11_method_41_code 13 = .ok (.ifCond .lt 18, 3) := by decide +kernel
theorem d65_16 : decode prog_11_method_41_code 16 = .ok (.iload_n 1, 1) := by decide +kernel
theorem d65_17 : decode prog_11_method_41_code 17 = .ok (.bipush 80, 2) := by decide +kernel
theorem d65_19 : decode prog_11_method_41_code 19 = .ok (.if_icmp .ge 12, 3) := by decide +kernel
theorem d65_22 : decode prog_11_method_41_code 22 = .ok (.aload_n 0, 1) := by decide +kernel
theorem d65_23 : decode prog_11_method_41_code 23 = .ok (.getfield 55, 3) := by decide +kernel
theorem d65_26 : decode prog_11_method_41_code 26 = .ok (.iload_n 1, 1) := by decide +kernel
theorem d65_27 : decode prog_11_method_41_code 27 = .ok (.baload, 1) := by decide +kernel
theorem d65_28 : decode prog_11_method_41_code 28 = .ok (.ifCond .ne 7, 3) := by decide +kernel
theorem d65_31 : decode prog_11_method_41_code 31 = .ok (.iconst (-1), 1) := by decide +kernel
theorem d65_32 : decode prog_11_method_41_code 32 = .ok (.goto 9, 3) := by decide +kernel
theorem d65_35 : decode prog_11_method_41_code 35 = .ok (.aload_n 0, 1) := by decide +kernel
theorem d65_36 : decode prog_11_method_41_code 36 = .ok (.getfield 79, 3) := by decide +kernel
theorem d65_39 : decode prog_11_method_41_code 39 = .ok (.iload_n 1, 1) := by decide +kernel
theorem d65_40 : decode prog_11_method_41_code 40 = .ok (.iaload, 1) := by decide +kernel
theorem d65_41 : decode prog_11_method_41_code 41 = .ok (.ireturn, 1) := by decide +kernel
theorem d66_0 : decode prog_11_method_42_code 0 = .ok (.aload_n 0, 1) := by decide +kernel
theorem d66_1 : decode prog_11_method_42_code 1 = .ok (.getfield 103, 3) := by decide +kernel
theorem d66_4 : decode prog_11_method_42_code 4 = .ok (.ifCond .ne 6, 3) := by decide +kernel
theorem d66_7 : decode prog_11_method_42_code 7 = .ok (.bipush (-3), 2) := by decide +kernel
theorem d66_9 : decode prog_11_method_42_code 9 = .ok (.ireturn, 1) := by decide +kernel
theorem d66_10 : decode prog_11_method_42_code 10 = .ok (.aload_n 0, 1) := by decide +kernel
theorem d66_11 : decode prog_11_method_42_code 11 = .ok (.iload_n 1, 1) := by decide +kernel
theorem d66_12 : decode prog_11_method_42_code 12 = .ok (.invokevirtual 123, 3) := by decide +kernel
theorem d66_15 : decode prog_11_method_42_code 15 = .ok (.ifCond .eq 34, 3) := by decide +kernel
theorem d66_18 : decode prog_11_method_42_code 18 = .ok (.iload_n 2, 1) := by decide +kernel
theorem d66_19 : decode prog_11_method_42_code 19 = .ok (.ifCond .lt 30, 3) := by decide +kernel
theorem d66_22 : decode prog_11_method_42_code 22 = .ok (.iload_n 2, 1) := by decide +kernel
theorem d66_23 : decode prog_11_method_42_code 23 = .ok (.aload_n 0, 1) := by decide +kernel
theorem d66_24 : decode prog_11_method_42_code 24 = .ok (.getfield 30, 3) := by decide +kernel
theorem d66_27 : decode prog_11_method_42_code 27 = .ok (.aload_n 0, 1) := by decide +kernel
theorem d66_28 : decode prog_11_method_42_code 28 = .ok (.getfield 36, 3) := by decide +kernel
theorem d66_31 : decode prog_11_method_42_code 31 = .ok (.iload_n 1, 1) := by decide +kernel
theorem d66_32 : decode prog_11_method_42_code 32 = .ok (.iaload, 1) := by decide +kernel
theorem d66_33 : decode prog_11_method_42_code 33 = .ok (.iaload, 1) := by decide +kernel
theorem d66_34 : decode prog_11_method_42_code 34 = .ok (.aload_n 0, 1) := by decide +kernel
theorem d66_35 : decode prog_11_method_42_code 35 = .ok (.getfield 30, 3) := by decide +kernel
theorem d66_38 : decode prog_11_method_42_code 38 = .ok (.aload_n 0, 1) := by decide +kernel
theorem d66_39 : decode prog_11_method_42_code 39 = .ok (.getfield 33, 3) := by decide +kernel
theorem d66_42 : decode prog_11_method_42_code 42 = .ok (.iload_n 1, 1) := by decide +kernel
theorem d66_43 : decode prog_11_method_42_code 43 = .ok (.iaload, 1) := by decide +kernel
theorem d66_44 : decode prog_11_method_42_code 44 = .ok (.iaload, 1) := by decide +kernel
theorem d66_45 : decode prog_11_method_42_code 45 = .ok (.isub, 1) := by decide +kernel
theorem d66_46 : decode prog_11_method_42_code 46 = .ok (.if_icmp .le 5, 3) := by decide +kernel
theorem d66_49 : decode prog_11_method_42_code 49 = .ok (.iconst (-1), 1) := by decide +kernel
theorem d66_50 : decode prog_11_method_42_code 50 = .ok (.ireturn, 1) := by decide +kernel
theorem d66_51 : decode prog_11_method_42_code 51 = .ok (.iload_n 2, 1) := by decide +kernel
theorem d66_52 : decode prog_11_method_42_code 52 = .ok (.ifCond .ne 12, 3) := by decide +kernel
theorem d66_55 : decode prog_11_method_42_code 55 = .ok (.aload_n 0, 1) := by decide +kernel
theorem d66_56 : decode prog_11_method_42_code 56 = .ok (.getfield 33, 3) := by decide +kernel
theorem d66_59 : decode prog_11_method_42_code 59 = .ok (.iload_n 1, 1) := by decide +kernel
theorem d66_60 : decode prog_11_method_42_code 60 = .ok (.iaload, 1) := by decide +kernel
theorem d66_61 : decode prog_11_method_42_code 61 = .ok (.goto 49, 3) := by decide +kernel
theorem d66_64 : decode prog_11_method_42_code 64 = .ok (.iload_n 2, 1) := by decide +kernel
theorem d66_65 : decode prog_11_method_42_code 65 = .ok (.aload_n 0, 1) := by decide +kernel
theorem d66_66 : decode prog_11_method_42_code 66 = .ok (.getfield 30, 3) := by decide +kernel
theorem d66_69 : decode prog_11_method_42_code 69 = .ok (.aload_n 0, 1) := by decide +kernel
theorem d66_70 : decode prog_11_method_42_code 70 = .ok (.getfield 36, 3) := by decide +kernel
theorem d66_73 : decode prog_11_method_42_code 73 = .ok (.iload_n 1, 1) := by decide +kernel
theorem d66_74 : decode prog_11_method_42_code 74 = .ok (.iaload, 1) := by decide +kernel
theorem d66_75 : decode prog_11_method_42_code 75 = .ok (.iaload, 1) := by decide +kernel
theorem d66_76 : decode prog_11_method_42_code 76 = .ok (.aload_n 0, 1) := by decide +kernel
theorem d66_77 : decode prog_11_method_42_code 77 = .ok (.getfield 30, 3) := by decide +kernel
theorem d66_80 : decode prog_11_method_42_code 80 = .ok (.aload_n 0, 1) := by decide +kernel
theorem d66_81 : decode prog_11_method_42_code 81 = .ok (.getfield 33, 3) := by decide +kernel
theorem d66_84 : decode prog_11_method_42_code 84 = .ok (.iload_n 1, 1) := by decide +kernel
theorem d66_85 : decode prog_11_method_42_code 85 = .ok (.iaload, 1) := by decide +kernel
theorem d66_86 : decode prog_11_method_42_code 86 = .ok (.iaload, 1) := by decide +kernel
theorem d66_87 : decode prog_11_method_42_code 87 = .ok (.isub, 1) := by decide +kernel
theorem d66_88 : decode prog_11_method_42_code 88 = .ok (.if_icmp .ne 12, 3) := by decide +kernel
theorem d66_91 : decode prog_11_method_42_code 91 = .ok (.aload_n 0, 1) := by decide +kernel
theorem d66_92 : decode prog_11_method_42_code 92 = .ok (.getfield 36, 3) := by decide +kernel
theorem d66_95 : decode prog_11_method_42_code 95 = .ok (.iload_n 1, 1) := by decide +kernel
theorem d66_96 : decode prog_11_method_42_code 96 = .ok (.iaload, 1) := by decide +kernel
theorem d66_97 : decode prog_11_method_42_code 97 = .ok (.goto 13, 3) := by decide +kernel
theorem d66_100 : decode prog_11_method_42_code 100 = .ok (.aload_n 0, 1) := by decide +kernel
theorem d66_101 : decode prog_11_method_42_code 101 = .ok (.getfield 58, 3) := by decide +kernel
theorem d66_104 : decode prog_11_method_42_code 104 = .ok (.iload_n 1, 1) := by decide +kernel
theorem d66_105 : decode prog_11_method_42_code 105 = .ok (.iaload, 1) := by decide +kernel
theorem d66_106 : decode prog_11_method_42_code 106 = .ok (.iload_n 2, 1) := by decide +kernel
theorem d66_107 : decode prog_11_method_42_code 107 = .ok (.iadd, 1) := by decide +kernel
theorem d66_108 : decode prog_11_method_42_code 108 = .ok (.iconst 1, 1) := by decide +kernel
theorem d66_109 : decode prog_11_method_42_code 109 = .ok (.isub, 1) := by decide +kernel
theorem d66_110 : decode prog_11_method_42_code 110 = .ok (.ireturn, 1) := by decide +kernel
theorem d67_0 : decode prog_11_method_43_code 0 = .ok (.aload_n 0, 1) := by decide +kernel
theorem d67_1 : decode prog_11_method_43_code 1 = .ok (.getfield 103, 3) := by decide +kernel
theorem d67_4 : decode prog_11_method_43_code 4 = .ok (.ifCond .ne 6, 3) := by decide +kernel
theorem d67_7 : decode prog_11_method_43_code 7 = .ok (.bipush (-3), 2) := by decide +kernel
theorem d67_9 : decode prog_11_method_43_code 9 = .ok (.ireturn, 1) := by decide +kernel
theorem d67_10 : decode prog_11_method_43_code 10 = .ok (.iconst 0, 1) := by decide +kernel
theorem d67_11 : decode prog_11_method_43_code 11 = .ok (.istore_n 1, 1) := by decide +kernel
theorem d67_12 : decode prog_11_method_43_code 12 = .ok (.iconst 0, 1) := by decide +kernel
theorem d67_13 : decode prog_11_method_43_code 13 = .ok (.istore_n 2, 1) := by decide +kernel
theorem d67_14 : decode prog_11_method_43_code 14 = .ok (.iconst 0, 1) := by decide +kernel
theorem d67_15 : decode prog_11_method_43_code 15 = .ok (.istore_n 3, 1) := by decide +kernel
theorem d67_16 : decode prog_11_method_43_code 16 = .ok (.iload_n 3, 1) := by decide +kernel
theorem d67_17 : decode prog_11_method_43_code 17 = .ok (.bipush 80, 2) := by decide +kernel
theorem d67_19 : decode prog_11_method_43_code 19 = .ok (.if_icmp .ge 51, 3) := by decide +kernel
theorem d67_22 : decode prog_11_method_43_code 22 = .ok (.aload_n 0, 1) := by decide +kernel
theorem d67_23 : decode prog_11_method_43_code 23 = .ok (.getfield 55, 3) := by decide +kernel
theorem d67_26 : decode prog_11_method_43_code 26 = .ok (.iload_n 3, 1) := by decide +kernel
theorem d67_27 : decode prog_11_method_43_code 27 = .ok (.baload, 1) := by decide +kernel
theorem d67_28 : decode prog_11_method_43_code 28 = .ok (.ifCond .eq 36, 3) := by decide +kernel
theorem d67_31 : decode prog_11_method_43_code 31 = .ok (.aload_n 0, 1) := by decide +kernel
theorem d67_32 : decode prog_11_method_43_code 32 = .ok (.getfield 79, 3) := by decide +kernel
theorem d67_35 : decode prog_11_method_43_code 35 = .ok (.iload_n 3, 1) := by decide +kernel
theorem d67_36 : decode prog_11_method_43_code 36 = .ok (.iaload, 1) := by decide +kernel
theorem d67_37 : decode prog_11_method_43_code 37 = .ok (.aload_n 0, 1) := by decide +kernel
theorem d67_38 : decode prog_11_method_43_code 38 = .ok (.iload_n 3, 1) := by decide +kernel
theorem d67_39 : decode prog_11_method_43_code 39 = .ok (.invokevirtual 190, 3) := by decide +kernel
theorem d67_42 : decode prog_11_method_43_code 42 = .ok (.iadd, 1) := by decide +kernel
theorem d67_43 : decode prog_11_method_43_code 43 = .ok (.istore 4, 2) := by decide +kernel
theorem d67_45 : decode prog_11_method_43_code 45 = .ok (.iload_n 2, 1) := by decide +kernel
theorem d67_46 : decode prog_11_method_43_code 46 = .ok (.ifCond .eq 9, 3) := by decide +kernel
theorem d67_49 : decode prog_11_method_43_code 49 = .ok (.iload 4, 2) := by decide +kernel
theorem d67_51 : decode prog_11_method_43_code 51 = .ok (.iload_n 1, 1) := by decide +kernel
theorem d67_52 : decode prog_11_method_43_code 52 = .ok (.if_icmp .le 8, 3) := by decide +kernel
theorem d67_55 : decode prog_11_method_43_code 55 = .ok (.iload 4, 2) := by decide +kernel
theorem d67_57 : decode prog_11_method_43_code 57 = .ok (.goto 4, 3) := by decide +kernel
theorem d67_60 : decode prog_11_method_43_code 60 = .ok (.iload_n 1, 1) := by decide +kernel
theorem d67_61 : decode prog_11_method_43_code 61 = .ok (.istore_n 1, 1) := by decide +kernel
theorem d67_62 : decode prog_11_method_43_code 62 = .ok (.iconst 1, 1) := by decide +kernel
theorem d67_63 : decode prog_11_method_43_code 63 = .ok (.istore_n 2, 1) := by decide +kernel
theorem d67_64 : decode prog_11_method_43_code 64 = .ok (.iinc 3 1, 3) := by decide +kernel
theorem d67_67 : decode prog_11_method_43_code 67 = .ok (.goto (-51), 3) := by decide +kernel
theorem d67_70 : decode prog_11_method_43_code 70 = .ok (.iload_n 1, 1) := by decide +kernel
theorem d67_71 : decode prog_11_method_43_code 71 = .ok (.ireturn, 1) := by decide +kernel
theorem d68_0 : decode prog_11_method_44_code 0 = .ok (.iconst 0, 1) := by decide +kernel
theorem d68_1 : decode prog_11_method_44_code 1 = .ok (.istore_n 1, 1) := by decide +kernel
theorem d68_2 : decode prog_11_method_44_code 2 = .ok (.iconst 0, 1) := by decide +kernel
theorem d68_3 : decode prog_11_method_44_code 3 = .ok (.istore_n 2, 1) := by decide +kernel
theorem d68_4 : decode prog_11_method_44_code 4 = .ok (.iload_n 2, 1) := by decide +kernel
theorem d68_5 : decode prog_11_method_44_code 5 = .ok (.aload_n 0, 1) := by decide +kernel
theorem d68_6 : decode prog_11_method_44_code 6 = .ok (.getfield 106, 3) := by decide +kernel
theorem d68_9 : decode prog_11_method_44_code 9 = .ok (.if_icmp .ge 16, 3) := by decide +kernel
theorem d68_12 : decode prog_11_method_44_code 12 = .ok (.aload_n 0, 1) := by decide +kernel
theorem d68_13 : decode prog_11_method_44_code 13 = .ok (.getfield 88, 3) := by decide +kernel
theorem d68_16 : decode prog_11_method_44_code 16 = .ok (.iload_n 2, 1) := by decide +kernel
theorem d68_17 : decode prog_11_method_44_code 17 = .ok (.iconst (-1), 1) := by decide +kernel
theorem d68_18 : decode prog_11_method_44_code 18 = .ok (.iastore, 1) := by decide +kernel
theorem d68_19 : decode prog_11_method_44_code 19 = .ok (.iinc 2 1, 3) := by decide +kernel
theorem d68_22 : decode prog_11_method_44_code 22 = .ok (.goto (-18), 3) := by decide +kernel
theorem d68_25 : decode prog_11_method_44_code 25 = .ok (.iconst 0, 1) := by decide +kernel
theorem d68_26 : decode prog_11_method_44_code 26 = .ok (.istore_n 2, 1) := by decide +kernel
theorem d68_27 : decode prog_11_method_44_code 27 = .ok (.iload_n 2, 1) := by decide +kernel
theorem d68_28 : decode prog_11_method_44_code 28 = .ok (.aload_n 0, 1) := by decide +kernel
theorem d68_29 : decode prog_11_method_44_code 29 = .ok (.getfield 110, 3) := by decide +kernel
theorem d68_32 : decode prog_11_method_44_code 32 = .ok (.if_icmp .ge 60, 3) := by decide +kernel
theorem d68_35 : decode prog_11_method_44_code 35 = .ok (.aload_n 0, 1) := by decide +kernel
theorem d68_36 : decode prog_11_method_44_code 36 = .ok (.getfield 19, 3) := by decide +kernel
theorem d68_39 : decode prog_11_method_44_code 39 = .ok (.iload_n 2, 1) := by decide +kernel
theorem d68_40 : decode prog_11_method_44_code 40 = .ok (.baload, 1) := by decide +kernel
theorem d68_41 : decode prog_11_method_44_code 41 = .ok (.ifCond .eq 45, 3) := by decide +kernel
theorem d68_44 : decode prog_11_method_44_code 44 = .ok (.aload_n 0, 1) := by decide +kernel
theorem d68_45 : decode prog_11_method_44_code 45 = .ok (.getfield 27, 3) := by decide +kernel
theorem d68_48 : decode prog_11_method_44_code 48 = .ok (.iload_n 2, 1) := by decide +kernel
theorem d68_49 : decode prog_11_method_44_code 49 = .ok (.baload, 1) := by decide +kernel
theorem d68_50 : decode prog_11_method_44_code 50 = .ok (.ifCond .ne 17, 3) := by decide +kernel
theorem d68_53 : decode prog_11_method_44_code 53 = .ok (.aload_n 0, 1) := by decide +kernel
theorem d68_54 : decode prog_11_method_44_code 54 = .ok (.getfield 88, 3) := by decide +kernel
theorem d68_57 : decode prog_11_method_44_code 57 = .ok (.aload_n 0, 1) := by decide +kernel
theorem d68_58 : decode prog_11_method_44_code 58 = .ok (.getfield 16, 3) := by decide +kernel
theorem d68_61 : decode prog_11_method_44_code 61 = .ok (.iload_n 2, 1) := by decide +kernel
theorem d68_62 : decode prog_11_method_44_code 62 = .ok (.iaload, 1) := by decide +kernel
theorem d68_63 : decode prog_11_method_44_code 63 = .ok (.iaload, 1) := by decide +kernel
theorem d68_64 : decode prog_11_method_44_code 64 = .ok (.ifCond .lt 5, 3) := by decide +kernel
theorem d68_67 : decode prog_11_method_44_code 67 = .ok (.iconst 0, 1) := by decide +kernel
theorem d68_68 : decode prog_11_method_44_code 68 = .ok (.ireturn, 1) := by decide +kernel
theorem d68_69 : decode prog_11_method_44_code 69 = .ok (.aload_n 0, 1) := by decide +kernel
theorem d68_70 : decode prog_11_method_44_code 70 = .ok (.getfield 88, 3) := by decide +kernel
theorem d68_73 : decode prog_11_method_44_code 73 = .ok (.aload_n 0, 1) := by decide +kernel
theorem d68_74 : decode prog_11_method_44_code 74 = .ok (.getfield 16, 3) := by decide +kernel
theorem d68_77 : decode prog_11_method_44_code 77 = .ok (.iload_n 2, 1) := by decide +kernel
theorem d68_78 : decode prog_11_method_44_code 78 = .ok (.iaload, 1) := by decide +kernel
theorem d68_79 : decode prog_11_method_44_code 79 = .ok (.aload_n 0, 1) := by decide +kernel
theorem d68_80 : decode prog_11_method_44_code 80 = .ok (.getfield 13, 3) := by decide +kernel
theorem d68_83 : decode prog_11_method_44_code 83 = .ok (.iload_n 2, 1) := by decide +kernel
theorem d68_84 : decode prog_11_method_44_code 84 = .ok (.iaload, 1) := by decide +kernel
theorem d68_85 : decode prog_11_method_44_code 85 = .ok (.iastore, 1) := by decide +kernel
theorem d68_86 : decode prog_11_method_44_code 86 = .ok (.iinc 2 1, 3) := by decide +kernel
theorem d68_89 : decode prog_11_method_44_code 89 = .ok (.goto (-62), 3) := by decide +kernel
theorem d68_92 : decode prog_11_method_44_code 92 = .ok (.iconst 0, 1) := by decide +kernel
theorem d68_93 : decode prog_11_method_44_code 93 = .ok (.istore_n 2, 1) := by decide +kernel
theorem d68_94 : decode prog_11_method_44_code 94 = .ok (.iload_n 2, 1) := by decide +kernel
theorem d68_95 : decode prog_11_method_44_code 95 = .ok (.aload_n 0, 1) := by decide +kernel
theorem d68_96 : decode prog_11_method_44_code 96 = .ok (.getfield 106, 3) := by decide +kernel
theorem d68_99 : decode prog_11_method_44_code 99 = .ok (.if_icmp .ge 64, 3) := by decide +kernel
theorem d68_102 : decode prog_11_method_44_code 102 = .ok (.iload_n 1, 1) := by decide +kernel
theorem d68_103 : decode prog_11_method_44_code 103 = .ok (.aload_n 0, 1) := by decide +kernel
theorem d68_104 : decode prog_11_method_44_code 104 = .ok (.getfield 88, 3) := by decide +kernel
theorem d68_107 : decode prog_11_method_44_code 107 = .ok (.iload_n 2, 1) := by decide +kernel
theorem d68_108 : decode prog_11_method_44_code 108 = .ok (.iaload, 1) := by decide +kernel
theorem d68_109 : decode prog_11_method_44_code 109 = .ok (.ifCond .ge 7, 3) := by decide +kernel
theorem d68_112 : decode prog_11_method_44_code 112 = .ok (.iconst 1, 1) := by decide +kernel
theorem d68_113 : decode prog_11_method_44_code 113 = .ok (.goto 4, 3) := by decide +kernel
theorem d68_116 : decode prog_11_method_44_code 116 = .ok (.iconst 0, 1) := by decide +kernel
theorem d68_117 : decode prog_11_method_44_code 117 = .ok (.iadd, 1) := by decide +kernel
theorem d68_118 : decode prog_11_method_44_code 118 = .ok (.istore_n 1, 1) := by decide +kernel
theorem d68_119 : decode prog_11_method_44_code 119 = .ok (.aload_n 0, 1) := by decide +kernel
theorem d68_120 : decode prog_11_method_44_code 120 = .ok (.getfield 91, 3) := by decide +kernel
theorem d68_123 : decode prog_11_method_44_code 123 = .ok (.iload_n 2, 1) := by decide +kernel
theorem d68_124 : decode prog_11_method_44_code 124 = .ok (.iconst 0, 1) := by decide +kernel
theorem d68_125 : decode prog_11_method_44_code 125 = .ok (.iastore, 1) := by decide +kernel
theorem d68_126 : decode prog_11_method_44_code 126 = .ok (.iload_n 2, 1) := by decide +kernel
theorem d68_127 : decode prog_11_method_44_code 127 = .ok (.istore_n 3, 1) := by decide +kernel
theorem d68_128 : decode prog_11_method_44_code 128 = .ok (.aload_n 0, 1) := by decide +kernel
theorem d68_129 : decode prog_11_method_44_code 129 = .ok (.getfield 88, 3) := by decide +kernel
theorem d68_132 : decode prog_11_method_44_code 132 = .ok (.iload_n 3, 1) := by decide +kernel
theorem d68_133 : decode prog_11_method_44_code 133 = .ok (.iaload, 1) := by decide +kernel
theorem d68_134 : decode prog_11_method_44_code 134 = .ok (.ifCond .lt 23, 3) := by decide +kernel
theorem d68_137 : decode prog_11_method_44_code 137 = .ok (.aload_n 0, 1) := by decide +kernel
theorem d68_138 : decode prog_11_method_44_code 138 = .ok (.getfield 88, 3) := by decide +kernel
theorem d68_141 : decode prog_11_method_44_code 141 = .ok (.iload_n 3, 1) := by decide +kernel
theorem d68_142 : decode prog_11_method_44_code 142 = .ok (.iaload, 1) := by decide +kernel
theorem d68_143 : decode prog_11_method_44_code 143 = .ok (.istore_n 3, 1) := by decide +kernel
theorem d68_144 : decode prog_11_method_44_code 144 = .ok (.aload_n 0, 1) := by decide +kernel
theorem d68_145 : decode prog_11_method_44_code 145 = .ok (.getfield 91, 3) := by decide +kernel
theorem d68_148 : decode prog_11_method_44_code 148 = .ok (.iload_n 2, 1) := by decide +kernel
theorem d68_149 : decode prog_11_method_44_code 149 = .ok (.dup2, 1) := by decide +kernel
theorem d68_150 : decode prog_11_method_44_code 150 = .ok (.iaload, 1) := by decide +kernel
theorem d68_151 : decode prog_11_method_44_code 151 = .ok (.iconst 1, 1) := by decide +kernel
theorem d68_152 : decode prog_11_method_44_code 152 = .ok (.iadd, 1) := by decide +kernel
theorem d68_153 : decode prog_11_method_44_code 153 = .ok (.iastore, 1) := by decide +kernel
theorem d68_154 : decode prog_11_method_44_code 154 = .ok (.goto (-26), 3) := by decide +kernel
theorem d68_157 : decode prog_11_method_44_code 157 = .ok (.iinc 2 1, 3) := by decide +kernel
theorem d68_160 : decode prog_11_method_44_code 160 = .ok (.goto (-66), 3) := by decide +kernel
theorem d68_163 : decode prog_11_method_44_code 163 = .ok (.iload_n 1, 1) := by decide +kernel
theorem d68_164 : decode prog_11_method_44_code 164 = .ok (.iconst 1, 1) := by decide +kernel
theorem d68_165 : decode prog_11_method_44_code 165 = .ok (.if_icmp .ne 7, 3) := by decide +kernel
theorem d68_168 : decode prog_11_method_44_code 168 = .ok (.iconst 1, 1) := by decide +kernel
theorem d68_169 : decode prog_11_method_44_code 169 = .ok (.goto 4, 3) := by decide +kernel
theorem d68_172 : decode prog_11_method_44_code 172 = .ok (.iconst 0, 1) := by decide +kernel
theorem d68_173 : decode prog_11_method_44_code 173 = .ok (.ireturn, 1) := by decide +kernel
theorem d69_0 : decode prog_11_method_45_code 0 = .ok (.aload_n 0, 1) := by decide +kernel
theorem d69_1 : decode prog_11_method_45_code 1 = .ok (.iload_n 1, 1) := by decide +kernel
theorem d69_2 : decode prog_11_method_45_code 2 = .ok (.invokevirtual 116, 3) := by decide +kernel
theorem d69_5 : decode prog_11_method_45_code 5 = .ok (.ifCond .ne 5, 3) := by decide +kernel
theorem d69_8 : decode prog_11_method_45_code 8 = .ok (.iconst (-1), 1) := by decide +kernel
theorem d69_9 : decode prog_11_method_45_code 9 = .ok (.ireturn, 1) := by decide +kernel
theorem d69_10 : decode prog_11_method_45_code 10 = .ok (.aload_n 0, 1) := by decide +kernel
theorem d69_11 : decode prog_11_method_45_code 11 = .ok (.invokevirtual 148, 3) := by decide +kernel
theorem d69_14 : decode prog_11_method_45_code 14 = .ok (.aload_n 0, 1) := by decide +kernel
theorem d69_15 : decode prog_11_method_45_code 15 = .ok (.invokevirtual 205, 3) := by decide +kernel
theorem d69_18 : decode prog_11_method_45_code 18 = .ok (.ifCond .ne 6, 3) := by decide +kernel
theorem d69_21 : decode prog_11_method_45_code 21 = .ok (.bipush (-3), 2) := by decide +kernel
theorem d69_23 : decode prog_11_method_45_code 23 = .ok (.ireturn, 1) := by decide +kernel
theorem d69_24 : decode prog_11_method_45_code 24 = .ok (.iconst 0, 1) := by decide +kernel
theorem d69_25 : decode prog_11_method_45_code 25 = .ok (.istore_n 2, 1) := by decide +kernel
theorem d69_26 : decode prog_11_method_45_code 26 = .ok (.iload_n 2, 1) := by decide +kernel
theorem d69_27 : decode prog_11_method_45_code 27 = .ok (.aload_n 0, 1) := by decide +kernel
theorem d69_28 : decode prog_11_method_45_code 28 = .ok (.getfield 106, 3) := by decide +kernel
theorem d69_31 : decode prog_11_method_45_code 31 = .ok (.if_icmp .ge 25, 3) := by decide +kernel
theorem d69_34 : decode prog_11_method_45_code 34 = .ok (.aload_n 0, 1) := by decide +kernel
theorem d69_35 : decode prog_11_method_45_code 35 = .ok (.getfield 94, 3) := by decide +kernel
theorem d69_38 : decode prog_11_method_45_code 38 = .ok (.iload_n 2, 1) := by decide +kernel
theorem d69_39 : decode prog_11_method_45_code 39 = .ok (.iconst 1, 1) := by decide +kernel
theorem d69_40 : decode prog_11_method_45_code 40 = .ok (.iload_n 2, 1) := by decide +kernel
theorem d69_41 : decode prog_11_method_45_code 41 = .ok (.ishl, 1) := by decide +kernel
theorem d69_42 : decode prog_11_method_45_code 42 = .ok (.iastore, 1) := by decide +kernel
theorem d69_43 : decode prog_11_method_45_code 43 = .ok (.aload_n 0, 1) := by decide +kernel
theorem d69_44 : decode prog_11_method_45_code 44 = .ok (.getfield 97, 3) := by decide +kernel
theorem d69_47 : decode prog_11_method_45_code 47 = .ok (.iload_n 2, 1) := by decide +kernel
theorem d69_48 : decode prog_11_method_45_code 48 = .ok (.iconst 0, 1) := by decide +kernel
theorem d69_49 : decode prog_11_method_45_code 49 = .ok (.iastore, 1) := by decide +kernel
theorem d69_50 : decode prog_11_method_45_code 50 = .ok (.iinc 2 1, 3) := by decide +kernel
theorem d69_53 : decode prog_11_method_45_code 53 = .ok (.goto (-27), 3) := by decide +kernel
theorem d69_56 : decode prog_11_method_45_code 56 = .ok (.aload_n 0, 1) := by decide +kernel
theorem d69_57 : decode prog_11_method_45_code 57 = .ok (.getfield 106, 3) := by decide +kernel
theorem d69_60 : decode prog_11_method_45_code 60 = .ok (.iconst 1, 1) := by decide +kernel
theorem d69_61 : decode prog_11_method_45_code 61 = .ok (.isub, 1) := by decide +kernel
theorem d69_62 : decode prog_11_method_45_code 62 = .ok (.istore_n 2, 1) := by decide +kernel
theorem d69_63 : decode prog_11_method_45_code 63 = .ok (.iload_n 2, 1) := by decide +kernel
theorem d69_64 : decode prog_11_method_45_code 64 = .ok (.ifCond .lt 40, 3) := by decide +kernel
theorem d69_67 : decode prog_11_method_45_code 67 = .ok (.iconst 0, 1) := by decide +kernel
theorem d69_68 : decode prog_11_method_45_code 68 = .ok (.istore_n 3, 1) := by decide +kernel
theorem d69_69 : decode prog_11_method_45_code 69 = .ok (.iload_n 3, 1) := by decide +kernel
theorem d69_70 : decode prog_11_method_45_code 70 = .ok (.aload_n 0, 1) := by decide +kernel
theorem d69_71 : decode prog_11_method_45_code 71 = .ok (.getfield 106, 3) := by decide +kernel
theorem d69_74 : decode prog_11_method_45_code 74 = .ok (.if_icmp .ge 24, 3) := by decide +kernel
theorem d69_77 : decode prog_11_method_45_code 77 = .ok (.aload_n 0, 1) := by decide +kernel
theorem d69_78 : decode prog_11_method_45_code 78 = .ok (.getfield 91, 3) := by decide +kernel
theorem d69_81 : decode prog_11_method_45_code 81 = .ok (.iload_n 3, 1) := by decide +kernel
theorem d69_82 : decode prog_11_method_45_code 82 = .ok (.iaload, 1) := by decide +kernel
theorem d69_83 : decode prog_11_method_45_code 83 = .ok (.iload_n 2, 1) := by decide +kernel
theorem d69_84 : decode prog_11_method_45_code 84 = .ok (.if_icmp .ne 8, 3) := by decide +kernel
theorem d69_87 : decode prog_11_method_45_code 87 = .ok (.aload_n 0, 1) := by decide +kernel
theorem d69_88 : decode prog_11_method_45_code 88 = .ok (.iload_n 3, 1) := by decide +kernel
theorem d69_89 : decode prog_11_method_45_code 89 = .ok (.invokevirtual 209, 3) := by decide +kernel
theorem d69_92 : decode prog_11_method_45_code 92 = .ok (.iinc 3 1, 3) := by decide +kernel
theorem d69_95 : decode prog_11_method_45_code 95 = .ok (.goto (-26), 3) := by decide +kernel
theorem d69_98 : decode prog_11_method_45_code 98 = .ok (.iinc 2 (-1), 3) := by decide +kernel
theorem d69_101 : decode prog_11_method_45_code 101 = .ok (.goto (-38), 3) := by decide +kernel
theorem d69_104 : decode prog_11_method_45_code 104 = .ok (.aload_n 0, 1) := by decide +kernel
theorem d69_105 : decode prog_11_method_45_code 105 = .ok (.getfield 97, 3) := by decide +kernel
theorem d69_108 : decode prog_11_method_45_code 108 = .ok (.iconst 0, 1) := by decide +kernel
theorem d69_109 : decode prog_11_method_45_code 109 = .ok (.iaload, 1) := by decide +kernel
theorem d69_110 : decode prog_11_method_45_code 110 = .ok (.istore_n 2, 1) := by decide +kernel
theorem d69_111 : decode prog_11_method_45_code 111 = .ok (.iconst 0, 1) := by decide +kernel
theorem d69_112 : decode prog_11_method_45_code 112 = .ok (.istore_n 3, 1) := by decide +kernel
theorem d69_113 : decode prog_11_method_45_code 113 = .ok (.iload_n 3, 1) := by decide +kernel
theorem d69_114 : decode prog_11_method_45_code 114 = .ok (.aload_n 0, 1) := by decide +kernel
theorem d69_115 : decode prog_11_method_45_code 115 = .ok (.getfield 106, 3) := by decide +kernel
theorem d69_118 : decode prog_11_method_45_code 118 = .ok (.if_icmp .ge 30, 3) := by decide +kernel
theorem d69_121 : decode prog_11_method_45_code 121 = .ok (.aload_n 0, 1) := by decide +kernel
theorem d69_122 : decode prog_11_method_45_code 122 = .ok (.getfield 97, 3) := by decide +kernel
theorem d69_125 : decode prog_11_method_45_code 125 = .ok (.iload_n 3, 1) := by decide +kernel
theorem d69_126 : decode prog_11_method_45_code 126 = .ok (.iaload, 1) := by decide +kernel
theorem d69_127 : decode prog_11_method_45_code 127 = .ok (.iload_n 2, 1) := by decide +kernel
theorem d69_128 : decode prog_11_method_45_code 128 = .ok (.if_icmp .ge 12, 3) := by decide +kernel
theorem d69_131 : decode prog_11_method_45_code 131 = .ok (.aload_n 0, 1) := by decide +kernel
theorem d69_132 : decode prog_11_method_45_code 132 = .ok (.getfield 97, 3) := by decide +kernel
theorem d69_135 : decode prog_11_method_45_code 135 = .ok (.iload_n 3, 1) := by decide +kernel
theorem d69_136 : decode prog_11_method_45_code 136 = .ok (.iaload, 1) := by decide +kernel
theorem d69_137 : decode prog_11_method_45_code 137 = .ok (.goto 4, 3) := by decide +kernel
theorem d69_140 : decode prog_11_method_45_code 140 = .ok (.iload_n 2, 1) := by decide +kernel
theorem d69_141 : decode prog_11_method_45_code 141 = .ok (.istore_n 2, 1) := by decide +kernel
theorem d69_142 : decode prog_11_method_45_code 142 = .ok (.iinc 3 1, 3) := by decide +kernel
theorem d69_145 : decode prog_11_method_45_code 145 = .ok (.goto (-32), 3) := by decide +kernel
theorem d69_148 : decode prog_11_method_45_code 148 = .ok (.aload_n 0, 1) := by decide +kernel
theorem d69_149 : decode prog_11_method_45_code 149 = .ok (.getfield 97, 3) := by decide +kernel
theorem d69_152 : decode prog_11_method_45_code 152 = .ok (.iload_n 1, 1) := by decide +kernel
theorem d69_153 : decode prog_11_method_45_code 153 = .ok (.iaload, 1) := by decide +kernel
theorem d69_154 : decode prog_11_method_45_code 154 = .ok (.iload_n 2, 1) := by decide +kernel
theorem d69_155 : decode prog_11_method_45_code 155 = .ok (.isub, 1) := by decide +kernel
theorem d69_156 : decode prog_11_method_45_code 156 = .ok (.ireturn, 1) := by decide +kernel
theorem d70_0 : decode prog_11_method_46_code 0 = .ok (.iconst (-1), 1) := by decide +kernel
theorem d70_1 : decode prog_11_method_46_code 1 = .ok (.istore_n 2, 1) := by decide +kernel
theorem d70_2 : decode prog_11_method_46_code 2 = .ok (.iconst (-1), 1) := by decide +kernel
theorem d70_3 : decode prog_11_method_46_code 3 = .ok (.istore_n 3, 1) := by decide +kernel
theorem d70_4 : decode prog_11_method_46_code 4 = .ok (.iconst 0, 1) := by decide +kernel
theorem d70_5 : decode prog_11_method_46_code 5 = .ok (.istore 4, 2) := by decide +kernel
theorem d70_7 : decode prog_11_method_46_code 7 = .ok (.iconst 0, 1) := by decide +kernel
theorem d70_8 : decode prog_11_method_46_code 8 = .ok (.istore 5, 2) := by decide +kernel
theorem d70_10 : decode prog_11_method_46_code 10 = .ok (.iload 5, 2) := by decide +kernel
theorem d70_12 : decode prog_11_method_46_code 12 = .ok (.aload_n 0, 1) := by decide +kernel
theorem d70_13 : decode prog_11_method_46_code 13 = .ok (.getfield 110, 3) := by decide +kernel
theorem d70_16 : decode prog_11_method_46_code 16 = .ok (.if_icmp .ge 92, 3) := by decide +kernel
theorem d70_19 : decode prog_11_method_46_code 19 = .ok (.aload_n 0, 1) := by decide +kernel
theorem d70_20 : decode prog_11_method_46_code 20 = .ok (.getfield 19, 3) := by decide +kernel
theorem d70_23 : decode prog_11_method_46_code 23 = .ok (.iload 5, 2) := by decide +kernel
theorem d70_25 : decode prog_11_method_46_code 25 = .ok (.baload, 1) := by decide +kernel
theorem d70_26 : decode prog_11_method_46_code 26 = .ok (.ifCond .eq 76, 3) := by decide +kernel
theorem d70_29 : decode prog_11_method_46_code 29 = .ok (.aload_n 0, 1) := by decide +kernel
theorem d70_30 : decode prog_11_method_46_code 30 = .ok (.getfield 13, 3) := by decide +kernel
theorem d70_33 : decode prog_11_method_46_code 33 = .ok (.iload 5, 2) := by decide +kernel
theorem d70_35 : decode prog_11_method_46_code 35 = .ok (.iaload, 1) := by decide +kernel
theorem d70_36 : decode prog_11_method_46_code 36 = .ok (.iload_n 1, 1) := by decide +kernel
theorem d70_37 : decode prog_11_method_46_code 37 = .ok (.if_icmp .eq 6, 3) := by decide +kernel
theorem d70_40 : decode prog_11_method_46_code 40 = .ok (.goto 62, 3) := by decide +kernel
theorem d70_43 : decode prog_11_method_46_code 43 = .ok (.aload_n 0, 1) := by decide +kernel
theorem d70_44 : decode prog_11_method_46_code 44 = .ok (.getfield 16, 3) := by decide +kernel
theorem d70_47 : decode prog_11_method_46_code 47 = .ok (.iload 5, 2) := by decide +kernel
theorem d70_49 : decode prog_11_method_46_code 49 = .ok (.iaload, 1) := by decide +kernel
theorem d70_50 : decode prog_11_method_46_code 50 = .ok (.istore 6, 2) := by decide +kernel
theorem d70_52 : decode prog_11_method_46_code 52 = .ok (.aload_n 0, 1) := by decide +kernel
theorem d70_53 : decode prog_11_method_46_code 53 = .ok (.aload_n 0, 1) := by decide +kernel
theorem d70_54 : decode prog_11_method_46_code 54 = .ok (.getfield 94, 3) := by decide +kernel
theorem d70_57 : decode prog_11_method_46_code 57 = .ok (.iload 6, 2) := by decide +kernel
theorem d70_59 : decode prog_11_method_46_code 59 = .ok (.iaload, 1) := by decide +kernel
theorem d70_60 : decode prog_11_method_46_code 60 = .ok (.aload_n 0, 1) := by decide +kernel
theorem d70_61 : decode prog_11_method_46_code 61 = .ok (.iload 4, 2) := by decide +kernel
theorem d70_63 : decode prog_11_method_46_code 63 = .ok (.aload_n 0, 1) := by decide +kernel
theorem d70_64 : decode prog_11_method_46_code 64 = .ok (.getfield 94, 3) := by decide +kernel
theorem d70_67 : decode prog_11_method_46_code 67 = .ok (.iload 6, 2) := by decide +kernel
theorem d70_69 : decode prog_11_method_46_code 69 = .ok (.iaload, 1) := by decide +kernel
theorem d70_70 : decode prog_11_method_46_code 70 = .ok (.invokevirtual 212, 3) := by decide +kernel
end
section
theorem d70_73 : decode prog_11_method_46_code 73 = .ok (.invokevirtual 215, 3) := by decide +kernel
theorem d70_76 : decode prog_11_method_46_code 76 = .ok (.iload_n 2, 1) := by decide +kernel
theorem d70_77 : decode prog_11_method_46_code 77 = .ok (.ifCond .ge 8, 3) := by decide +kernel
theorem d70_80 : decode prog_11_method_46_code 80 = .ok (.iload 6, 2) := by decide +kernel
theorem d70_82 : decode prog_11_method_46_code 82 = .ok (.goto 4, 3) := by decide +kernel
theorem d70_85 : decode prog_11_method_46_code 85 = .ok (.iload_n 2, 1) := by decide +kernel
theorem d70_86 : decode prog_11_method_46_code 86 = .ok (.istore_n 2, 1) := by decide +kernel
theorem d70_87 : decode prog_11_method_46_code 87 = .ok (.iload 6, 2) := by decide +kernel
theorem d70_89 : decode prog_11_method_46_code 89 = .ok (.istore_n 3, 1) := by decide +kernel
theorem d70_90 : decode prog_11_method_46_code 90 = .ok (.iload 4, 2) := by decide +kernel
theorem d70_92 : decode prog_11_method_46_code 92 = .ok (.aload_n 0, 1) := by decide +kernel
theorem d70_93 : decode prog_11_method_46_code 93 = .ok (.getfield 94, 3) := by decide +kernel
theorem d70_96 : decode prog_11_method_46_code 96 = .ok (.iload 6, 2) := by decide +kernel
theorem d70_98 : decode prog_11_method_46_code 98 = .ok (.iaload, 1) := by decide +kernel
theorem d70_99 : decode prog_11_method_46_code 99 = .ok (.ior, 1) := by decide +kernel
theorem d70_100 : decode prog_11_method_46_code 100 = .ok (.istore 4, 2) := by decide +kernel
theorem d70_102 : decode prog_11_method_46_code 102 = .ok (.iinc 5 1, 3) := by decide +kernel
theorem d70_105 : decode prog_11_method_46_code 105 = .ok (.goto (-95), 3) := by decide +kernel
theorem d70_108 : decode prog_11_method_46_code 108 = .ok (.aload_n 0, 1) := by decide +kernel
theorem d70_109 : decode prog_11_method_46_code 109 = .ok (.getfield 94, 3) := by decide +kernel
theorem d70_112 : decode prog_11_method_46_code 112 = .ok (.iload_n 1, 1) := by decide +kernel
theorem d70_113 : decode prog_11_method_46_code 113 = .ok (.dup2, 1) := by decide +kernel
theorem d70_114 : decode prog_11_method_46_code 114 = .ok (.iaload, 1) := by decide +kernel
theorem d70_115 : decode prog_11_method_46_code 115 = .ok (.iload 4, 2) := by decide +kernel
theorem d70_117 : decode prog_11_method_46_code 117 = .ok (.ior, 1) := by decide +kernel
theorem d70_118 : decode prog_11_method_46_code 118 = .ok (.iastore, 1) := by decide +kernel
theorem d70_119 : decode prog_11_method_46_code 119 = .ok (.iload_n 2, 1) := by decide +kernel
theorem d70_120 : decode prog_11_method_46_code 120 = .ok (.ifCond .lt 53, 3) := by decide +kernel
theorem d70_123 : decode prog_11_method_46_code 123 = .ok (.aload_n 0, 1) := by decide +kernel
theorem d70_124 : decode prog_11_method_46_code 124 = .ok (.getfield 97, 3) := by decide +kernel
theorem d70_127 : decode prog_11_method_46_code 127 = .ok (.iload_n 1, 1) := by decide +kernel
theorem d70_128 : decode prog_11_method_46_code 128 = .ok (.iconst 2, 1) := by decide +kernel
theorem d70_129 : decode prog_11_method_46_code 129 = .ok (.aload_n 0, 1) := by decide +kernel
theorem d70_130 : decode prog_11_method_46_code 130 = .ok (.getfield 97, 3) := by decide +kernel
theorem d70_133 : decode prog_11_method_46_code 133 = .ok (.iload_n 2, 1) := by decide +kernel
theorem d70_134 : decode prog_11_method_46_code 134 = .ok (.iaload, 1) := by decide +kernel
theorem d70_135 : decode prog_11_method_46_code 135 = .ok (.imul, 1) := by decide +kernel
theorem d70_136 : decode prog_11_method_46_code 136 = .ok (.aload_n 0, 1) := by decide +kernel
theorem d70_137 : decode prog_11_method_46_code 137 = .ok (.getfield 7, 3) := by decide +kernel
theorem d70_140 : decode prog_11_method_46_code 140 = .ok (.iload_n 2, 1) := by decide +kernel
theorem d70_141 : decode prog_11_method_46_code 141 = .ok (.iaload, 1) := by decide +kernel
theorem d70_142 : decode prog_11_method_46_code 142 = .ok (.iadd, 1) := by decide +kernel
theorem d70_143 : decode prog_11_method_46_code 143 = .ok (.iconst 2, 1) := by decide +kernel
theorem d70_144 : decode prog_11_method_46_code 144 = .ok (.aload_n 0, 1) := by decide +kernel
theorem d70_145 : decode prog_11_method_46_code 145 = .ok (.getfield 97, 3) := by decide +kernel
theorem d70_148 : decode prog_11_method_46_code 148 = .ok (.iload_n 3, 1) := by decide +kernel
theorem d70_149 : decode prog_11_method_46_code 149 = .ok (.iaload, 1) := by decide +kernel
theorem d70_150 : decode prog_11_method_46_code 150 = .ok (.imul, 1) := by decide +kernel
theorem d70_151 : decode prog_11_method_46_code 151 = .ok (.iadd, 1) := by decide +kernel
theorem d70_152 : decode prog_11_method_46_code 152 = .ok (.aload_n 0, 1) := by decide +kernel
theorem d70_153 : decode prog_11_method_46_code 153 = .ok (.getfield 7, 3) := by decide +kernel
theorem d70_156 : decode prog_11_method_46_code 156 = .ok (.iload_n 3, 1) := by decide +kernel
theorem d70_157 : decode prog_11_method_46_code 157 = .ok (.iaload, 1) := by decide +kernel
theorem d70_158 : decode prog_11_method_46_code 158 = .ok (.iadd, 1) := by decide +kernel
theorem d70_159 : decode prog_11_method_46_code 159 = .ok (.iconst 4, 1) := by decide +kernel
theorem d70_160 : decode prog_11_method_46_code 160 = .ok (.invokestatic 194, 3) := by decide +kernel
theorem d70_163 : decode prog_11_method_46_code 163 = .ok (.aload_n 0, 1) := by decide +kernel
theorem d70_164 : decode prog_11_method_46_code 164 = .ok (.getfield 7, 3) := by decide +kernel
theorem d70_167 : decode prog_11_method_46_code 167 = .ok (.iload_n 1, 1) := by decide +kernel
theorem d70_168 : decode prog_11_method_46_code 168 = .ok (.iaload, 1) := by decide +kernel
theorem d70_169 : decode prog_11_method_46_code 169 = .ok (.iconst 2, 1) := by decide +kernel
theorem d70_170 : decode prog_11_method_46_code 170 = .ok (.idiv, 1) := by decide +kernel
theorem d70_171 : decode prog_11_method_46_code 171 = .ok (.isub, 1) := by decide +kernel
theorem d70_172 : decode prog_11_method_46_code 172 = .ok (.iastore, 1) := by decide +kernel
theorem d70_173 : decode prog_11_method_46_code 173 = .ok (.return_, 1) := by decide +kernel
theorem d71_0 : decode prog_11_method_47_code 0 = .ok (.iconst 0, 1) := by decide +kernel
theorem d71_1 : decode prog_11_method_47_code 1 = .ok (.istore_n 3, 1) := by decide +kernel
theorem d71_2 : decode prog_11_method_47_code 2 = .ok (.iload_n 3, 1) := by decide +kernel
theorem d71_3 : decode prog_11_method_47_code 3 = .ok (.aload_n 0, 1) := by decide +kernel
theorem d71_4 : decode prog_11_method_47_code 4 = .ok (.getfield 106, 3) := by decide +kernel
theorem d71_7 : decode prog_11_method_47_code 7 = .ok (.if_icmp .ge 32, 3) := by decide +kernel
theorem d71_10 : decode prog_11_method_47_code 10 = .ok (.aload_n 0, 1) := by decide +kernel
theorem d71_11 : decode prog_11_method_47_code 11 = .ok (.getfield 97, 3) := by decide +kernel
theorem d71_14 : decode prog_11_method_47_code 14 = .ok (.iload_n 3, 1) := by decide +kernel
theorem d71_15 : decode prog_11_method_47_code 15 = .ok (.dup2, 1) := by decide +kernel
theorem d71_16 : decode prog_11_method_47_code 16 = .ok (.iaload, 1) := by decide +kernel
theorem d71_17 : decode prog_11_method_47_code 17 = .ok (.iload_n 1, 1) := by decide +kernel
theorem d71_18 : decode prog_11_method_47_code 18 = .ok (.iload_n 3, 1) := by decide +kernel
theorem d71_19 : decode prog_11_method_47_code 19 = .ok (.ishr, 1) := by decide +kernel
theorem d71_20 : decode prog_11_method_47_code 20 = .ok (.iconst 1, 1) := by decide +kernel
theorem d71_21 : decode prog_11_method_47_code 21 = .ok (.iand, 1) := by decide +kernel
theorem d71_22 : decode prog_11_method_47_code 22 = .ok (.iconst 1, 1) := by decide +kernel
theorem d71_23 : decode prog_11_method_47_code 23 = .ok (.if_icmp .ne 7, 3) := by decide +kernel
theorem d71_26 : decode prog_11_method_47_code 26 = .ok (.iload_n 2, 1) := by decide +kernel
theorem d71_27 : decode prog_11_method_47_code 27 = .ok (.goto 4, 3) := by decide +kernel
theorem d71_30 : decode prog_11_method_47_code 30 = .ok (.iconst 0, 1) := by decide +kernel
theorem d71_31 : decode prog_11_method_47_code 31 = .ok (.iadd, 1) := by decide +kernel
theorem d71_32 : decode prog_11_method_47_code 32 = .ok (.iastore, 1) := by decide +kernel
theorem d71_33 : decode prog_11_method_47_code 33 = .ok (.iinc 3 1, 3) := by decide +kernel
theorem d71_36 : decode prog_11_method_47_code 36 = .ok (.goto (-34), 3) := by decide +kernel
theorem d71_39 : decode prog_11_method_47_code 39 = .ok (.return_, 1) := by decide +kernel
theorem d72_0 : decode prog_11_method_48_code 0 = .ok (.sipush (-10000), 3) := by decide +kernel
theorem d72_3 : decode prog_11_method_48_code 3 = .ok (.istore_n 3, 1) := by decide +kernel
theorem d72_4 : decode prog_11_method_48_code 4 = .ok (.iconst 0, 1) := by decide +kernel
theorem d72_5 : decode prog_11_method_48_code 5 = .ok (.istore 4, 2) := by decide +kernel
theorem d72_7 : decode prog_11_method_48_code 7 = .ok (.iload 4, 2) := by decide +kernel
theorem d72_9 : decode prog_11_method_48_code 9 = .ok (.aload_n 0, 1) := by decide +kernel
theorem d72_10 : decode prog_11_method_48_code 10 = .ok (.getfield 106, 3) := by decide +kernel
theorem d72_13 : decode prog_11_method_48_code 13 = .ok (.if_icmp .ge 44, 3) := by decide +kernel
theorem d72_16 : decode prog_11_method_48_code 16 = .ok (.iload_n 2, 1) := by decide +kernel
theorem d72_17 : decode prog_11_method_48_code 17 = .ok (.iload 4, 2) := by decide +kernel
theorem d72_19 : decode prog_11_method_48_code 19 = .ok (.ishr, 1) := by decide +kernel
theorem d72_20 : decode prog_11_method_48_code 20 = .ok (.iconst 1, 1) := by decide +kernel
theorem d72_21 : decode prog_11_method_48_code 21 = .ok (.iand, 1) := by decide +kernel
theorem d72_22 : decode prog_11_method_48_code 22 = .ok (.iconst 1, 1) := by decide +kernel
theorem d72_23 : decode prog_11_method_48_code 23 = .ok (.if_icmp .ne 26, 3) := by decide +kernel
theorem d72_26 : decode prog_11_method_48_code 26 = .ok (.aload_n 0, 1) := by decide +kernel
theorem d72_27 : decode prog_11_method_48_code 27 = .ok (.getfield 97, 3) := by decide +kernel
theorem d72_30 : decode prog_11_method_48_code 30 = .ok (.iload 4, 2) := by decide +kernel
theorem d72_32 : decode prog_11_method_48_code 32 = .ok (.iaload, 1) := by decide +kernel
theorem d72_33 : decode prog_11_method_48_code 33 = .ok (.ineg, 1) := by decide +kernel
theorem d72_34 : decode prog_11_method_48_code 34 = .ok (.iload_n 3, 1) := by decide +kernel
theorem d72_35 : decode prog_11_method_48_code 35 = .ok (.if_icmp .le 14, 3) := by decide +kernel
theorem d72_38 : decode prog_11_method_48_code 38 = .ok (.aload_n 0, 1) := by decide +kernel
theorem d72_39 : decode prog_11_method_48_code 39 = .ok (.getfield 97, 3) := by decide +kernel
theorem d72_42 : decode prog_11_method_48_code 42 = .ok (.iload 4, 2) := by decide +kernel
theorem d72_44 : decode prog_11_method_48_code 44 = .ok (.iaload, 1) := by decide +kernel
theorem d72_45 : decode prog_11_method_48_code 45 = .ok (.ineg, 1) := by decide +kernel
theorem d72_46 : decode prog_11_method_48_code 46 = .ok (.goto 4, 3) := by decide +kernel
theorem d72_49 : decode prog_11_method_48_code 49 = .ok (.iload_n 3, 1) := by decide +kernel
theorem d72_50 : decode prog_11_method_48_code 50 = .ok (.istore_n 3, 1) := by decide +kernel
theorem d72_51 : decode prog_11_method_48_code 51 = .ok (.iinc 4 1, 3) := by decide +kernel
theorem d72_54 : decode prog_11_method_48_code 54 = .ok (.goto (-47), 3) := by decide +kernel
theorem d72_57 : decode prog_11_method_48_code 57 = .ok (.iconst 0, 1) := by decide +kernel
theorem d72_58 : decode prog_11_method_48_code 58 = .ok (.istore 4, 2) := by decide +kernel
theorem d72_60 : decode prog_11_method_48_code 60 = .ok (.iload 4, 2) := by decide +kernel
theorem d72_62 : decode prog_11_method_48_code 62 = .ok (.aload_n 0, 1) := by decide +kernel
theorem d72_63 : decode prog_11_method_48_code 63 = .ok (.getfield 106, 3) := by decide +kernel
theorem d72_66 : decode prog_11_method_48_code 66 = .ok (.if_icmp .ge 104, 3) := by decide +kernel
theorem d72_69 : decode prog_11_method_48_code 69 = .ok (.iconst 0, 1) := by decide +kernel
theorem d72_70 : decode prog_11_method_48_code 70 = .ok (.istore 5, 2) := by decide +kernel
theorem d72_72 : decode prog_11_method_48_code 72 = .ok (.iload 5, 2) := by decide +kernel
theorem d72_74 : decode prog_11_method_48_code 74 = .ok (.aload_n 0, 1) := by decide +kernel
theorem d72_75 : decode prog_11_method_48_code 75 = .ok (.getfield 106, 3) := by decide +kernel
theorem d72_78 : decode prog_11_method_48_code 78 = .ok (.if_icmp .ge 86, 3) := by decide +kernel
theorem d72_81 : decode prog_11_method_48_code 81 = .ok (.iload_n 1, 1) := by decide +kernel
theorem d72_82 : decode prog_11_method_48_code 82 = .ok (.iload 4, 2) := by decide +kernel
theorem d72_84 : decode prog_11_method_48_code 84 = .ok (.ishr, 1) := by decide +kernel
theorem d72_85 : decode prog_11_method_48_code 85 = .ok (.iconst 1, 1) := by decide +kernel
theorem d72_86 : decode prog_11_method_48_code 86 = .ok (.iand, 1) := by decide +kernel
theorem d72_87 : decode prog_11_method_48_code 87 = .ok (.iconst 1, 1) := by decide +kernel
theorem d72_88 : decode prog_11_method_48_code 88 = .ok (.if_icmp .ne 70, 3) := by decide +kernel
theorem d72_91 : decode prog_11_method_48_code 91 = .ok (.iload_n 2, 1) := by decide +kernel
theorem d72_92 : decode prog_11_method_48_code 92 = .ok (.iload 5, 2) := by decide +kernel
theorem d72_94 : decode prog_11_method_48_code 94 = .ok (.ishr, 1) := by decide +kernel
theorem d72_95 : decode prog_11_method_48_code 95 = .ok (.iconst 1, 1) := by decide +kernel
theorem d72_96 : decode prog_11_method_48_code 96 = .ok (.iand, 1) := by decide +kernel
theorem d72_97 : decode prog_11_method_48_code 97 = .ok (.iconst 1, 1) := by decide +kernel
theorem d72_98 : decode prog_11_method_48_code 98 = .ok (.if_icmp .ne 60, 3) := by decide +kernel
theorem d72_101 : decode prog_11_method_48_code 101 = .ok (.aload_n 0, 1) := by decide +kernel
theorem d72_102 : decode prog_11_method_48_code 102 = .ok (.getfield 91, 3) := by decide +kernel
theorem d72_105 : decode prog_11_method_48_code 105 = .ok (.iload 4, 2) := by decide +kernel
theorem d72_107 : decode prog_11_method_48_code 107 = .ok (.iaload, 1) := by decide +kernel
theorem d72_108 : decode prog_11_method_48_code 108 = .ok (.aload_n 0, 1) := by decide +kernel
theorem d72_109 : decode prog_11_method_48_code 109 = .ok (.getfield 91, 3) := by decide +kernel
theorem d72_112 : decode prog_11_method_48_code 112 = .ok (.iload 5, 2) := by decide +kernel
theorem d72_114 : decode prog_11_method_48_code 114 = .ok (.iaload, 1) := by decide +kernel
theorem d72_115 : decode prog_11_method_48_code 115 = .ok (.if_icmp .ne 43, 3) := by decide +kernel
theorem d72_118 : decode prog_11_method_48_code 118 = .ok (.aload_n 0, 1) := by decide +kernel
theorem d72_119 : decode prog_11_method_48_code 119 = .ok (.getfield 97, 3) := by decide +kernel
theorem d72_122 : decode prog_11_method_48_code 122 = .ok (.iload 4, 2) := by decide +kernel
theorem d72_124 : decode prog_11_method_48_code 124 = .ok (.iaload, 1) := by decide +kernel
theorem d72_125 : decode prog_11_method_48_code 125 = .ok (.aload_n 0, 1) := by decide +kernel
theorem d72_126 : decode prog_11_method_48_code 126 = .ok (.getfield 7, 3) := by decide +kernel
theorem d72_129 : decode prog_11_method_48_code 129 = .ok (.iload 4, 2) := by decide +kernel
theorem d72_131 : decode prog_11_method_48_code 131 = .ok (.iaload, 1) := by decide +kernel
theorem d72_132 : decode prog_11_method_48_code 132 = .ok (.iadd, 1) := by decide +kernel
theorem d72_133 : decode prog_11_method_48_code 133 = .ok (.iconst 1, 1) := by decide +kernel
theorem d72_134 : decode prog_11_method_48_code 134 = .ok (.iadd, 1) := by decide +kernel
theorem d72_135 : decode prog_11_method_48_code 135 = .ok (.aload_n 0, 1) := by decide +kernel
theorem d72_136 : decode prog_11_method_48_code 136 = .ok (.getfield 97, 3) := by decide +kernel
theorem d72_139 : decode prog_11_method_48_code 139 = .ok (.iload 5, 2) := by decide +kernel
theorem d72_141 : decode prog_11_method_48_code 141 = .ok (.iaload, 1) := by decide +kernel
theorem d72_142 : decode prog_11_method_48_code 142 = .ok (.isub, 1) := by decide +kernel
theorem d72_143 : decode prog_11_method_48_code 143 = .ok (.istore 6, 2) := by decide +kernel
theorem d72_145 : decode prog_11_method_48_code 145 = .ok (.iload 6, 2) := by decide +kernel
theorem d72_147 : decode prog_11_method_48_code 147 = .ok (.iload_n 3, 1) := by decide +kernel
theorem d72_148 : decode prog_11_method_48_code 148 = .ok (.if_icmp .le 8, 3) := by decide +kernel
theorem d72_151 : decode prog_11_method_48_code 151 = .ok (.iload 6, 2) := by decide +kernel
theorem d72_153 : decode prog_11_method_48_code 153 = .ok (.goto 4, 3) := by decide +kernel
theorem d72_156 : decode prog_11_method_48_code 156 = .ok (.iload_n 3, 1) := by decide +kernel
theorem d72_157 : decode prog_11_method_48_code 157 = .ok (.istore_n 3, 1) := by decide +kernel
theorem d72_158 : decode prog_11_method_48_code 158 = .ok (.iinc 5 1, 3) := by decide +kernel
theorem d72_161 : decode prog_11_method_48_code 161 = .ok (.goto (-89), 3) := by decide +kernel
theorem d72_164 : decode prog_11_method_48_code 164 = .ok (.iinc 4 1, 3) := by decide +kernel
theorem d72_167 : decode prog_11_method_48_code 167 = .ok (.goto (-107), 3) := by decide +kernel
theorem d72_170 : decode prog_11_method_48_code 170 = .ok (.iload_n 3, 1) := by decide +kernel
theorem d72_171 : decode prog_11_method_48_code 171 = .ok (.ireturn, 1) := by decide +kernel
theorem d73_0 : decode prog_2_method_1_code 0 = .ok (.aload_n 0, 1) := by decide +kernel
theorem d73_1 : decode prog_2_method_1_code 1 = .ok (.invokespecial 3, 3) := by decide +kernel
theorem d73_4 : decode prog_2_method_1_code 4 = .ok (.aload_n 0, 1) := by decide +kernel
theorem d73_5 : decode prog_2_method_1_code 5 = .ok (.bipush 12, 2) := by decide +kernel
theorem d73_7 : decode prog_2_method_1_code 7 = .ok (.newarray .int, 2) := by decide +kernel
theorem d73_9 : decode prog_2_method_1_code 9 = .ok (.putfield 9, 3) := by decide +kernel
theorem d73_12 : decode prog_2_method_1_code 12 = .ok (.aload_n 0, 1) := by decide +kernel
theorem d73_13 : decode prog_2_method_1_code 13 = .ok (.bipush 24, 2) := by decide +kernel
theorem d73_15 : decode prog_2_method_1_code 15 = .ok (.newarray .int, 2) := by decide +kernel
theorem d73_17 : decode prog_2_method_1_code 17 = .ok (.putfield 15, 3) := by decide +kernel
theorem d73_20 : decode prog_2_method_1_code 20 = .ok (.aload_n 0, 1) := by decide +kernel
theorem d73_21 : decode prog_2_method_1_code 21 = .ok (.bipush 24, 2) := by decide +kernel
theorem d73_23 : decode prog_2_method_1_code 23 = .ok (.newarray .int, 2) := by decide +kernel
theorem d73_25 : decode prog_2_method_1_code 25 = .ok (.putfield 18, 3) := by decide +kernel
theorem d73_28 : decode prog_2_method_1_code 28 = .ok (.aload_n 0, 1) := by decide +kernel
theorem d73_29 : decode prog_2_method_1_code 29 = .ok (.bipush 24, 2) := by decide +kernel
theorem d73_31 : decode prog_2_method_1_code 31 = .ok (.newarray .boolean, 2) := by decide +kernel
theorem d73_33 : decode prog_2_method_1_code 33 = .ok (.putfield 21, 3) := by decide +kernel
theorem d73_36 : decode prog_2_method_1_code 36 = .ok (.aload_n 0, 1) := by decide +kernel
theorem d73_37 : decode prog_2_method_1_code 37 = .ok (.iconst 0, 1) := by decide +kernel
theorem d73_38 : decode prog_2_method_1_code 38 = .ok (.putfield 25, 3) := by decide +kernel
theorem d73_41 : decode prog_2_method_1_code 41 = .ok (.aload_n 0, 1) := by decide +kernel
theorem d73_42 : decode prog_2_method_1_code 42 = .ok (.iconst 0, 1) := by decide +kernel
theorem d73_43 : decode prog_2_method_1_code 43 = .ok (.putfield 29, 3) := by decide +kernel
theorem d73_46 : decode prog_2_method_1_code 46 = .ok (.aload_n 0, 1) := by decide +kernel
theorem d73_47 : decode prog_2_method_1_code 47 = .ok (.iconst 0, 1) := by decide +kernel
theorem d73_48 : decode prog_2_method_1_code 48 = .ok (.putfield 32, 3) := by decide +kernel
theorem d73_51 : decode prog_2_method_1_code 51 = .ok (.return_, 1) := by decide +kernel
theorem d74_0 : decode prog_2_method_2_code 0 = .ok (.iload_n 1, 1) := by decide +kernel
theorem d74_1 : decode prog_2_method_2_code 1 = .ok (.ifCond .lt 15, 3) := by decide +kernel
theorem d74_4 : decode prog_2_method_2_code 4 = .ok (.iload_n 1, 1) := by decide +kernel
theorem d74_5 : decode prog_2_method_2_code 5 = .ok (.aload_n 0, 1) := by decide +kernel
theorem d74_6 : decode prog_2_method_2_code 6 = .ok (.getfield 25, 3) := by decide +kernel
theorem d74_9 : decode prog_2_method_2_code 9 = .ok (.if_icmp .ge 7, 3) := by decide +kernel
theorem d74_12 : decode prog_2_method_2_code 12 = .ok (.iconst 1, 1) := by decide +kernel
theorem d74_13 : decode prog_2_method_2_code 13 = .ok (.goto 4, 3) := by decide +kernel
theorem d74_16 : decode prog_2_method_2_code 16 = .ok (.iconst 0, 1) := by decide +kernel
theorem d74_17 : decode prog_2_method_2_code 17 = .ok (.ireturn, 1) := by decide +kernel
theorem d75_0 : decode prog_2_method_3_code 0 = .ok (.iload_n 1, 1) := by decide +kernel
theorem d75_1 : decode prog_2_method_3_code 1 = .ok (.ifCond .lt 24, 3) := by decide +kernel
theorem d75_4 : decode prog_2_method_3_code 4 = .ok (.iload_n 1, 1) := by decide +kernel
theorem d75_5 : decode prog_2_method_3_code 5 = .ok (.aload_n 0, 1) := by decide +kernel
theorem d75_6 : decode prog_2_method_3_code 6 = .ok (.getfield 29, 3) := by decide +kernel
theorem d75_9 : decode prog_2_method_3_code 9 = .ok (.if_icmp .ge 16, 3) := by decide +kernel
theorem d75_12 : decode prog_2_method_3_code 12 = .ok (.aload_n 0, 1) := by decide +kernel
theorem d75_13 : decode prog_2_method_3_code 13 = .ok (.getfield 21, 3) := by decide +kernel
theorem d75_16 : decode prog_2_method_3_code 16 = .ok (.iload_n 1, 1) := by decide +kernel
theorem d75_17 : decode prog_2_method_3_code 17 = .ok (.baload, 1) := by decide +kernel
theorem d75_18 : decode prog_2_method_3_code 18 = .ok (.ifCond .eq 7, 3) := by decide +kernel
theorem d75_21 : decode prog_2_method_3_code 21 = .ok (.iconst 1, 1) := by decide +kernel
theorem d75_22 : decode prog_2_method_3_code 22 = .ok (.goto 4, 3) := by decide +kernel
theorem d75_25 : decode prog_2_method_3_code 25 = .ok (.iconst 0, 1) := by decide +kernel
theorem d75_26 : decode prog_2_method_3_code 26 = .ok (.ireturn, 1) := by decide +kernel
theorem d76_0 : decode prog_2_method_4_code 0 = .ok (.aload_n 0, 1) := by decide +kernel
theorem d76_1 : decode prog_2_method_4_code 1 = .ok (.getfield 9, 3) := by decide +kernel
theorem d76_4 : decode prog_2_method_4_code 4 = .ok (.aload_n 0, 1) := by decide +kernel
theorem d76_5 : decode prog_2_method_4_code 5 = .ok (.getfield 25, 3) := by decide +kernel
theorem d76_8 : decode prog_2_method_4_code 8 = .ok (.iload_n 1, 1) := by decide +kernel
theorem d76_9 : decode prog_2_method_4_code 9 = .ok (.iastore, 1) := by decide +kernel
theorem d76_10 : decode prog_2_method_4_code 10 = .ok (.aload_n 0, 1) := by decide +kernel
theorem d76_11 : decode prog_2_method_4_code 11 = .ok (.dup, 1) := by decide +kernel
theorem d76_12 : decode prog_2_method_4_code 12 = .ok (.getfield 25, 3) := by decide +kernel
theorem d76_15 : decode prog_2_method_4_code 15 = .ok (.iconst 1, 1) := by decide +kernel
theorem d76_16 : decode prog_2_method_4_code 16 = .ok (.iadd, 1) := by decide +kernel
theorem d76_17 : decode prog_2_method_4_code 17 = .ok (.putfield 25, 3) := by decide +kernel
theorem d76_20 : decode prog_2_method_4_code 20 = .ok (.aload_n 0, 1) := by decide +kernel
theorem d76_21 : decode prog_2_method_4_code 21 = .ok (.getfield 25, 3) := by decide +kernel
theorem d76_24 : decode prog_2_method_4_code 24 = .ok (.iconst 1, 1) := by decide +kernel
theorem d76_25 : decode prog_2_method_4_code 25 = .ok (.isub, 1) := by decide +kernel
theorem d76_26 : decode prog_2_method_4_code 26 = .ok (.ireturn, 1) := by decide +kernel
theorem d77_0 : decode prog_2_method_5_code 0 = .ok (.aload_n 0, 1) := by decide +kernel
theorem d77_1 : decode prog_2_method_5_code 1 = .ok (.getfield 15, 3) := by decide +kernel
theorem d77_4 : decode prog_2_method_5_code 4 = .ok (.aload_n 0, 1) := by decide +kernel
theorem d77_5 : decode prog_2_method_5_code 5 = .ok (.getfield 29, 3) := by decide +kernel
theorem d77_8 : decode prog_2_method_5_code 8 = .ok (.iload_n 1, 1) := by decide +kernel
theorem d77_9 : decode prog_2_method_5_code 9 = .ok (.iastore, 1) := by decide +kernel
theorem d77_10 : decode prog_2_method_5_code 10 = .ok (.aload_n 0, 1) := by decide +kernel
theorem d77_11 : decode prog_2_method_5_code 11 = .ok (.getfield 18, 3) := by decide +kernel
theorem d77_14 : decode prog_2_method_5_code 14 = .ok (.aload_n 0, 1) := by decide +kernel
theorem d77_15 : decode prog_2_method_5_code 15 = .ok (.getfield 29, 3) := by decide +kernel
theorem d77_18 : decode prog_2_method_5_code 18 = .ok (.iload_n 2, 1) := by decide +kernel
theorem d77_19 : decode prog_2_method_5_code 19 = .ok (.iastore, 1) := by decide +kernel
theorem d77_20 : decode prog_2_method_5_code 20 = .ok (.aload_n 0, 1) := by decide +kernel
theorem d77_21 : decode prog_2_method_5_code 21 = .ok (.getfield 21, 3) := by decide +kernel
theorem d77_24 : decode prog_2_method_5_code 24 = .ok (.aload_n 0, 1) := by decide +kernel
theorem d77_25 : decode prog_2_method_5_code 25 = .ok (.getfield 29, 3) := by decide +kernel
theorem d77_28 : decode prog_2_method_5_code 28 = .ok (.iconst 1, 1) := by decide +kernel
theorem d77_29 : decode prog_2_method_5_code 29 = .ok (.bastore, 1) := by decide +kernel
theorem d77_30 : decode prog_2_method_5_code 30 = .ok (.aload_n 0, 1) := by decide +kernel
theorem d77_31 : decode prog_2_method_5_code 31 = .ok (.dup, 1) := by decide +kernel
theorem d77_32 : decode prog_2_method_5_code 32 = .ok (.getfield 32, 3) := by decide +kernel
theorem d77_35 : decode prog_2_method_5_code 35 = .ok (.iconst 1, 1) := by decide +kernel
theorem d77_36 : decode prog_2_method_5_code 36 = .ok (.iadd, 1) := by decide +kernel
theorem d77_37 : decode prog_2_method_5_code 37 = .ok (.putfield 32, 3) := by decide +kernel
theorem d77_40 : decode prog_2_method_5_code 40 = .ok (.aload_n 0, 1) := by decide +kernel
theorem d77_41 : decode prog_2_method_5_code 41 = .ok (.dup, 1) := by decide +kernel
theorem d77_42 : decode prog_2_method_5_code 42 = .ok (.getfield 29, 3) := by decide +kernel
theorem d77_45 : decode prog_2_method_5_code 45 = .ok (.iconst 1, 1) := by decide +kernel
theorem d77_46 : decode prog_2_method_5_code 46 = .ok (.iadd, 1) := by decide +kernel
theorem d77_47 : decode prog_2_method_5_code 47 = .ok (.putfield 29, 3) := by decide +kernel
theorem d77_50 : decode prog_2_method_5_code 50 = .ok (.aload_n 0, 1) := by decide +kernel
theorem d77_51 : decode prog_2_method_5_code 51 = .ok (.getfield 29, 3) := by decide +kernel
theorem d77_54 : decode prog_2_method_5_code 54 = .ok (.iconst 1, 1) := by decide +kernel
theorem d77_55 : decode prog_2_method_5_code 55 = .ok (.isub, 1) := by decide +kernel
theorem d77_56 : decode prog_2_method_5_code 56 = .ok (.ireturn, 1) := by decide +kernel
theorem d78_0 : decode prog_2_method_6_code 0 = .ok (.aload_n 0, 1) := by decide +kernel
theorem d78_1 : decode prog_2_method_6_code 1 = .ok (.getfield 21, 3) := by decide +kernel
theorem d78_4 : decode prog_2_method_6_code 4 = .ok (.iload_n 1, 1) := by decide +kernel
theorem d78_5 : decode prog_2_method_6_code 5 = .ok (.iconst 0, 1) := by decide +kernel
theorem d78_6 : decode prog_2_method_6_code 6 = .ok (.bastore, 1) := by decide +kernel
theorem d78_7 : decode prog_2_method_6_code 7 = .ok (.aload_n 0, 1) := by decide +kernel
theorem d78_8 : decode prog_2_method_6_code 8 = .ok (.dup, 1) := by decide +kernel
theorem d78_9 : decode prog_2_method_6_code 9 = .ok (.getfield 32, 3) := by decide +kernel
theorem d78_12 : decode prog_2_method_6_code 12 = .ok (.iconst 1, 1) := by decide +kernel
theorem d78_13 : decode prog_2_method_6_code 13 = .ok (.isub, 1) := by decide +kernel
theorem d78_14 : decode prog_2_method_6_code 14 = .ok (.putfield 32, 3) := by decide +kernel
theorem d78_17 : decode prog_2_method_6_code 17 = .ok (.return_, 1) := by decide +kernel
theorem d79_0 : decode prog_2_method_7_code 0 = .ok (.aload_n 0, 1) := by decide +kernel
theorem d79_1 : decode prog_2_method_7_code 1 = .ok (.iconst 0, 1) := by decide +kernel
theorem d79_2 : decode prog_2_method_7_code 2 = .ok (.putfield 25, 3) := by decide +kernel
theorem d79_5 : decode prog_2_method_7_code 5 = .ok (.aload_n 0, 1) := by decide +kernel
theorem d79_6 : decode prog_2_method_7_code 6 = .ok (.iconst 0, 1) := by decide +kernel
theorem d79_7 : decode prog_2_method_7_code 7 = .ok (.putfield 29, 3) := by decide +kernel
theorem d79_10 : decode prog_2_method_7_code 10 = .ok (.aload_n 0, 1) := by decide +kernel
theorem d79_11 : decode prog_2_method_7_code 11 = .ok (.iconst 0, 1) := by decide +kernel
theorem d79_12 : decode prog_2_method_7_code 12 = .ok (.putfield 32, 3) := by decide +kernel
theorem d79_15 : decode prog_2_method_7_code 15 = .ok (.return_, 1) := by decide +kernel
theorem d80_0 : decode prog_3_method_1_code 0 = .ok (.aload_n 0, 1) := by decide +kernel
theorem d80_1 : decode prog_3_method_1_code 1 = .ok (.invokespecial 3, 3) := by decide +kernel
theorem d80_4 : decode prog_3_method_1_code 4 = .ok (.aload_n 0, 1) := by decide +kernel
theorem d80_5 : decode prog_3_method_1_code 5 = .ok (.bipush 24, 2) := by decide +kernel
theorem d80_7 : decode prog_3_method_1_code 7 = .ok (.newarray .int, 2) := by decide +kernel
theorem d80_9 : decode prog_3_method_1_code 9 = .ok (.putfield 9, 3) := by decide +kernel
theorem d80_12 : decode prog_3_method_1_code 12 = .ok (.aload_n 0, 1) := by decide +kernel
theorem d80_13 : decode prog_3_method_1_code 13 = .ok (.bipush 24, 2) := by decide +kernel
theorem d80_15 : decode prog_3_method_1_code 15 = .ok (.newarray .int, 2) := by decide +kernel
theorem d80_17 : decode prog_3_method_1_code 17 = .ok (.putfield 15, 3) := by decide +kernel
theorem d80_20 : decode prog_3_method_1_code 20 = .ok (.aload_n 0, 1) := by decide +kernel
theorem d80_21 : decode prog_3_method_1_code 21 = .ok (.bipush 24, 2) := by decide +kernel
theorem d80_23 : decode prog_3_method_1_code 23 = .ok (.newarray .int, 2) := by decide +kernel
theorem d80_25 : decode prog_3_method_1_code 25 = .ok (.putfield 18, 3) := by decide +kernel
theorem d80_28 : decode prog_3_method_1_code 28 = .ok (.aload_n 0, 1) := by decide +kernel
theorem d80_29 : decode prog_3_method_1_code 29 = .ok (.bipush 12, 2) := by decide +kernel
theorem d80_31 : decode prog_3_method_1_code 31 = .ok (.newarray .int, 2) := by decide +kernel
theorem d80_33 : decode prog_3_method_1_code 33 = .ok (.putfield 21, 3) := by decide +kernel
theorem d80_36 : decode prog_3_method_1_code 36 = .ok (.aload_n 0, 1) := by decide +kernel
theorem d80_37 : decode prog_3_method_1_code 37 = .ok (.bipush 12, 2) := by decide +kernel
theorem d80_39 : decode prog_3_method_1_code 39 = .ok (.newarray .int, 2) := by decide +kernel
theorem d80_41 : decode prog_3_method_1_code 41 = .ok (.putfield 24, 3) := by decide +kernel
theorem d80_44 : decode prog_3_method_1_code 44 = .ok (.aload_n 0, 1) := by decide +kernel
theorem d80_45 : decode prog_3_method_1_code 45 = .ok (.iconst 0, 1) := by decide +kernel
theorem d80_46 : decode prog_3_method_1_code 46 = .ok (.putfield 27, 3) := by decide +kernel
theorem d80_49 : decode prog_3_method_1_code 49 = .ok (.aload_n 0, 1) := by decide +kernel
theorem d80_50 : decode prog_3_method_1_code 50 = .ok (.iconst 0, 1) := by decide +kernel
theorem d80_51 : decode prog_3_method_1_code 51 = .ok (.putfield 31, 3) := by decide +kernel
theorem d80_54 : decode prog_3_method_1_code 54 = .ok (.aload_n 0, 1) := by decide +kernel
theorem d80_55 : decode prog_3_method_1_code 55 = .ok (.iconst 0, 1) := by decide +kernel
theorem d80_56 : decode prog_3_method_1_code 56 = .ok (.putfield 34, 3) := by decide +kernel
theorem d80_59 : decode prog_3_method_1_code 59 = .ok (.return_, 1) := by decide +kernel
theorem d81_0 : decode prog_3_method_2_code 0 = .ok (.aload_n 0, 1) := by decide +kernel
theorem d81_1 : decode prog_3_method_2_code 1 = .ok (.getfield 21, 3) := by decide +kernel
theorem d81_4 : decode prog_3_method_2_code 4 = .ok (.aload_n 0, 1) := by decide +kernel
theorem d81_5 : decode prog_3_method_2_code 5 = .ok (.getfield 15, 3) := by decide +kernel
theorem d81_8 : decode prog_3_method_2_code 8 = .ok (.iload_n 1, 1) := by decide +kernel
theorem d81_9 : decode prog_3_method_2_code 9 = .ok (.iaload, 1) := by decide +kernel
theorem d81_10 : decode prog_3_method_2_code 10 = .ok (.iaload, 1) := by decide +kernel
theorem d81_11 : decode prog_3_method_2_code 11 = .ok (.aload_n 0, 1) := by decide +kernel
theorem d81_12 : decode prog_3_method_2_code 12 = .ok (.getfield 21, 3) := by decide +kernel
theorem d81_15 : decode prog_3_method_2_code 15 = .ok (.aload_n 0, 1) := by decide +kernel
theorem d81_16 : decode prog_3_method_2_code 16 = .ok (.getfield 9, 3) := by decide +kernel
theorem d81_19 : decode prog_3_method_2_code 19 = .ok (.iload_n 1, 1) := by decide +kernel
theorem d81_20 : decode prog_3_method_2_code 20 = .ok (.iaload, 1) := by decide +kernel
theorem d81_21 : decode prog_3_method_2_code 21 = .ok (.iaload, 1) := by decide +kernel
theorem d81_22 : decode prog_3_method_2_code 22 = .ok (.isub, 1) := by decide +kernel
theorem d81_23 : decode prog_3_method_2_code 23 = .ok (.ireturn, 1) := by decide +kernel
theorem d82_0 : decode prog_3_method_3_code 0 = .ok (.iconst 0, 1) := by decide +kernel
theorem d82_1 : decode prog_3_method_3_code 1 = .ok (.istore_n 3, 1) := by decide +kernel
theorem d82_2 : decode prog_3_method_3_code 2 = .ok (.iload_n 3, 1) := by decide +kernel
theorem d82_3 : decode prog_3_method_3_code 3 = .ok (.aload_n 1, 1) := by decide +kernel
theorem d82_4 : decode prog_3_method_3_code 4 = .ok (.getfield 37, 3) := by decide +kernel
theorem d82_7 : decode prog_3_method_3_code 7 = .ok (.if_icmp .ge 68, 3) := by decide +kernel
theorem d82_10 : decode prog_3_method_3_code 10 = .ok (.aload_n 2, 1) := by decide +kernel
theorem d82_11 : decode prog_3_method_3_code 11 = .ok (.iload_n 3, 1) := by decide +kernel
theorem d82_12 : decode prog_3_method_3_code 12 = .ok (.invokevirtual 42, 3) := by decide +kernel
theorem d82_15 : decode prog_3_method_3_code 15 = .ok (.istore 4, 2) := by decide +kernel
theorem d82_17 : decode prog_3_method_3_code 17 = .ok (.aload_n 0, 1) := by decide +kernel
theorem d82_18 : decode prog_3_method_3_code 18 = .ok (.getfield 9, 3) := by decide +kernel
theorem d82_21 : decode prog_3_method_3_code 21 = .ok (.iload_n 3, 1) := by decide +kernel
theorem d82_22 : decode prog_3_method_3_code 22 = .ok (.iload 4, 2) := by decide +kernel
theorem d82_24 : decode prog_3_method_3_code 24 = .ok (.ifCond .eq 12, 3) := by decide +kernel
theorem d82_27 : decode prog_3_method_3_code 27 = .ok (.aload_n 1, 1) := by decide +kernel
theorem d82_28 : decode prog_3_method_3_code 28 = .ok (.getfield 48, 3) := by decide +kernel
theorem d82_31 : decode prog_3_method_3_code 31 = .ok (.iload_n 3, 1) := by decide +kernel
theorem d82_32 : decode prog_3_method_3_code 32 = .ok (.iaload, 1) := by decide +kernel
theorem d82_33 : decode prog_3_method_3_code 33 = .ok (.goto 9, 3) := by decide +kernel
theorem d82_36 : decode prog_3_method_3_code 36 = .ok (.aload_n 1, 1) := by decide +kernel
theorem d82_37 : decode prog_3_method_3_code 37 = .ok (.getfield 51, 3) := by decide +kernel
theorem d82_40 : decode prog_3_method_3_code 40 = .ok (.iload_n 3, 1) := by decide +kernel
theorem d82_41 : decode prog_3_method_3_code 41 = .ok (.iaload, 1) := by decide +kernel
theorem d82_42 : decode prog_3_method_3_code 42 = .ok (.iastore, 1) := by decide +kernel
theorem d82_43 : decode prog_3_method_3_code 43 = .ok (.aload_n 0, 1) := by decide +kernel
theorem d82_44 : decode prog_3_method_3_code 44 = .ok (.getfield 15, 3) := by decide +kernel
theorem d82_47 : decode prog_3_method_3_code 47 = .ok (.iload_n 3, 1) := by decide +kernel
theorem d82_48 : decode prog_3_method_3_code 48 = .ok (.iload 4, 2) := by decide +kernel
theorem d82_50 : decode prog_3_method_3_code 50 = .ok (.ifCond .eq 12, 3) := by decide +kernel
theorem d82_53 : decode prog_3_method_3_code 53 = .ok (.aload_n 1, 1) := by decide +kernel
theorem d82_54 : decode prog_3_method_3_code 54 = .ok (.getfield 51, 3) := by decide +kernel
theorem d82_57 : decode prog_3_method_3_code 57 = .ok (.iload_n 3, 1) := by decide +kernel
theorem d82_58 : decode prog_3_method_3_code 58 = .ok (.iaload, 1) := by decide +kernel
theorem d82_59 : decode prog_3_method_3_code 59 = .ok (.goto 9, 3) := by decide +kernel
theorem d82_62 : decode prog_3_method_3_code 62 = .ok (.aload_n 1, 1) := by decide +kernel
theorem d82_63 : decode prog_3_method_3_code 63 = .ok (.getfield 48, 3) := by decide +kernel
theorem d82_66 : decode prog_3_method_3_code 66 = .ok (.iload_n 3, 1) := by decide +kernel
theorem d82_67 : decode prog_3_method_3_code 67 = .ok (.iaload, 1) := by decide +kernel
theorem d82_68 : decode prog_3_method_3_code 68 = .ok (.iastore, 1) := by decide +kernel
theorem d82_69 : decode prog_3_method_3_code 69 = .ok (.iinc 3 1, 3) := by decide +kernel
theorem d82_72 : decode prog_3_method_3_code 72 = .ok (.goto (-70), 3) := by decide +kernel
theorem d82_75 : decode prog_3_method_3_code 75 = .ok (.aload_n 0, 1) := by decide +kernel
theorem d82_76 : decode prog_3_method_3_code 76 = .ok (.getfield 18, 3) := by decide +kernel
theorem d82_79 : decode prog_3_method_3_code 79 = .ok (.iconst 1, 1) := by decide +kernel
theorem d82_80 : decode prog_3_method_3_code 80 = .ok (.invokestatic 54, 3) := by decide +kernel
theorem d82_83 : decode prog_3_method_3_code 83 = .ok (.aload_n 0, 1) := by decide +kernel
theorem d82_84 : decode prog_3_method_3_code 84 = .ok (.aload_n 1, 1) := by decide +kernel
theorem d82_85 : decode prog_3_method_3_code 85 = .ok (.invokevirtual 60, 3) := by decide +kernel
theorem d82_88 : decode prog_3_method_3_code 88 = .ok (.istore_n 3, 1) := by decide +kernel
theorem d82_89 : decode prog_3_method_3_code 89 = .ok (.iconst 0, 1) := by decide +kernel
theorem d82_90 : decode prog_3_method_3_code 90 = .ok (.istore 4, 2) := by decide +kernel
theorem d82_92 : decode prog_3_method_3_code 92 = .ok (.iload 4, 2) := by decide +kernel
theorem d82_94 : decode prog_3_method_3_code 94 = .ok (.sipush 1000, 3) := by decide +kernel
theorem d82_97 : decode prog_3_method_3_code 97 = .ok (.if_icmp .ge 29, 3) := by decide +kernel
theorem d82_100 : decode prog_3_method_3_code 100 = .ok (.iload_n 3, 1) := by decide +kernel
theorem d82_101 : decode prog_3_method_3_code 101 = .ok (.iconst (-1), 1) := by decide +kernel
theorem d82_102 : decode prog_3_method_3_code 102 = .ok (.if_icmp .eq 24, 3) := by decide +kernel
theorem d82_105 : decode prog_3_method_3_code 105 = .ok (.aload_n 0, 1) := by decide +kernel
theorem d82_106 : decode prog_3_method_3_code 106 = .ok (.aload_n 1, 1) := by decide +kernel
theorem d82_107 : decode prog_3_method_3_code 107 = .ok (.getfield 64, 3) := by decide +kernel
theorem d82_110 : decode prog_3_method_3_code 110 = .ok (.iload_n 3, 1) := by decide +kernel
theorem d82_111 : decode prog_3_method_3_code 111 = .ok (.invokevirtual 67, 3) := by decide +kernel
theorem d82_114 : decode prog_3_method_3_code 114 = .ok (.aload_n 0, 1) := by decide +kernel
theorem d82_115 : decode prog_3_method_3_code 115 = .ok (.aload_n 1, 1) := by decide +kernel
theorem d82_116 : decode prog_3_method_3_code 116 = .ok (.invokevirtual 60, 3) := by decide +kernel
theorem d82_119 : decode prog_3_method_3_code 119 = .ok (.istore_n 3, 1) := by decide +kernel
theorem d82_120 : decode prog_3_method_3_code 120 = .ok (.iinc 4 1, 3) := by decide +kernel
theorem d82_123 : decode prog_3_method_3_code 123 = .ok (.goto (-31), 3) := by decide +kernel
theorem d82_126 : decode prog_3_method_3_code 126 = .ok (.aload_n 0, 1) := by decide +kernel
theorem d82_127 : decode prog_3_method_3_code 127 = .ok (.aload_n 1, 1) := by decide +kernel
theorem d82_128 : decode prog_3_method_3_code 128 = .ok (.invokevirtual 71, 3) := by decide +kernel
theorem d82_131 : decode prog_3_method_3_code 131 = .ok (.return_, 1) := by decide +kernel
theorem d83_0 : decode prog_3_method_4_code 0 = .ok (.aload_n 0, 1) := by decide +kernel
theorem d83_1 : decode prog_3_method_4_code 1 = .ok (.getfield 21, 3) := by decide +kernel
theorem d83_4 : decode prog_3_method_4_code 4 = .ok (.iconst 0, 1) := by decide +kernel
theorem d83_5 : decode prog_3_method_4_code 5 = .ok (.invokestatic 54, 3) := by decide +kernel
theorem d83_8 : decode prog_3_method_4_code 8 = .ok (.aload_n 0, 1) := by decide +kernel
theorem d83_9 : decode prog_3_method_4_code 9 = .ok (.getfield 24, 3) := by decide +kernel
theorem d83_12 : decode prog_3_method_4_code 12 = .ok (.iconst (-1), 1) := by decide +kernel
theorem d83_13 : decode prog_3_method_4_code 13 = .ok (.invokestatic 54, 3) := by decide +kernel
theorem d83_16 : decode prog_3_method_4_code 16 = .ok (.iconst (-1), 1) := by decide +kernel
theorem d83_17 : decode prog_3_method_4_code 17 = .ok (.istore_n 2, 1) := by decide +kernel
theorem d83_18 : decode prog_3_method_4_code 18 = .ok (.iconst 0, 1) := by decide +kernel
theorem d83_19 : decode prog_3_method_4_code 19 = .ok (.istore_n 3, 1) := by decide +kernel
theorem d83_20 : decode prog_3_method_4_code 20 = .ok (.iload_n 3, 1) := by decide +kernel
theorem d83_21 : decode prog_3_method_4_code 21 = .ok (.aload_n 1, 1) := by decide +kernel
theorem d83_22 : decode prog_3_method_4_code 22 = .ok (.getfield 64, 3) := by decide +kernel
theorem d83_25 : decode prog_3_method_4_code 25 = .ok (.if_icmp .gt 58, 3) := by decide +kernel
theorem d83_28 : decode prog_3_method_4_code 28 = .ok (.iconst (-1), 1) := by decide +kernel
theorem d83_29 : decode prog_3_method_4_code 29 = .ok (.istore_n 2, 1) := by decide +kernel
theorem d83_30 : decode prog_3_method_4_code 30 = .ok (.iconst 0, 1) := by decide +kernel
theorem d83_31 : decode prog_3_method_4_code 31 = .ok (.istore 4, 2) := by decide +kernel
theorem d83_33 : decode prog_3_method_4_code 33 = .ok (.iload 4, 2) := by decide +kernel
theorem d83_35 : decode prog_3_method_4_code 35 = .ok (.aload_n 1, 1) := by decide +kernel
theorem d83_36 : decode prog_3_method_4_code 36 = .ok (.getfield 37, 3) := by decide +kernel
theorem d83_39 : decode prog_3_method_4_code 39 = .ok (.if_icmp .ge 30, 3) := by decide +kernel
theorem d83_42 : decode prog_3_method_4_code 42 = .ok (.aload_n 1, 1) := by decide +kernel
theorem d83_43 : decode prog_3_method_4_code 43 = .ok (.getfield 75, 3) := by decide +kernel
theorem d83_46 : decode prog_3_method_4_code 46 = .ok (.iload 4, 2) := by decide +kernel
theorem d83_48 : decode prog_3_method_4_code 48 = .ok (.baload, 1) := by decide +kernel
theorem d83_49 : decode prog_3_method_4_code 49 = .ok (.ifCond .eq 14, 3) := by decide +kernel
theorem d83_52 : decode prog_3_method_4_code 52 = .ok (.iload_n 2, 1) := by decide +kernel
theorem d83_53 : decode prog_3_method_4_code 53 = .ok (.aload_n 0, 1) := by decide +kernel
theorem d83_54 : decode prog_3_method_4_code 54 = .ok (.iload 4, 2) := by decide +kernel
theorem d83_56 : decode prog_3_method_4_code 56 = .ok (.invokevirtual 79, 3) := by decide +kernel
theorem d83_59 : decode prog_3_method_4_code 59 = .ok (.invokestatic 83, 3) := by decide +kernel
theorem d83_62 : decode prog_3_method_4_code 62 = .ok (.istore_n 2, 1) := by decide +kernel
theorem d83_63 : decode prog_3_method_4_code 63 = .ok (.iinc 4 1, 3) := by decide +kernel
theorem d83_66 : decode prog_3_method_4_code 66 = .ok (.goto (-33), 3) := by decide +kernel
theorem d83_69 : decode prog_3_method_4_code 69 = .ok (.iload_n 2, 1) := by decide +kernel
theorem d83_70 : decode prog_3_method_4_code 70 = .ok (.iconst (-1), 1) := by decide +kernel
theorem d83_71 : decode prog_3_method_4_code 71 = .ok (.if_icmp .ne 6, 3) := by decide +kernel
theorem d83_74 : decode prog_3_method_4_code 74 = .ok (.goto 9, 3) := by decide +kernel
theorem d83_77 : decode prog_3_method_4_code 77 = .ok (.iinc 3 1, 3) := by decide +kernel
theorem d83_80 : decode prog_3_method_4_code 80 = .ok (.goto (-60), 3) := by decide +kernel
theorem d83_83 : decode prog_3_method_4_code 83 = .ok (.iload_n 2, 1) := by decide +kernel
theorem d83_84 : decode prog_3_method_4_code 84 = .ok (.ireturn, 1) := by decide +kernel
theorem d84_0 : decode prog_3_method_5_code 0 = .ok (.aload_n 0, 1) := by decide +kernel
theorem d84_1 : decode prog_3_method_5_code 1 = .ok (.getfield 9, 3) := by decide +kernel
theorem d84_4 : decode prog_3_method_5_code 4 = .ok (.iload_n 1, 1) := by decide +kernel
theorem d84_5 : decode prog_3_method_5_code 5 = .ok (.iaload, 1) := by decide +kernel
theorem d84_6 : decode prog_3_method_5_code 6 = .ok (.istore_n 2, 1) := by decide +kernel
theorem d84_7 : decode prog_3_method_5_code 7 = .ok (.aload_n 0, 1) := by decide +kernel
theorem d84_8 : decode prog_3_method_5_code 8 = .ok (.getfield 15, 3) := by decide +kernel
theorem d84_11 : decode prog_3_method_5_code 11 = .ok (.iload_n 1, 1) := by decide +kernel
theorem d84_12 : decode prog_3_method_5_code 12 = .ok (.iaload, 1) := by decide +kernel
theorem d84_13 : decode prog_3_method_5_code 13 = .ok (.istore_n 3, 1) := by decide +kernel
theorem d84_14 : decode prog_3_method_5_code 14 = .ok (.aload_n 0, 1) := by decide +kernel
theorem d84_15 : decode prog_3_method_5_code 15 = .ok (.getfield 21, 3) := by decide +kernel
theorem d84_18 : decode prog_3_method_5_code 18 = .ok (.iload_n 3, 1) := by decide +kernel
theorem d84_19 : decode prog_3_method_5_code 19 = .ok (.iaload, 1) := by decide +kernel
theorem d84_20 : decode prog_3_method_5_code 20 = .ok (.aload_n 0, 1) := by decide +kernel
theorem d84_21 : decode prog_3_method_5_code 21 = .ok (.getfield 21, 3) := by decide +kernel
theorem d84_24 : decode prog_3_method_5_code 24 = .ok (.iload_n 2, 1) := by decide +kernel
theorem d84_25 : decode prog_3_method_5_code 25 = .ok (.iaload, 1) := by decide +kernel
theorem d84_26 : decode prog_3_method_5_code 26 = .ok (.iconst 1, 1) := by decide +kernel
theorem d84_27 : decode prog_3_method_5_code 27 = .ok (.iadd, 1) := by decide +kernel
theorem d84_28 : decode prog_3_method_5_code 28 = .ok (.if_icmp .ge 26, 3) := by decide +kernel
theorem d84_31 : decode prog_3_method_5_code 31 = .ok (.aload_n 0, 1) := by decide +kernel
theorem d84_32 : decode prog_3_method_5_code 32 = .ok (.getfield 21, 3) := by decide +kernel
theorem d84_35 : decode prog_3_method_5_code 35 = .ok (.iload_n 3, 1) := by decide +kernel
theorem d84_36 : decode prog_3_method_5_code 36 = .ok (.aload_n 0, 1) := by decide +kernel
theorem d84_37 : decode prog_3_method_5_code 37 = .ok (.getfield 21, 3) := by decide +kernel
theorem d84_40 : decode prog_3_method_5_code 40 = .ok (.iload_n 2, 1) := by decide +kernel
theorem d84_41 : decode prog_3_method_5_code 41 = .ok (.iaload, 1) := by decide +kernel
theorem d84_42 : decode prog_3_method_5_code 42 = .ok (.iconst 1, 1) := by decide +kernel
theorem d84_43 : decode prog_3_method_5_code 43 = .ok (.iadd, 1) := by decide +kernel
theorem d84_44 : decode prog_3_method_5_code 44 = .ok (.iastore, 1) := by decide +kernel
theorem d84_45 : decode prog_3_method_5_code 45 = .ok (.aload_n 0, 1) := by decide +kernel
theorem d84_46 : decode prog_3_method_5_code 46 = .ok (.getfield 24, 3) := by decide +kernel
theorem d84_49 : decode prog_3_method_5_code 49 = .ok (.iload_n 3, 1) := by decide +kernel
theorem d84_50 : decode prog_3_method_5_code 50 = .ok (.iload_n 1, 1) := by decide +kernel
theorem d84_51 : decode prog_3_method_5_code 51 = .ok (.iastore, 1) := by decide +kernel
theorem d84_52 : decode prog_3_method_5_code 52 = .ok (.iload_n 3, 1) := by decide +kernel
theorem d84_53 : decode prog_3_method_5_code 53 = .ok (.ireturn, 1) := by decide +kernel
theorem d84_54 : decode prog_3_method_5_code 54 = .ok (.aload_n 0, 1) := by decide +kernel
theorem d84_55 : decode prog_3_method_5_code 55 = .ok (.getfield 18, 3) := by decide +kernel
theorem d84_58 : decode prog_3_method_5_code 58 = .ok (.iload_n 1, 1) := by decide +kernel
theorem d84_59 : decode prog_3_method_5_code 59 = .ok (.iaload, 1) := by decide +kernel
theorem d84_60 : decode prog_3_method_5_code 60 = .ok (.ifCond .le 46, 3) := by decide +kernel
theorem d84_63 : decode prog_3_method_5_code 63 = .ok (.aload_n 0, 1) := by decide +kernel
theorem d84_64 : decode prog_3_method_5_code 64 = .ok (.getfield 21, 3) := by decide +kernel
theorem d84_67 : decode prog_3_method_5_code 67 = .ok (.iload_n 2, 1) := by decide +kernel
theorem d84_68 : decode prog_3_method_5_code 68 = .ok (.iaload, 1) := by decide +kernel
theorem d84_69 : decode prog_3_method_5_code 69 = .ok (.aload_n 0, 1) := by decide +kernel
theorem d84_70 : decode prog_3_method_5_code 70 = .ok (.getfield 21, 3) := by decide +kernel
theorem d84_73 : decode prog_3_method_5_code 73 = .ok (.iload_n 3, 1) := by decide +kernel
theorem d84_74 : decode prog_3_method_5_code 74 = .ok (.iaload, 1) := by decide +kernel
theorem d84_75 : decode prog_3_method_5_code 75 = .ok (.iconst 1, 1) := by decide +kernel
theorem d84_76 : decode prog_3_method_5_code 76 = .ok (.isub, 1) := by decide +kernel
theorem d84_77 : decode prog_3_method_5_code 77 = .ok (.if_icmp .ge 29, 3) := by decide +kernel
theorem d84_80 : decode prog_3_method_5_code 80 = .ok (.aload_n 0, 1) := by decide +kernel
theorem d84_81 : decode prog_3_method_5_code 81 = .ok (.getfield 21, 3) := by decide +kernel
theorem d84_84 : decode prog_3_method_5_code 84 = .ok (.iload_n 2, 1) := by decide +kernel
theorem d84_85 : decode prog_3_method_5_code 85 = .ok (.aload_n 0, 1) := by decide +kernel
theorem d84_86 : decode prog_3_method_5_code 86 = .ok (.getfield 21, 3) := by decide +kernel
theorem d84_89 : decode prog_3_method_5_code 89 = .ok (.iload_n 3, 1) := by decide +kernel
theorem d84_90 : decode prog_3_method_5_code 90 = .ok (.iaload, 1) := by decide +kernel
theorem d84_91 : decode prog_3_method_5_code 91 = .ok (.iconst 1, 1) := by decide +kernel
theorem d84_92 : decode prog_3_method_5_code 92 = .ok (.isub, 1) := by decide +kernel
theorem d84_93 : decode prog_3_method_5_code 93 = .ok (.iastore, 1) := by decide +kernel
theorem d84_94 : decode prog_3_method_5_code 94 = .ok (.aload_n 0, 1) := by decide +kernel
theorem d84_95 : decode prog_3_method_5_code 95 = .ok (.getfield 24, 3) := by decide +kernel
theorem d84_98 : decode prog_3_method_5_code 98 = .ok (.iload_n 2, 1) := by decide +kernel
theorem d84_99 : decode prog_3_method_5_code 99 = .ok (.bipush 24, 2) := by decide +kernel
theorem d84_101 : decode prog_3_method_5_code 101 = .ok (.iload_n 1, 1) := by decide +kernel
theorem d84_102 : decode prog_3_method_5_code 102 = .ok (.iadd, 1) := by decide +kernel
theorem d84_103 : decode prog_3_method_5_code 103 = .ok (.iastore, 1) := by decide +kernel
theorem d84_104 : decode prog_3_method_5_code 104 = .ok (.iload_n 2, 1) := by decide +kernel
theorem d84_105 : decode prog_3_method_5_code 105 = .ok (.ireturn, 1) := by decide +kernel
theorem d84_106 : decode prog_3_method_5_code 106 = .ok (.iconst (-1), 1) := by decide +kernel
theorem d84_107 : decode prog_3_method_5_code 107 = .ok (.ireturn, 1) := by decide +kernel
theorem d85_0 : decode prog_3_method_6_code 0 = .ok (.iload_n 2, 1) := by decide +kernel
theorem d85_1 : decode prog_3_method_6_code 1 = .ok (.istore_n 3, 1) := by decide +kernel
theorem d85_2 : decode prog_3_method_6_code 2 = .ok (.iconst 0, 1) := by decide +kernel
theorem d85_3 : decode prog_3_method_6_code 3 = .ok (.istore 4, 2) := by decide +kernel
theorem d85_5 : decode prog_3_method_6_code 5 = .ok (.iload 4, 2) := by decide +kernel
theorem d85_7 : decode prog_3_method_6_code 7 = .ok (.iload_n 1, 1) := by decide +kernel
theorem d85_8 : decode prog_3_method_6_code 8 = .ok (.if_icmp .ge 15, 3) := by decide +kernel
theorem d85_11 : decode prog_3_method_6_code 11 = .ok (.aload_n 0, 1) := by decide +kernel
theorem d85_12 : decode prog_3_method_6_code 12 = .ok (.iload_n 3, 1) := by decide +kernel
theorem d85_13 : decode prog_3_method_6_code 13 = .ok (.invokevirtual 89, 3) := by decide +kernel
theorem d85_16 : decode prog_3_method_6_code 16 = .ok (.istore_n 3, 1) := by decide +kernel
theorem d85_17 : decode prog_3_method_6_code 17 = .ok (.iinc 4 1, 3) := by decide +kernel
theorem d85_20 : decode prog_3_method_6_code 20 = .ok (.goto (-15), 3) := by decide +kernel
theorem d85_23 : decode prog_3_method_6_code 23 = .ok (.ldc 94, 2) := by decide +kernel
theorem d85_25 : decode prog_3_method_6_code 25 = .ok (.istore 4, 2) := by decide +kernel
theorem d85_27 : decode prog_3_method_6_code 27 = .ok (.iload_n 3, 1) := by decide +kernel
theorem d85_28 : decode prog_3_method_6_code 28 = .ok (.istore 5, 2) := by decide +kernel
theorem d85_30 : decode prog_3_method_6_code 30 = .ok (.iconst 0, 1) := by decide +kernel
theorem d85_31 : decode prog_3_method_6_code 31 = .ok (.istore 6, 2) := by decide +kernel
theorem d85_33 : decode prog_3_method_6_code 33 = .ok (.iload 6, 2) := by decide +kernel
theorem d85_35 : decode prog_3_method_6_code 35 = .ok (.iload_n 1, 1) := by decide +kernel
theorem d85_36 : decode prog_3_method_6_code 36 = .ok (.if_icmp .ge 62, 3) := by decide +kernel
theorem d85_39 : decode prog_3_method_6_code 39 = .ok (.iload 6, 2) := by decide +kernel
theorem d85_41 : decode prog_3_method_6_code 41 = .ok (.ifCond .eq 9, 3) := by decide +kernel
theorem d85_44 : decode prog_3_method_6_code 44 = .ok (.iload 5, 2) := by decide +kernel
theorem d85_46 : decode prog_3_method_6_code 46 = .ok (.iload_n 3, 1) := by decide +kernel
theorem d85_47 : decode prog_3_method_6_code 47 = .ok (.if_icmp .eq 51, 3) := by decide +kernel
theorem d85_50 : decode prog_3_method_6_code 50 = .ok (.aload_n 0, 1) := by decide +kernel
theorem d85_51 : decode prog_3_method_6_code 51 = .ok (.getfield 24, 3) := by decide +kernel
theorem d85_54 : decode prog_3_method_6_code 54 = .ok (.iload 5, 2) := by decide +kernel
theorem d85_56 : decode prog_3_method_6_code 56 = .ok (.iaload, 1) := by decide +kernel
theorem d85_57 : decode prog_3_method_6_code 57 = .ok (.bipush 24, 2) := by decide +kernel
theorem d85_59 : decode prog_3_method_6_code 59 = .ok (.if_icmp .lt 25, 3) := by decide +kernel
theorem d85_62 : decode prog_3_method_6_code 62 = .ok (.iload 4, 2) := by decide +kernel
theorem d85_64 : decode prog_3_method_6_code 64 = .ok (.aload_n 0, 1) := by decide +kernel
theorem d85_65 : decode prog_3_method_6_code 65 = .ok (.getfield 18, 3) := by decide +kernel
theorem d85_68 : decode prog_3_method_6_code 68 = .ok (.aload_n 0, 1) := by decide +kernel
theorem d85_69 : decode prog_3_method_6_code 69 = .ok (.getfield 24, 3) := by decide +kernel
theorem d85_72 : decode prog_3_method_6_code 72 = .ok (.iload 5, 2) := by decide +kernel
theorem d85_74 : decode prog_3_method_6_code 74 = .ok (.iaload, 1) := by decide +kernel
theorem d85_75 : decode prog_3_method_6_code 75 = .ok (.bipush 24, 2) := by decide +kernel
theorem d85_77 : decode prog_3_method_6_code 77 = .ok (.isub, 1) := by decide +kernel
theorem d85_78 : decode prog_3_method_6_code 78 = .ok (.iaload, 1) := by decide +kernel
theorem d85_79 : decode prog_3_method_6_code 79 = .ok (.invokestatic 95, 3) := by decide +kernel
theorem d85_82 : decode prog_3_method_6_code 82 = .ok (.istore 4, 2) := by decide +kernel
theorem d85_84 : decode prog_3_method_6_code 84 = .ok (.aload_n 0, 1) := by decide +kernel
theorem d85_85 : decode prog_3_method_6_code 85 = .ok (.iload 5, 2) := by decide +kernel
theorem d85_87 : decode prog_3_method_6_code 87 = .ok (.invokevirtual 89, 3) := by decide +kernel
theorem d85_90 : decode prog_3_method_6_code 90 = .ok (.istore 5, 2) := by decide +kernel
theorem d85_92 : decode prog_3_method_6_code 92 = .ok (.iinc 6 1, 3) := by decide +kernel
theorem d85_95 : decode prog_3_method_6_code 95 = .ok (.goto (-62), 3) := by decide +kernel
theorem d85_98 : decode prog_3_method_6_code 98 = .ok (.iload_n 3, 1) := by decide +kernel
theorem d85_99 : decode prog_3_method_6_code 99 = .ok (.istore 5, 2) := by decide +kernel
theorem d85_101 : decode prog_3_method_6_code 101 = .ok (.iconst 0, 1) := by decide +kernel
theorem d85_102 : decode prog_3_method_6_code 102 = .ok (.istore 6, 2) := by decide +kernel
theorem d85_104 : decode prog_3_method_6_code 104 = .ok (.iload 6, 2) := by decide +kernel
theorem d85_106 : decode prog_3_method_6_code 106 = .ok (.iload_n 1, 1) := by decide +kernel
theorem d85_107 : decode prog_3_method_6_code 107 = .ok (.if_icmp .ge 41, 3) := by decide +kernel
theorem d85_110 : decode prog_3_method_6_code 110 = .ok (.iload 6, 2) := by decide +kernel
theorem d85_112 : decode prog_3_method_6_code 112 = .ok (.ifCond .eq 9, 3) := by decide +kernel
theorem d85_115 : decode prog_3_method_6_code 115 = .ok (.iload 5, 2) := by decide +kernel
theorem d85_117 : decode prog_3_method_6_code 117 = .ok (.iload_n 3, 1) := by decide +kernel
theorem d85_118 : decode prog_3_method_6_code 118 = .ok (.if_icmp .eq 30, 3) := by decide +kernel
theorem d85_121 : decode prog_3_method_6_code 121 = .ok (.aload_n 0, 1) := by decide +kernel
theorem d85_122 : decode prog_3_method_6_code 122 = .ok (.aload_n 0, 1) := by decide +kernel
theorem d85_123 : decode prog_3_method_6_code 123 = .ok (.getfield 24, 3) := by decide +kernel
theorem d85_126 : decode prog_3_method_6_code 126 = .ok (.iload 5, 2) := by decide +kernel
theorem d85_128 : decode prog_3_method_6_code 128 = .ok (.iaload, 1) := by decide +kernel
theorem d85_129 : decode prog_3_method_6_code 129 = .ok (.iload 4, 2) := by decide +kernel
theorem d85_131 : decode prog_3_method_6_code 131 = .ok (.invokevirtual 98, 3) := by decide +kernel
theorem d85_134 : decode prog_3_method_6_code 134 = .ok (.aload_n 0, 1) := by decide +kernel
theorem d85_135 : decode prog_3_method_6_code 135 = .ok (.iload 5, 2) := by decide +kernel
theorem d85_137 : decode prog_3_method_6_code 137 = .ok (.invokevirtual 89, 3) := by decide +kernel
theorem d85_140 : decode prog_3_method_6_code 140 = .ok (.istore 5, 2) := by decide +kernel
theorem d85_142 : decode prog_3_method_6_code 142 = .ok (.iinc 6 1, 3) := by decide +kernel
theorem d85_145 : decode prog_3_method_6_code 145 = .ok (.goto (-41), 3) := by decide +kernel
theorem d85_148 : decode prog_3_method_6_code 148 = .ok (.return_, 1) := by decide +kernel
theorem d86_0 : decode prog_3_method_7_code 0 = .ok (.aload_n 0, 1) := by decide +kernel
theorem d86_1 : decode prog_3_method_7_code 1 = .ok (.getfield 24, 3) := by decide +kernel
theorem d86_4 : decode prog_3_method_7_code 4 = .ok (.iload_n 1, 1) := by decide +kernel
theorem d86_5 : decode prog_3_method_7_code 5 = .ok (.iaload, 1) := by decide +kernel
theorem d86_6 : decode prog_3_method_7_code 6 = .ok (.istore_n 2, 1) := by decide +kernel
theorem d86_7 : decode prog_3_method_7_code 7 = .ok (.iload_n 2, 1) := by decide +kernel
theorem d86_8 : decode prog_3_method_7_code 8 = .ok (.iconst (-1), 1) := by decide +kernel
theorem d86_9 : decode prog_3_method_7_code 9 = .ok (.if_icmp .ne 5, 3) := by decide +kernel
theorem d86_12 : decode prog_3_method_7_code 12 = .ok (.iload_n 1, 1) := by decide +kernel
theorem d86_13 : decode prog_3_method_7_code 13 = .ok (.ireturn, 1) := by decide +kernel
theorem d86_14 : decode prog_3_method_7_code 14 = .ok (.iload_n 2, 1) := by decide +kernel
theorem d86_15 : decode prog_3_method_7_code 15 = .ok (.bipush 24, 2) := by decide +kernel
theorem d86_17 : decode prog_3_method_7_code 17 = .ok (.if_icmp .ge 12, 3) := by decide +kernel
theorem d86_20 : decode prog_3_method_7_code 20 = .ok (.aload_n 0, 1) := by decide +kernel
theorem d86_21 : decode prog_3_method_7_code 21 = .ok (.getfield 9, 3) := by decide +kernel
theorem d86_24 : decode prog_3_method_7_code 24 = .ok (.iload_n 2, 1) := by decide +kernel
theorem d86_25 : decode prog_3_method_7_code 25 = .ok (.iaload, 1) := by decide +kernel
theorem d86_26 : decode prog_3_method_7_code 26 = .ok (.goto 12, 3) := by decide +kernel
theorem d86_29 : decode prog_3_method_7_code 29 = .ok (.aload_n 0, 1) := by decide +kernel
theorem d86_30 : decode prog_3_method_7_code 30 = .ok (.getfield 15, 3) := by decide +kernel
theorem d86_33 : decode prog_3_method_7_code 33 = .ok (.iload_n 2, 1) := by decide +kernel
theorem d86_34 : decode prog_3_method_7_code 34 = .ok (.bipush 24, 2) := by decide +kernel
theorem d86_36 : decode prog_3_method_7_code 36 = .ok (.isub, 1) := by decide +kernel
theorem d86_37 : decode prog_3_method_7_code 37 = .ok (.iaload, 1) := by decide +kernel
theorem d86_38 : decode prog_3_method_7_code 38 = .ok (.ireturn, 1) := by decide +kernel
theorem d87_0 : decode prog_3_method_8_code 0 = .ok (.iload_n 1, 1) := by decide +kernel
theorem d87_1 : decode prog_3_method_8_code 1 = .ok (.bipush 24, 2) := by decide +kernel
theorem d87_3 : decode prog_3_method_8_code 3 = .ok (.if_icmp .lt 19, 3) := by decide +kernel
theorem d87_6 : decode prog_3_method_8_code 6 = .ok (.aload_n 0, 1) := by decide +kernel
theorem d87_7 : decode prog_3_method_8_code 7 = .ok (.getfield 18, 3) := by decide +kernel
theorem d87_10 : decode prog_3_method_8_code 10 = .ok (.iload_n 1, 1) := by decide +kernel
theorem d87_11 : decode prog_3_method_8_code 11 = .ok (.bipush 24, 2) := by decide +kernel
theorem d87_13 : decode prog_3_method_8_code 13 = .ok (.isub, 1) := by decide +kernel
theorem d87_14 : decode prog_3_method_8_code 14 = .ok (.dup2, 1) := by decide +kernel
theorem d87_15 : decode prog_3_method_8_code 15 = .ok (.iaload, 1) := by decide +kernel
theorem d87_16 : decode prog_3_method_8_code 16 = .ok (.iload_n 2, 1) := by decide +kernel
theorem d87_17 : decode prog_3_method_8_code 17 = .ok (.isub, 1) := by decide +kernel
theorem d87_18 : decode prog_3_method_8_code 18 = .ok (.iastore, 1) := by decide +kernel
theorem d87_19 : decode prog_3_method_8_code 19 = .ok (.goto 18, 3) := by decide +kernel
theorem d87_22 : decode prog_3_method_8_code 22 = .ok (.iload_n 1, 1) := by decide +kernel
theorem d87_23 : decode prog_3_method_8_code 23 = .ok (.iconst (-1), 1) := by decide +kernel
theorem d87_24 : decode prog_3_method_8_code 24 = .ok (.if_icmp .eq 13, 3) := by decide +kernel
theorem d87_27 : decode prog_3_method_8_code 27 = .ok (.aload_n 0, 1) := by decide +kernel
theorem d87_28 : decode prog_3_method_8_code 28 = .ok (.getfield 18, 3) := by decide +kernel
theorem d87_31 : decode prog_3_method_8_code 31 = .ok (.iload_n 1, 1) := by decide +kernel
theorem d87_32 : decode prog_3_method_8_code 32 = .ok (.dup2, 1) := by decide +kernel
theorem d87_33 : decode prog_3_method_8_code 33 = .ok (.iaload, 1) := by decide +kernel
theorem d87_34 : decode prog_3_method_8_code 34 = .ok (.iload_n 2, 1) := by decide +kernel
theorem d87_35 : decode prog_3_method_8_code 35 = .ok (.iadd, 1) := by decide +kernel
theorem d87_36 : decode prog_3_method_8_code 36 = .ok (.iastore, 1) := by decide +kernel
theorem d87_37 : decode prog_3_method_8_code 37 = .ok (.return_, 1) := by decide +kernel
theorem d88_0 : decode prog_3_method_9_code 0 = .ok (.aload_n 0, 1) := by decide +kernel
theorem d88_1 : decode prog_3_method_9_code 1 = .ok (.iconst 0, 1) := by decide +kernel
theorem d88_2 : decode prog_3_method_9_code 2 = .ok (.putfield 27, 3) := by decide +kernel
theorem d88_5 : decode prog_3_method_9_code 5 = .ok (.iconst 0, 1) := by decide +kernel
theorem d88_6 : decode prog_3_method_9_code 6 = .ok (.istore_n 2, 1) := by decide +kernel
theorem d88_7 : decode prog_3_method_9_code 7 = .ok (.iload_n 2, 1) := by decide +kernel
theorem d88_8 : decode prog_3_method_9_code 8 = .ok (.aload_n 1, 1) := by decide +kernel
theorem d88_9 : decode prog_3_method_9_code 9 = .ok (.getfield 64, 3) := by decide +kernel
theorem d88_12 : decode prog_3_method_9_code 12 = .ok (.if_icmp .ge 28, 3) := by decide +kernel
theorem d88_15 : decode prog_3_method_9_code 15 = .ok (.aload_n 0, 1) := by decide +kernel
theorem d88_16 : decode prog_3_method_9_code 16 = .ok (.aload_n 0, 1) := by decide +kernel
theorem d88_17 : decode prog_3_method_9_code 17 = .ok (.getfield 27, 3) := by decide +kernel
theorem d88_20 : decode prog_3_method_9_code 20 = .ok (.aload_n 0, 1) := by decide +kernel
theorem d88_21 : decode prog_3_method_9_code 21 = .ok (.getfield 21, 3) := by decide +kernel
theorem d88_24 : decode prog_3_method_9_code 24 = .ok (.iload_n 2, 1) := by decide +kernel
theorem d88_25 : decode prog_3_method_9_code 25 = .ok (.iaload, 1) := by decide +kernel
theorem d88_26 : decode prog_3_method_9_code 26 = .ok (.iconst 1, 1) := by decide +kernel
theorem d88_27 : decode prog_3_method_9_code 27 = .ok (.iadd, 1) := by decide +kernel
theorem d88_28 : decode prog_3_method_9_code 28 = .ok (.invokestatic 83, 3) := by decide +kernel
theorem d88_31 : decode prog_3_method_9_code 31 = .ok (.putfield 27, 3) := by decide +kernel
theorem d88_34 : decode prog_3_method_9_code 34 = .ok (.iinc 2 1, 3) := by decide +kernel
theorem d88_37 : decode prog_3_method_9_code 37 = .ok (.goto (-30), 3) := by decide +kernel
theorem d88_40 : decode prog_3_method_9_code 40 = .ok (.aload_n 0, 1) := by decide +kernel
theorem d88_41 : decode prog_3_method_9_code 41 = .ok (.iconst 0, 1) := by decide +kernel
theorem d88_42 : decode prog_3_method_9_code 42 = .ok (.putfield 31, 3) := by decide +kernel
theorem d88_45 : decode prog_3_method_9_code 45 = .ok (.iconst 0, 1) := by decide +kernel
theorem d88_46 : decode prog_3_method_9_code 46 = .ok (.istore_n 2, 1) := by decide +kernel
theorem d88_47 : decode prog_3_method_9_code 47 = .ok (.iload_n 2, 1) := by decide +kernel
theorem d88_48 : decode prog_3_method_9_code 48 = .ok (.aload_n 1, 1) := by decide +kernel
theorem d88_49 : decode prog_3_method_9_code 49 = .ok (.getfield 37, 3) := by decide +kernel
theorem d88_52 : decode prog_3_method_9_code 52 = .ok (.if_icmp .ge 32, 3) := by decide +kernel
theorem d88_55 : decode prog_3_method_9_code 55 = .ok (.aload_n 1, 1) := by decide +kernel
theorem d88_56 : decode prog_3_method_9_code 56 = .ok (.getfield 75, 3) := by decide +kernel
theorem d88_59 : decode prog_3_method_9_code 59 = .ok (.iload_n 2, 1) := by decide +kernel
theorem d88_60 : decode prog_3_method_9_code 60 = .ok (.baload, 1) := by decide +kernel
theorem d88_61 : decode prog_3_method_9_code 61 = .ok (.ifCond .eq 17, 3) := by decide +kernel
theorem d88_64 : decode prog_3_method_9_code 64 = .ok (.aload_n 0, 1) := by decide +kernel
theorem d88_65 : decode prog_3_method_9_code 65 = .ok (.dup, 1) := by decide +kernel
theorem d88_66 : decode prog_3_method_9_code 66 = .ok (.getfield 31, 3) := by decide +kernel
theorem d88_69 : decode prog_3_method_9_code 69 = .ok (.aload_n 0, 1) := by decide +kernel
theorem d88_70 : decode prog_3_method_9_code 70 = .ok (.iload_n 2, 1) := by decide +kernel
theorem d88_71 : decode prog_3_method_9_code 71 = .ok (.invokevirtual 101, 3) := by decide +kernel
theorem d88_74 : decode prog_3_method_9_code 74 = .ok (.iadd, 1) := by decide +kernel
theorem d88_75 : decode prog_3_method_9_code 75 = .ok (.putfield 31, 3) := by decide +kernel
theorem d88_78 : decode prog_3_method_9_code 78 = .ok (.iinc 2 1, 3) := by decide +kernel
theorem d88_81 : decode prog_3_method_9_code 81 = .ok (.goto (-34), 3) := by decide +kernel
theorem d88_84 : decode prog_3_method_9_code 84 = .ok (.aload_n 0, 1) := by decide +kernel
theorem d88_85 : decode prog_3_method_9_code 85 = .ok (.aload_n 0, 1) := by decide +kernel
theorem d88_86 : decode prog_3_method_9_code 86 = .ok (.getfield 31, 3) := by decide +kernel
theorem d88_89 : decode prog_3_method_9_code 89 = .ok (.aload_n 1, 1) := by decide +kernel
theorem d88_90 : decode prog_3_method_9_code 90 = .ok (.getfield 104, 3) := by decide +kernel
theorem d88_93 : decode prog_3_method_9_code 93 = .ok (.isub, 1) := by decide +kernel
theorem d88_94 : decode prog_3_method_9_code 94 = .ok (.putfield 34, 3) := by decide +kernel
theorem d88_97 : decode prog_3_method_9_code 97 = .ok (.return_, 1) := by decide +kernel
theorem d89_0 : decode prog_4_method_1_code 0 = .ok (.aload_n 0, 1) := by decide +kernel
theorem d89_1 : decode prog_4_method_1_code 1 = .ok (.invokespecial 3, 3) := by decide +kernel
theorem d89_4 : decode prog_4_method_1_code 4 = .ok (.aload_n 0, 1) := by decide +kernel
theorem d89_5 : decode prog_4_method_1_code 5 = .ok (.bipush 12, 2) := by decide +kernel
theorem d89_7 : decode prog_4_method_1_code 7 = .ok (.newarray .int, 2) := by decide +kernel
theorem d89_9 : decode prog_4_method_1_code 9 = .ok (.putfield 9, 3) := by decide +kernel
theorem d89_12 : decode prog_4_method_1_code 12 = .ok (.aload_n 0, 1) := by decide +kernel
theorem d89_13 : decode prog_4_method_1_code 13 = .ok (.bipush 12, 2) := by decide +kernel
theorem d89_15 : decode prog_4_method_1_code 15 = .ok (.bipush 36, 2) := by decide +kernel
theorem d89_17 : decode prog_4_method_1_code 17 = .ok (.multianewarray 15 2, 4) := by decide +kernel
theorem d89_21 : decode prog_4_method_1_code 21 = .ok (.putfield 17, 3) := by decide +kernel
theorem d89_24 : decode prog_4_method_1_code 24 = .ok (.aload_n 0, 1) := by decide +kernel
theorem d89_25 : decode prog_4_method_1_code 25 = .ok (.bipush 12, 2) := by decide +kernel
theorem d89_27 : decode prog_4_method_1_code 27 = .ok (.bipush 36, 2) := by decide +kernel
theorem d89_29 : decode prog_4_method_1_code 29 = .ok (.multianewarray 15 2, 4) := by decide +kernel
theorem d89_33 : decode prog_4_method_1_code 33 = .ok (.putfield 20, 3) := by decide +kernel
theorem d89_36 : decode prog_4_method_1_code 36 = .ok (.aload_n 0, 1) := by decide +kernel
theorem d89_37 : decode prog_4_method_1_code 37 = .ok (.bipush 72, 2) := by decide +kernel
theorem d89_39 : decode prog_4_method_1_code 39 = .ok (.newarray .int, 2) := by decide +kernel
theorem d89_41 : decode prog_4_method_1_code 41 = .ok (.putfield 23, 3) := by decide +kernel
theorem d89_44 : decode prog_4_method_1_code 44 = .ok (.aload_n 0, 1) := by decide +kernel
theorem d89_45 : decode prog_4_method_1_code 45 = .ok (.bipush 72, 2) := by decide +kernel
theorem d89_47 : decode prog_4_method_1_code 47 = .ok (.newarray .int, 2) := by decide +kernel
theorem d89_49 : decode prog_4_method_1_code 49 = .ok (.putfield 26, 3) := by decide +kernel
theorem d89_52 : decode prog_4_method_1_code 52 = .ok (.aload_n 0, 1) := by decide +kernel
theorem d89_53 : decode prog_4_method_1_code 53 = .ok (.bipush 72, 2) := by decide +kernel
theorem d89_55 : decode prog_4_method_1_code 55 = .ok (.newarray .int, 2) := by decide +kernel
theorem d89_57 : decode prog_4_method_1_code 57 = .ok (.putfield 29, 3) := by decide +kernel
theorem d89_60 : decode prog_4_method_1_code 60 = .ok (.aload_n 0, 1) := by decide +kernel
theorem d89_61 : decode prog_4_method_1_code 61 = .ok (.iconst 0, 1) := by decide +kernel
theorem d89_62 : decode prog_4_method_1_code 62 = .ok (.putfield 32, 3) := by decide +kernel
theorem d89_65 : decode prog_4_method_1_code 65 = .ok (.aload_n 0, 1) := by decide +kernel
theorem d89_66 : decode prog_4_method_1_code 66 = .ok (.iconst 0, 1) := by decide +kernel
theorem d89_67 : decode prog_4_method_1_code 67 = .ok (.putfield 36, 3) := by decide +kernel
theorem d89_70 : decode prog_4_method_1_code 70 = .ok (.aload_n 0, 1) := by decide +kernel
theorem d89_71 : decode prog_4_method_1_code 71 = .ok (.iconst 0, 1) := by decide +kernel
theorem d89_72 : decode prog_4_method_1_code 72 = .ok (.putfield 39, 3) := by decide +kernel
theorem d89_75 : decode prog_4_method_1_code 75 = .ok (.return_, 1) := by decide +kernel
theorem d90_0 : decode prog_4_method_2_code 0 = .ok (.iload_n 1, 1) := by decide +kernel
theorem d90_1 : decode prog_4_method_2_code 1 = .ok (.ifCond .lt 15, 3) := by decide +kernel
theorem d90_4 : decode prog_4_method_2_code 4 = .ok (.iload_n 1, 1) := by decide +kernel
theorem d90_5 : decode prog_4_method_2_code 5 = .ok (.aload_n 0, 1) := by decide +kernel
theorem d90_6 : decode prog_4_method_2_code 6 = .ok (.getfield 32, 3) := by decide +kernel
theorem d90_9 : decode prog_4_method_2_code 9 = .ok (.if_icmp .ge 7, 3) := by decide +kernel
theorem d90_12 : decode prog_4_method_2_code 12 = .ok (.iconst 1, 1) := by decide +kernel
theorem d90_13 : decode prog_4_method_2_code 13 = .ok (.goto 4, 3) := by decide +kernel
theorem d90_16 : decode prog_4_method_2_code 16 = .ok (.iconst 0, 1) := by decide +kernel
theorem d90_17 : decode prog_4_method_2_code 17 = .ok (.ireturn, 1) := by decide +kernel
theorem d91_0 : decode prog_4_method_3_code 0 = .ok (.aload_n 0, 1) := by decide +kernel
theorem d91_1 : decode prog_4_method_3_code 1 = .ok (.aload_n 1, 1) := by decide +kernel
theorem d91_2 : decode prog_4_method_3_code 2 = .ok (.aload_n 2, 1) := by decide +kernel
theorem d91_3 : decode prog_4_method_3_code 3 = .ok (.aload_n 3, 1) := by decide +kernel
theorem d91_4 : decode prog_4_method_3_code 4 = .ok (.invokevirtual 42, 3) := by decide +kernel
theorem d91_7 : decode prog_4_method_3_code 7 = .ok (.aload_n 0, 1) := by decide +kernel
theorem d91_8 : decode prog_4_method_3_code 8 = .ok (.aload_n 0, 1) := by decide +kernel
theorem d91_9 : decode prog_4_method_3_code 9 = .ok (.aload_n 3, 1) := by decide +kernel
theorem d91_10 : decode prog_4_method_3_code 10 = .ok (.invokevirtual 46, 3) := by decide +kernel
theorem d91_13 : decode prog_4_method_3_code 13 = .ok (.putfield 36, 3) := by decide +kernel
theorem d91_16 : decode prog_4_method_3_code 16 = .ok (.aload_n 0, 1) := by decide +kernel
theorem d91_17 : decode prog_4_method_3_code 17 = .ok (.iconst 0, 1) := by decide +kernel
theorem d91_18 : decode prog_4_method_3_code 18 = .ok (.putfield 39, 3) := by decide +kernel
theorem d91_21 : decode prog_4_method_3_code 21 = .ok (.aload_n 0, 1) := by decide +kernel
theorem d91_22 : decode prog_4_method_3_code 22 = .ok (.aload_n 0, 1) := by decide +kernel
theorem d91_23 : decode prog_4_method_3_code 23 = .ok (.getfield 17, 3) := by decide +kernel
theorem d91_26 : decode prog_4_method_3_code 26 = .ok (.aload_n 0, 1) := by decide +kernel
theorem d91_27 : decode prog_4_method_3_code 27 = .ok (.getfield 20, 3) := by decide +kernel
theorem d91_30 : decode prog_4_method_3_code 30 = .ok (.invokevirtual 50, 3) := by decide +kernel
theorem d91_33 : decode prog_4_method_3_code 33 = .ok (.iconst 1, 1) := by decide +kernel
theorem d91_34 : decode prog_4_method_3_code 34 = .ok (.istore 5, 2) := by decide +kernel
theorem d91_36 : decode prog_4_method_3_code 36 = .ok (.iload 5, 2) := by decide +kernel
theorem d91_38 : decode prog_4_method_3_code 38 = .ok (.iload 4, 2) := by decide +kernel
theorem d91_40 : decode prog_4_method_3_code 40 = .ok (.if_icmp .gt 61, 3) := by decide +kernel
theorem d91_43 : decode prog_4_method_3_code 43 = .ok (.aload_n 0, 1) := by decide +kernel
theorem d91_44 : decode prog_4_method_3_code 44 = .ok (.getfield 36, 3) := by decide +kernel
theorem d91_47 : decode prog_4_method_3_code 47 = .ok (.ifCond .le 54, 3) := by decide +kernel
theorem d91_50 : decode prog_4_method_3_code 50 = .ok (.aload_n 0, 1) := by decide +kernel
theorem d91_51 : decode prog_4_method_3_code 51 = .ok (.aload_n 3, 1) := by decide +kernel
theorem d91_52 : decode prog_4_method_3_code 52 = .ok (.invokevirtual 54, 3) := by decide +kernel
theorem d91_55 : decode prog_4_method_3_code 55 = .ok (.aload_n 0, 1) := by decide +kernel
theorem d91_56 : decode prog_4_method_3_code 56 = .ok (.aload_n 3, 1) := by decide +kernel
theorem d91_57 : decode prog_4_method_3_code 57 = .ok (.invokevirtual 46, 3) := by decide +kernel
theorem d91_60 : decode prog_4_method_3_code 60 = .ok (.istore 6, 2) := by decide +kernel
theorem d91_62 : decode prog_4_method_3_code 62 = .ok (.iload 6, 2) := by decide +kernel
theorem d91_64 : decode prog_4_method_3_code 64 = .ok (.aload_n 0, 1) := by decide +kernel
theorem d91_65 : decode prog_4_method_3_code 65 = .ok (.getfield 36, 3) := by decide +kernel
theorem d91_68 : decode prog_4_method_3_code 68 = .ok (.if_icmp .ge 27, 3) := by decide +kernel
theorem d91_71 : decode prog_4_method_3_code 71 = .ok (.aload_n 0, 1) := by decide +kernel
theorem d91_72 : decode prog_4_method_3_code 72 = .ok (.iload 6, 2) := by decide +kernel
theorem d91_74 : decode prog_4_method_3_code 74 = .ok (.putfield 36, 3) := by decide +kernel
theorem d91_77 : decode prog_4_method_3_code 77 = .ok (.aload_n 0, 1) := by decide +kernel
theorem d91_78 : decode prog_4_method_3_code 78 = .ok (.iload 5, 2) := by decide +kernel
theorem d91_80 : decode prog_4_method_3_code 80 = .ok (.putfield 39, 3) := by decide +kernel
theorem d91_83 : decode prog_4_method_3_code 83 = .ok (.aload_n 0, 1) := by decide +kernel
theorem d91_84 : decode prog_4_method_3_code 84 = .ok (.aload_n 0, 1) := by decide +kernel
theorem d91_85 : decode prog_4_method_3_code 85 = .ok (.getfield 17, 3) := by decide +kernel
theorem d91_88 : decode prog_4_method_3_code 88 = .ok (.aload_n 0, 1) := by decide +kernel
theorem d91_89 : decode prog_4_method_3_code 89 = .ok (.getfield 20, 3) := by decide +kernel
theorem d91_92 : decode prog_4_method_3_code 92 = .ok (.invokevirtual 50, 3) := by decide +kernel
theorem d91_95 : decode prog_4_method_3_code 95 = .ok (.iinc 5 1, 3) := by decide +kernel
theorem d91_98 : decode prog_4_method_3_code 98 = .ok (.goto (-62), 3) := by decide +kernel
theorem d91_101 : decode prog_4_method_3_code 101 = .ok (.aload_n 0, 1) := by decide +kernel
theorem d91_102 : decode prog_4_method_3_code 102 = .ok (.aload_n 0, 1) := by decide +kernel
theorem d91_103 : decode prog_4_method_3_code 103 = .ok (.getfield 20, 3) := by decide +kernel
theorem d91_106 : decode prog_4_method_3_code 106 = .ok (.aload_n 0, 1) := by decide +kernel
theorem d91_107 : decode prog_4_method_3_code 107 = .ok (.getfield 17, 3) := by decide +kernel
theorem d91_110 : decode prog_4_method_3_code 110 = .ok (.invokevirtual 50, 3) := by decide +kernel
theorem d91_113 : decode prog_4_method_3_code 113 = .ok (.iconst 0, 1) := by decide +kernel
theorem d91_114 : decode prog_4_method_3_code 114 = .ok (.istore 5, 2) := by decide +kernel
theorem d91_116 : decode prog_4_method_3_code 116 = .ok (.iload 5, 2) := by decide +kernel
theorem d91_118 : decode prog_4_method_3_code 118 = .ok (.aload_n 0, 1) := by decide +kernel
theorem d91_119 : decode prog_4_method_3_code 119 = .ok (.getfield 32, 3) := by decide +kernel
theorem d91_122 : decode prog_4_method_3_code 122 = .ok (.if_icmp .ge 15, 3) := by decide +kernel
theorem d91_125 : decode prog_4_method_3_code 125 = .ok (.aload_n 0, 1) := by decide +kernel
theorem d91_126 : decode prog_4_method_3_code 126 = .ok (.iload 5, 2) := by decide +kernel
theorem d91_128 : decode prog_4_method_3_code 128 = .ok (.invokevirtual 58, 3) := by decide +kernel
theorem d91_131 : decode prog_4_method_3_code 131 = .ok (.iinc 5 1, 3) := by decide +kernel
theorem d91_134 : decode prog_4_method_3_code 134 = .ok (.goto (-18), 3) := by decide +kernel
theorem d91_137 : decode prog_4_method_3_code 137 = .ok (.return_, 1) := by decide +kernel
theorem d92_0 : decode prog_4_method_4_code 0 = .ok (.aload_n 0, 1) := by decide +kernel
theorem d92_1 : decode prog_4_method_4_code 1 = .ok (.aload_n 2, 1) := by decide +kernel
theorem d92_2 : decode prog_4_method_4_code 2 = .ok (.getfield 62, 3) := by decide +kernel
theorem d92_5 : decode prog_4_method_4_code 5 = .ok (.putfield 32, 3) := by decide +kernel
theorem d92_8 : decode prog_4_method_4_code 8 = .ok (.aload_n 0, 1) := by decide +kernel
theorem d92_9 : decode prog_4_method_4_code 9 = .ok (.getfield 9, 3) := by decide +kernel
theorem d92_12 : decode prog_4_method_4_code 12 = .ok (.iconst 0, 1) := by decide +kernel
theorem d92_13 : decode prog_4_method_4_code 13 = .ok (.invokestatic 65, 3) := by decide +kernel
theorem d92_16 : decode prog_4_method_4_code 16 = .ok (.iconst 0, 1) := by decide +kernel
theorem d92_17 : decode prog_4_method_4_code 17 = .ok (.istore 4, 2) := by decide +kernel
theorem d92_19 : decode prog_4_method_4_code 19 = .ok (.iload 4, 2) := by decide +kernel
theorem d92_21 : decode prog_4_method_4_code 21 = .ok (.aload_n 1, 1) := by decide +kernel
theorem d92_22 : decode prog_4_method_4_code 22 = .ok (.getfield 71, 3) := by decide +kernel
theorem d92_25 : decode prog_4_method_4_code 25 = .ok (.if_icmp .ge 22, 3) := by decide +kernel
theorem d92_28 : decode prog_4_method_4_code 28 = .ok (.aload_n 0, 1) := by decide +kernel
theorem d92_29 : decode prog_4_method_4_code 29 = .ok (.aload_n 2, 1) := by decide +kernel
theorem d92_30 : decode prog_4_method_4_code 30 = .ok (.getfield 76, 3) := by decide +kernel
theorem d92_33 : decode prog_4_method_4_code 33 = .ok (.iload 4, 2) := by decide +kernel
theorem d92_35 : decode prog_4_method_4_code 35 = .ok (.iaload, 1) := by decide +kernel
theorem d92_36 : decode prog_4_method_4_code 36 = .ok (.iload 4, 2) := by decide +kernel
theorem d92_38 : decode prog_4_method_4_code 38 = .ok (.invokevirtual 79, 3) := by decide +kernel
theorem d92_41 : decode prog_4_method_4_code 41 = .ok (.iinc 4 1, 3) := by decide +kernel
theorem d92_44 : decode prog_4_method_4_code 44 = .ok (.goto (-25), 3) := by decide +kernel
theorem d92_47 : decode prog_4_method_4_code 47 = .ok (.iconst 0, 1) := by decide +kernel
theorem d92_48 : decode prog_4_method_4_code 48 = .ok (.istore 4, 2) := by decide +kernel
theorem d92_50 : decode prog_4_method_4_code 50 = .ok (.iload 4, 2) := by decide +kernel
theorem d92_52 : decode prog_4_method_4_code 52 = .ok (.aload_n 1, 1) := by decide +kernel
theorem d92_53 : decode prog_4_method_4_code 53 = .ok (.getfield 83, 3) := by decide +kernel
theorem d92_56 : decode prog_4_method_4_code 56 = .ok (.if_icmp .ge 79, 3) := by decide +kernel
theorem d92_59 : decode prog_4_method_4_code 59 = .ok (.aload_n 1, 1) := by decide +kernel
theorem d92_60 : decode prog_4_method_4_code 60 = .ok (.getfield 86, 3) := by decide +kernel
theorem d92_63 : decode prog_4_method_4_code 63 = .ok (.iload 4, 2) := by decide +kernel
theorem d92_65 : decode prog_4_method_4_code 65 = .ok (.baload, 1) := by decide +kernel
theorem d92_66 : decode prog_4_method_4_code 66 = .ok (.ifCond .eq 12, 3) := by decide +kernel
theorem d92_69 : decode prog_4_method_4_code 69 = .ok (.aload_n 2, 1) := by decide +kernel
theorem d92_70 : decode prog_4_method_4_code 70 = .ok (.iload 4, 2) := by decide +kernel
theorem d92_72 : decode prog_4_method_4_code 72 = .ok (.invokevirtual 90, 3) := by decide +kernel
theorem d92_75 : decode prog_4_method_4_code 75 = .ok (.goto 4, 3) := by decide +kernel
theorem d92_78 : decode prog_4_method_4_code 78 = .ok (.iconst 0, 1) := by decide +kernel
theorem d92_79 : decode prog_4_method_4_code 79 = .ok (.istore 5, 2) := by decide +kernel
theorem d92_81 : decode prog_4_method_4_code 81 = .ok (.iconst 1, 1) := by decide +kernel
theorem d92_82 : decode prog_4_method_4_code 82 = .ok (.istore 6, 2) := by decide +kernel
theorem d92_84 : decode prog_4_method_4_code 84 = .ok (.iload 6, 2) := by decide +kernel
theorem d92_86 : decode prog_4_method_4_code 86 = .ok (.iload 5, 2) := by decide +kernel
theorem d92_88 : decode prog_4_method_4_code 88 = .ok (.if_icmp .ge 41, 3) := by decide +kernel
theorem d92_91 : decode prog_4_method_4_code 91 = .ok (.aload_n 2, 1) := by decide +kernel
theorem d92_92 : decode prog_4_method_4_code 92 = .ok (.getfield 76, 3) := by decide +kernel
theorem d92_95 : decode prog_4_method_4_code 95 = .ok (.aload_n 2, 1) := by decide +kernel
theorem d92_96 : decode prog_4_method_4_code 96 = .ok (.getfield 94, 3) := by decide +kernel
theorem d92_99 : decode prog_4_method_4_code 99 = .ok (.iload 4, 2) := by decide +kernel
theorem d92_101 : decode prog_4_method_4_code 101 = .ok (.iaload, 1) := by decide +kernel
theorem d92_102 : decode prog_4_method_4_code 102 = .ok (.iaload, 1) := by decide +kernel
theorem d92_103 : decode prog_4_method_4_code 103 = .ok (.iload 6, 2) := by decide +kernel
theorem d92_105 : decode prog_4_method_4_code 105 = .ok (.iadd, 1) := by decide +kernel
theorem d92_106 : decode prog_4_method_4_code 106 = .ok (.istore 7, 2) := by decide +kernel
theorem d92_108 : decode prog_4_method_4_code 108 = .ok (.aload_n 0, 1) := by decide +kernel
theorem d92_109 : decode prog_4_method_4_code 109 = .ok (.iload 7, 2) := by decide +kernel
theorem d92_111 : decode prog_4_method_4_code 111 = .ok (.aload_n 3, 1) := by decide +kernel
theorem d92_112 : decode prog_4_method_4_code 112 = .ok (.aload_n 2, 1) := by decide +kernel
theorem d92_113 : decode prog_4_method_4_code 113 = .ok (.iload 4, 2) := by decide +kernel
theorem d92_115 : decode prog_4_method_4_code 115 = .ok (.iload 6, 2) := by decide +kernel
theorem d92_117 : decode prog_4_method_4_code 117 = .ok (.invokevirtual 97, 3) := by decide +kernel
theorem d92_120 : decode prog_4_method_4_code 120 = .ok (.invokevirtual 79, 3) := by decide +kernel
theorem d92_123 : decode prog_4_method_4_code 123 = .ok (.iinc 6 1, 3) := by decide +kernel
theorem d92_126 : decode prog_4_method_4_code 126 = .ok (.goto (-42), 3) := by decide +kernel
theorem d92_129 : decode prog_4_method_4_code 129 = .ok (.iinc 4 1, 3) := by decide +kernel
theorem d92_132 : decode prog_4_method_4_code 132 = .ok (.goto (-82), 3) := by decide +kernel
theorem d92_135 : decode prog_4_method_4_code 135 = .ok (.return_, 1) := by decide +kernel
theorem d93_0 : decode prog_4_method_5_code 0 = .ok (.aload_n 0, 1) := by decide +kernel
theorem d93_1 : decode prog_4_method_5_code 1 = .ok (.getfield 17, 3) := by decide +kernel
theorem d93_4 : decode prog_4_method_5_code 4 = .ok (.iload_n 1, 1) := by decide +kernel
theorem d93_5 : decode prog_4_method_5_code 5 = .ok (.aaload, 1) := by decide +kernel
theorem d93_6 : decode prog_4_method_5_code 6 = .ok (.aload_n 0, 1) := by decide +kernel
theorem d93_7 : decode prog_4_method_5_code 7 = .ok (.getfield 9, 3) := by decide +kernel
theorem d93_10 : decode prog_4_method_5_code 10 = .ok (.iload_n 1, 1) := by decide +kernel
theorem d93_11 : decode prog_4_method_5_code 11 = .ok (.iaload, 1) := by decide +kernel
theorem d93_12 : decode prog_4_method_5_code 12 = .ok (.iload_n 2, 1) := by decide +kernel
theorem d93_13 : decode prog_4_method_5_code 13 = .ok (.iastore, 1) := by decide +kernel
theorem d93_14 : decode prog_4_method_5_code 14 = .ok (.aload_n 0, 1) := by decide +kernel
theorem d93_15 : decode prog_4_method_5_code 15 = .ok (.getfield 23, 3) := by decide +kernel
theorem d93_18 : decode prog_4_method_5_code 18 = .ok (.iload_n 2, 1) := by decide +kernel
theorem d93_19 : decode prog_4_method_5_code 19 = .ok (.aload_n 0, 1) := by decide +kernel
theorem d93_20 : decode prog_4_method_5_code 20 = .ok (.getfield 9, 3) := by decide +kernel
theorem d93_23 : decode prog_4_method_5_code 23 = .ok (.iload_n 1, 1) := by decide +kernel
theorem d93_24 : decode prog_4_method_5_code 24 = .ok (.iaload, 1) := by decide +kernel
theorem d93_25 : decode prog_4_method_5_code 25 = .ok (.iastore, 1) := by decide +kernel
theorem d93_26 : decode prog_4_method_5_code 26 = .ok (.aload_n 0, 1) := by decide +kernel
theorem d93_27 : decode prog_4_method_5_code 27 = .ok (.getfield 9, 3) := by decide +kernel
theorem d93_30 : decode prog_4_method_5_code 30 = .ok (.iload_n 1, 1) := by decide +kernel
theorem d93_31 : decode prog_4_method_5_code 31 = .ok (.dup2, 1) := by decide +kernel
theorem d93_32 : decode prog_4_method_5_code 32 = .ok (.iaload, 1) := by decide +kernel
theorem d93_33 : decode prog_4_method_5_code 33 = .ok (.iconst 1, 1) := by decide +kernel
theorem d93_34 : decode prog_4_method_5_code 34 = .ok (.iadd, 1) := by decide +kernel
theorem d93_35 : decode prog_4_method_5_code 35 = .ok (.iastore, 1) := by decide +kernel
theorem d93_36 : decode prog_4_method_5_code 36 = .ok (.return_, 1) := by decide +kernel
theorem d94_0 : decode prog_4_method_6_code 0 = .ok (.iconst 0, 1) := by decide +kernel
theorem d94_1 : decode prog_4_method_6_code 1 = .ok (.istore_n 3, 1) := by decide +kernel
theorem d94_2 : decode prog_4_method_6_code 2 = .ok (.iload_n 3, 1) := by decide +kernel
theorem d94_3 : decode prog_4_method_6_code 3 = .ok (.aload_n 0, 1) := by decide +kernel
theorem d94_4 : decode prog_4_method_6_code 4 = .ok (.getfield 32, 3) := by decide +kernel
theorem d94_7 : decode prog_4_method_6_code 7 = .ok (.if_icmp .ge 26, 3) := by decide +kernel
theorem d94_10 : decode prog_4_method_6_code 10 = .ok (.aload_n 1, 1) := by decide +kernel
theorem d94_11 : decode prog_4_method_6_code 11 = .ok (.iload_n 3, 1) := by decide +kernel
theorem d94_12 : decode prog_4_method_6_code 12 = .ok (.aaload, 1) := by decide +kernel
theorem d94_13 : decode prog_4_method_6_code 13 = .ok (.iconst 0, 1) := by decide +kernel
theorem d94_14 : decode prog_4_method_6_code 14 = .ok (.aload_n 2, 1) := by decide +kernel
theorem d94_15 : decode prog_4_method_6_code 15 = .ok (.iload_n 3, 1) := by decide +kernel
theorem d94_16 : decode prog_4_method_6_code 16 = .ok (.aaload, 1) := by decide +kernel
theorem d94_17 : decode prog_4_method_6_code 17 = .ok (.iconst 0, 1) := by decide +kernel
theorem d94_18 : decode prog_4_method_6_code 18 = .ok (.aload_n 0, 1) := by decide +kernel
theorem d94_19 : decode prog_4_method_6_code 19 = .ok (.getfield 9, 3) := by decide +kernel
theorem d94_22 : decode prog_4_method_6_code 22 = .ok (.iload_n 3, 1) := by decide +kernel
theorem d94_23 : decode prog_4_method_6_code 23 = .ok (.iaload, 1) := by decide +kernel
theorem d94_24 : decode prog_4_method_6_code 24 = .ok (.invokestatic 103, 3) := by decide +kernel
theorem d94_27 : decode prog_4_method_6_code 27 = .ok (.iinc 3 1, 3) := by decide +kernel
theorem d94_30 : decode prog_4_method_6_code 30 = .ok (.goto (-28), 3) := by decide +kernel
theorem d94_33 : decode prog_4_method_6_code 33 = .ok (.return_, 1) := by decide +kernel
theorem d95_0 : decode prog_4_method_7_code 0 = .ok (.iconst 1, 1) := by decide +kernel
theorem d95_1 : decode prog_4_method_7_code 1 = .ok (.istore_n 2, 1) := by decide +kernel
theorem d95_2 : decode prog_4_method_7_code 2 = .ok (.iload_n 2, 1) := by decide +kernel
theorem d95_3 : decode prog_4_method_7_code 3 = .ok (.aload_n 0, 1) := by decide +kernel
theorem d95_4 : decode prog_4_method_7_code 4 = .ok (.getfield 32, 3) := by decide +kernel
theorem d95_7 : decode prog_4_method_7_code 7 = .ok (.if_icmp .ge 41, 3) := by decide +kernel
theorem d95_10 : decode prog_4_method_7_code 10 = .ok (.iload_n 2, 1) := by decide +kernel
theorem d95_11 : decode prog_4_method_7_code 11 = .ok (.iconst 1, 1) := by decide +kernel
theorem d95_12 : decode prog_4_method_7_code 12 = .ok (.isub, 1) := by decide +kernel
theorem d95_13 : decode prog_4_method_7_code 13 = .ok (.istore_n 3, 1) := by decide +kernel
theorem d95_14 : decode prog_4_method_7_code 14 = .ok (.aload_n 0, 1) := by decide +kernel
theorem d95_15 : decode prog_4_method_7_code 15 = .ok (.iload_n 2, 1) := by decide +kernel
theorem d95_16 : decode prog_4_method_7_code 16 = .ok (.aload_n 1, 1) := by decide +kernel
theorem d95_17 : decode prog_4_method_7_code 17 = .ok (.getfield 109, 3) := by decide +kernel
theorem d95_20 : decode prog_4_method_7_code 20 = .ok (.iload_n 3, 1) := by decide +kernel
theorem d95_21 : decode prog_4_method_7_code 21 = .ok (.iaload, 1) := by decide +kernel
theorem d95_22 : decode prog_4_method_7_code 22 = .ok (.aload_n 1, 1) := by decide +kernel
theorem d95_23 : decode prog_4_method_7_code 23 = .ok (.getfield 112, 3) := by decide +kernel
theorem d95_26 : decode prog_4_method_7_code 26 = .ok (.iload_n 3, 1) := by decide +kernel
theorem d95_27 : decode prog_4_method_7_code 27 = .ok (.aaload, 1) := by decide +kernel
theorem d95_28 : decode prog_4_method_7_code 28 = .ok (.aload_n 1, 1) := by decide +kernel
theorem d95_29 : decode prog_4_method_7_code 29 = .ok (.getfield 115, 3) := by decide +kernel
theorem d95_32 : decode prog_4_method_7_code 32 = .ok (.iload_n 3, 1) := by decide +kernel
theorem d95_33 : decode prog_4_method_7_code 33 = .ok (.aaload, 1) := by decide +kernel
theorem d95_34 : decode prog_4_method_7_code 34 = .ok (.invokevirtual 118, 3) := by decide +kernel
theorem d95_37 : decode prog_4_method_7_code 37 = .ok (.aload_n 0, 1) := by decide +kernel
theorem d95_38 : decode prog_4_method_7_code 38 = .ok (.iload_n 2, 1) := by decide +kernel
end
section
theorem d95_39 : decode prog_4_method_7_code 39 = .ok (.invokevirtual 122, 3) := by decide +kernel
theorem d95_42 : decode prog_4_method_7_code 42 = .ok (.iinc 2 1, 3) := by decide +kernel
theorem d95_45 : decode prog_4_method_7_code 45 = .ok (.goto (-43), 3) := by decide +kernel
theorem d95_48 : decode prog_4_method_7_code 48 = .ok (.aload_n 0, 1) := by decide +kernel
theorem d95_49 : decode prog_4_method_7_code 49 = .ok (.getfield 32, 3) := by decide +kernel
theorem d95_52 : decode prog_4_method_7_code 52 = .ok (.iconst 2, 1) := by decide +kernel
theorem d95_53 : decode prog_4_method_7_code 53 = .ok (.isub, 1) := by decide +kernel
theorem d95_54 : decode prog_4_method_7_code 54 = .ok (.istore_n 2, 1) := by decide +kernel
theorem d95_55 : decode prog_4_method_7_code 55 = .ok (.iload_n 2, 1) := by decide +kernel
theorem d95_56 : decode prog_4_method_7_code 56 = .ok (.ifCond .lt 37, 3) := by decide +kernel
theorem d95_59 : decode prog_4_method_7_code 59 = .ok (.aload_n 0, 1) := by decide +kernel
theorem d95_60 : decode prog_4_method_7_code 60 = .ok (.iload_n 2, 1) := by decide +kernel
theorem d95_61 : decode prog_4_method_7_code 61 = .ok (.aload_n 1, 1) := by decide +kernel
theorem d95_62 : decode prog_4_method_7_code 62 = .ok (.getfield 109, 3) := by decide +kernel
theorem d95_65 : decode prog_4_method_7_code 65 = .ok (.iload_n 2, 1) := by decide +kernel
theorem d95_66 : decode prog_4_method_7_code 66 = .ok (.iaload, 1) := by decide +kernel
theorem d95_67 : decode prog_4_method_7_code 67 = .ok (.aload_n 1, 1) := by decide +kernel
theorem d95_68 : decode prog_4_method_7_code 68 = .ok (.getfield 115, 3) := by decide +kernel
theorem d95_71 : decode prog_4_method_7_code 71 = .ok (.iload_n 2, 1) := by decide +kernel
theorem d95_72 : decode prog_4_method_7_code 72 = .ok (.aaload, 1) := by decide +kernel
theorem d95_73 : decode prog_4_method_7_code 73 = .ok (.aload_n 1, 1) := by decide +kernel
theorem d95_74 : decode prog_4_method_7_code 74 = .ok (.getfield 112, 3) := by decide +kernel
theorem d95_77 : decode prog_4_method_7_code 77 = .ok (.iload_n 2, 1) := by decide +kernel
theorem d95_78 : decode prog_4_method_7_code 78 = .ok (.aaload, 1) := by decide +kernel
theorem d95_79 : decode prog_4_method_7_code 79 = .ok (.invokevirtual 118, 3) := by decide +kernel
theorem d95_82 : decode prog_4_method_7_code 82 = .ok (.aload_n 0, 1) := by decide +kernel
theorem d95_83 : decode prog_4_method_7_code 83 = .ok (.iload_n 2, 1) := by decide +kernel
theorem d95_84 : decode prog_4_method_7_code 84 = .ok (.invokevirtual 122, 3) := by decide +kernel
theorem d95_87 : decode prog_4_method_7_code 87 = .ok (.iinc 2 (-1), 3) := by decide +kernel
theorem d95_90 : decode prog_4_method_7_code 90 = .ok (.goto (-35), 3) := by decide +kernel
theorem d95_93 : decode prog_4_method_7_code 93 = .ok (.return_, 1) := by decide +kernel
theorem d96_0 : decode prog_4_method_8_code 0 = .ok (.iconst 0, 1) := by decide +kernel
theorem d96_1 : decode prog_4_method_8_code 1 = .ok (.istore 5, 2) := by decide +kernel
theorem d96_3 : decode prog_4_method_8_code 3 = .ok (.iload 5, 2) := by decide +kernel
theorem d96_5 : decode prog_4_method_8_code 5 = .ok (.aload_n 0, 1) := by decide +kernel
theorem d96_6 : decode prog_4_method_8_code 6 = .ok (.getfield 9, 3) := by decide +kernel
theorem d96_9 : decode prog_4_method_8_code 9 = .ok (.iload_n 1, 1) := by decide +kernel
theorem d96_10 : decode prog_4_method_8_code 10 = .ok (.iaload, 1) := by decide +kernel
theorem d96_11 : decode prog_4_method_8_code 11 = .ok (.if_icmp .ge 39, 3) := by decide +kernel
theorem d96_14 : decode prog_4_method_8_code 14 = .ok (.aload_n 0, 1) := by decide +kernel
theorem d96_15 : decode prog_4_method_8_code 15 = .ok (.getfield 26, 3) := by decide +kernel
theorem d96_18 : decode prog_4_method_8_code 18 = .ok (.aload_n 0, 1) := by decide +kernel
theorem d96_19 : decode prog_4_method_8_code 19 = .ok (.getfield 17, 3) := by decide +kernel
theorem d96_22 : decode prog_4_method_8_code 22 = .ok (.iload_n 1, 1) := by decide +kernel
theorem d96_23 : decode prog_4_method_8_code 23 = .ok (.aaload, 1) := by decide +kernel
theorem d96_24 : decode prog_4_method_8_code 24 = .ok (.iload 5, 2) := by decide +kernel
theorem d96_26 : decode prog_4_method_8_code 26 = .ok (.iaload, 1) := by decide +kernel
theorem d96_27 : decode prog_4_method_8_code 27 = .ok (.iconst 0, 1) := by decide +kernel
theorem d96_28 : decode prog_4_method_8_code 28 = .ok (.iastore, 1) := by decide +kernel
theorem d96_29 : decode prog_4_method_8_code 29 = .ok (.aload_n 0, 1) := by decide +kernel
theorem d96_30 : decode prog_4_method_8_code 30 = .ok (.getfield 29, 3) := by decide +kernel
theorem d96_33 : decode prog_4_method_8_code 33 = .ok (.aload_n 0, 1) := by decide +kernel
theorem d96_34 : decode prog_4_method_8_code 34 = .ok (.getfield 17, 3) := by decide +kernel
theorem d96_37 : decode prog_4_method_8_code 37 = .ok (.iload_n 1, 1) := by decide +kernel
theorem d96_38 : decode prog_4_method_8_code 38 = .ok (.aaload, 1) := by decide +kernel
theorem d96_39 : decode prog_4_method_8_code 39 = .ok (.iload 5, 2) := by decide +kernel
theorem d96_41 : decode prog_4_method_8_code 41 = .ok (.iaload, 1) := by decide +kernel
theorem d96_42 : decode prog_4_method_8_code 42 = .ok (.iconst 0, 1) := by decide +kernel
theorem d96_43 : decode prog_4_method_8_code 43 = .ok (.iastore, 1) := by decide +kernel
theorem d96_44 : decode prog_4_method_8_code 44 = .ok (.iinc 5 1, 3) := by decide +kernel
theorem d96_47 : decode prog_4_method_8_code 47 = .ok (.goto (-44), 3) := by decide +kernel
theorem d96_50 : decode prog_4_method_8_code 50 = .ok (.iconst 0, 1) := by decide +kernel
theorem d96_51 : decode prog_4_method_8_code 51 = .ok (.istore 5, 2) := by decide +kernel
theorem d96_53 : decode prog_4_method_8_code 53 = .ok (.iload 5, 2) := by decide +kernel
theorem d96_55 : decode prog_4_method_8_code 55 = .ok (.iload_n 2, 1) := by decide +kernel
theorem d96_56 : decode prog_4_method_8_code 56 = .ok (.if_icmp .ge 44, 3) := by decide +kernel
theorem d96_59 : decode prog_4_method_8_code 59 = .ok (.aload_n 0, 1) := by decide +kernel
theorem d96_60 : decode prog_4_method_8_code 60 = .ok (.getfield 26, 3) := by decide +kernel
theorem d96_63 : decode prog_4_method_8_code 63 = .ok (.aload_n 3, 1) := by decide +kernel
theorem d96_64 : decode prog_4_method_8_code 64 = .ok (.iload 5, 2) := by decide +kernel
theorem d96_66 : decode prog_4_method_8_code 66 = .ok (.iaload, 1) := by decide +kernel
theorem d96_67 : decode prog_4_method_8_code 67 = .ok (.dup2, 1) := by decide +kernel
theorem d96_68 : decode prog_4_method_8_code 68 = .ok (.iaload, 1) := by decide +kernel
theorem d96_69 : decode prog_4_method_8_code 69 = .ok (.aload_n 0, 1) := by decide +kernel
theorem d96_70 : decode prog_4_method_8_code 70 = .ok (.getfield 23, 3) := by decide +kernel
theorem d96_73 : decode prog_4_method_8_code 73 = .ok (.aload 4, 2) := by decide +kernel
theorem d96_75 : decode prog_4_method_8_code 75 = .ok (.iload 5, 2) := by decide +kernel
theorem d96_77 : decode prog_4_method_8_code 77 = .ok (.iaload, 1) := by decide +kernel
theorem d96_78 : decode prog_4_method_8_code 78 = .ok (.iaload, 1) := by decide +kernel
theorem d96_79 : decode prog_4_method_8_code 79 = .ok (.iadd, 1) := by decide +kernel
theorem d96_80 : decode prog_4_method_8_code 80 = .ok (.iastore, 1) := by decide +kernel
theorem d96_81 : decode prog_4_method_8_code 81 = .ok (.aload_n 0, 1) := by decide +kernel
theorem d96_82 : decode prog_4_method_8_code 82 = .ok (.getfield 29, 3) := by decide +kernel
theorem d96_85 : decode prog_4_method_8_code 85 = .ok (.aload_n 3, 1) := by decide +kernel
theorem d96_86 : decode prog_4_method_8_code 86 = .ok (.iload 5, 2) := by decide +kernel
theorem d96_88 : decode prog_4_method_8_code 88 = .ok (.iaload, 1) := by decide +kernel
theorem d96_89 : decode prog_4_method_8_code 89 = .ok (.dup2, 1) := by decide +kernel
theorem d96_90 : decode prog_4_method_8_code 90 = .ok (.iaload, 1) := by decide +kernel
theorem d96_91 : decode prog_4_method_8_code 91 = .ok (.iconst 1, 1) := by decide +kernel
theorem d96_92 : decode prog_4_method_8_code 92 = .ok (.iadd, 1) := by decide +kernel
theorem d96_93 : decode prog_4_method_8_code 93 = .ok (.iastore, 1) := by decide +kernel
theorem d96_94 : decode prog_4_method_8_code 94 = .ok (.iinc 5 1, 3) := by decide +kernel
theorem d96_97 : decode prog_4_method_8_code 97 = .ok (.goto (-44), 3) := by decide +kernel
theorem d96_100 : decode prog_4_method_8_code 100 = .ok (.iconst 0, 1) := by decide +kernel
theorem d96_101 : decode prog_4_method_8_code 101 = .ok (.istore 5, 2) := by decide +kernel
theorem d96_103 : decode prog_4_method_8_code 103 = .ok (.iload 5, 2) := by decide +kernel
theorem d96_105 : decode prog_4_method_8_code 105 = .ok (.aload_n 0, 1) := by decide +kernel
theorem d96_106 : decode prog_4_method_8_code 106 = .ok (.getfield 9, 3) := by decide +kernel
theorem d96_109 : decode prog_4_method_8_code 109 = .ok (.iload_n 1, 1) := by decide +kernel
theorem d96_110 : decode prog_4_method_8_code 110 = .ok (.iaload, 1) := by decide +kernel
theorem d96_111 : decode prog_4_method_8_code 111 = .ok (.if_icmp .ge 47, 3) := by decide +kernel
theorem d96_114 : decode prog_4_method_8_code 114 = .ok (.aload_n 0, 1) := by decide +kernel
theorem d96_115 : decode prog_4_method_8_code 115 = .ok (.getfield 17, 3) := by decide +kernel
theorem d96_118 : decode prog_4_method_8_code 118 = .ok (.iload_n 1, 1) := by decide +kernel
theorem d96_119 : decode prog_4_method_8_code 119 = .ok (.aaload, 1) := by decide +kernel
theorem d96_120 : decode prog_4_method_8_code 120 = .ok (.iload 5, 2) := by decide +kernel
theorem d96_122 : decode prog_4_method_8_code 122 = .ok (.iaload, 1) := by decide +kernel
theorem d96_123 : decode prog_4_method_8_code 123 = .ok (.istore 6, 2) := by decide +kernel
theorem d96_125 : decode prog_4_method_8_code 125 = .ok (.aload_n 0, 1) := by decide +kernel
theorem d96_126 : decode prog_4_method_8_code 126 = .ok (.getfield 29, 3) := by decide +kernel
theorem d96_129 : decode prog_4_method_8_code 129 = .ok (.iload 6, 2) := by decide +kernel
theorem d96_131 : decode prog_4_method_8_code 131 = .ok (.iaload, 1) := by decide +kernel
theorem d96_132 : decode prog_4_method_8_code 132 = .ok (.ifCond .ne 20, 3) := by decide +kernel
theorem d96_135 : decode prog_4_method_8_code 135 = .ok (.aload_n 0, 1) := by decide +kernel
theorem d96_136 : decode prog_4_method_8_code 136 = .ok (.getfield 26, 3) := by decide +kernel
theorem d96_139 : decode prog_4_method_8_code 139 = .ok (.iload 6, 2) := by decide +kernel
theorem d96_141 : decode prog_4_method_8_code 141 = .ok (.iload 5, 2) := by decide +kernel
theorem d96_143 : decode prog_4_method_8_code 143 = .ok (.iastore, 1) := by decide +kernel
theorem d96_144 : decode prog_4_method_8_code 144 = .ok (.aload_n 0, 1) := by decide +kernel
theorem d96_145 : decode prog_4_method_8_code 145 = .ok (.getfield 29, 3) := by decide +kernel
theorem d96_148 : decode prog_4_method_8_code 148 = .ok (.iload 6, 2) := by decide +kernel
theorem d96_150 : decode prog_4_method_8_code 150 = .ok (.iconst 1, 1) := by decide +kernel
theorem d96_151 : decode prog_4_method_8_code 151 = .ok (.iastore, 1) := by decide +kernel
theorem d96_152 : decode prog_4_method_8_code 152 = .ok (.iinc 5 1, 3) := by decide +kernel
theorem d96_155 : decode prog_4_method_8_code 155 = .ok (.goto (-52), 3) := by decide +kernel
theorem d96_158 : decode prog_4_method_8_code 158 = .ok (.return_, 1) := by decide +kernel
theorem d97_0 : decode prog_4_method_9_code 0 = .ok (.aload_n 0, 1) := by decide +kernel
theorem d97_1 : decode prog_4_method_9_code 1 = .ok (.getfield 17, 3) := by decide +kernel
theorem d97_4 : decode prog_4_method_9_code 4 = .ok (.iload_n 1, 1) := by decide +kernel
theorem d97_5 : decode prog_4_method_9_code 5 = .ok (.aaload, 1) := by decide +kernel
theorem d97_6 : decode prog_4_method_9_code 6 = .ok (.astore_n 2, 1) := by decide +kernel
theorem d97_7 : decode prog_4_method_9_code 7 = .ok (.iconst 1, 1) := by decide +kernel
theorem d97_8 : decode prog_4_method_9_code 8 = .ok (.istore_n 3, 1) := by decide +kernel
theorem d97_9 : decode prog_4_method_9_code 9 = .ok (.iload_n 3, 1) := by decide +kernel
theorem d97_10 : decode prog_4_method_9_code 10 = .ok (.aload_n 0, 1) := by decide +kernel
theorem d97_11 : decode prog_4_method_9_code 11 = .ok (.getfield 9, 3) := by decide +kernel
theorem d97_14 : decode prog_4_method_9_code 14 = .ok (.iload_n 1, 1) := by decide +kernel
theorem d97_15 : decode prog_4_method_9_code 15 = .ok (.iaload, 1) := by decide +kernel
theorem d97_16 : decode prog_4_method_9_code 16 = .ok (.if_icmp .ge 59, 3) := by decide +kernel
theorem d97_19 : decode prog_4_method_9_code 19 = .ok (.aload_n 2, 1) := by decide +kernel
theorem d97_20 : decode prog_4_method_9_code 20 = .ok (.iload_n 3, 1) := by decide +kernel
theorem d97_21 : decode prog_4_method_9_code 21 = .ok (.iaload, 1) := by decide +kernel
theorem d97_22 : decode prog_4_method_9_code 22 = .ok (.istore 4, 2) := by decide +kernel
theorem d97_24 : decode prog_4_method_9_code 24 = .ok (.iload_n 3, 1) := by decide +kernel
theorem d97_25 : decode prog_4_method_9_code 25 = .ok (.istore 5, 2) := by decide +kernel
theorem d97_27 : decode prog_4_method_9_code 27 = .ok (.iload 5, 2) := by decide +kernel
theorem d97_29 : decode prog_4_method_9_code 29 = .ok (.ifCond .le 34, 3) := by decide +kernel
theorem d97_32 : decode prog_4_method_9_code 32 = .ok (.aload_n 0, 1) := by decide +kernel
theorem d97_33 : decode prog_4_method_9_code 33 = .ok (.iload 4, 2) := by decide +kernel
theorem d97_35 : decode prog_4_method_9_code 35 = .ok (.aload_n 2, 1) := by decide +kernel
theorem d97_36 : decode prog_4_method_9_code 36 = .ok (.iload 5, 2) := by decide +kernel
theorem d97_38 : decode prog_4_method_9_code 38 = .ok (.iconst 1, 1) := by decide +kernel
theorem d97_39 : decode prog_4_method_9_code 39 = .ok (.isub, 1) := by decide +kernel
theorem d97_40 : decode prog_4_method_9_code 40 = .ok (.iaload, 1) := by decide +kernel
theorem d97_41 : decode prog_4_method_9_code 41 = .ok (.invokevirtual 125, 3) := by decide +kernel
theorem d97_44 : decode prog_4_method_9_code 44 = .ok (.ifCond .eq 19, 3) := by decide +kernel
theorem d97_47 : decode prog_4_method_9_code 47 = .ok (.aload_n 2, 1) := by decide +kernel
theorem d97_48 : decode prog_4_method_9_code 48 = .ok (.iload 5, 2) := by decide +kernel
theorem d97_50 : decode prog_4_method_9_code 50 = .ok (.aload_n 2, 1) := by decide +kernel
theorem d97_51 : decode prog_4_method_9_code 51 = .ok (.iload 5, 2) := by decide +kernel
theorem d97_53 : decode prog_4_method_9_code 53 = .ok (.iconst 1, 1) := by decide +kernel
theorem d97_54 : decode prog_4_method_9_code 54 = .ok (.isub, 1) := by decide +kernel
theorem d97_55 : decode prog_4_method_9_code 55 = .ok (.iaload, 1) := by decide +kernel
theorem d97_56 : decode prog_4_method_9_code 56 = .ok (.iastore, 1) := by decide +kernel
theorem d97_57 : decode prog_4_method_9_code 57 = .ok (.iinc 5 (-1), 3) := by decide +kernel
theorem d97_60 : decode prog_4_method_9_code 60 = .ok (.goto (-33), 3) := by decide +kernel
theorem d97_63 : decode prog_4_method_9_code 63 = .ok (.aload_n 2, 1) := by decide +kernel
theorem d97_64 : decode prog_4_method_9_code 64 = .ok (.iload 5, 2) := by decide +kernel
theorem d97_66 : decode prog_4_method_9_code 66 = .ok (.iload 4, 2) := by decide +kernel
theorem d97_68 : decode prog_4_method_9_code 68 = .ok (.iastore, 1) := by decide +kernel
theorem d97_69 : decode prog_4_method_9_code 69 = .ok (.iinc 3 1, 3) := by decide +kernel
theorem d97_72 : decode prog_4_method_9_code 72 = .ok (.goto (-63), 3) := by decide +kernel
theorem d97_75 : decode prog_4_method_9_code 75 = .ok (.aload_n 0, 1) := by decide +kernel
theorem d97_76 : decode prog_4_method_9_code 76 = .ok (.iload_n 1, 1) := by decide +kernel
theorem d97_77 : decode prog_4_method_9_code 77 = .ok (.invokevirtual 58, 3) := by decide +kernel
theorem d97_80 : decode prog_4_method_9_code 80 = .ok (.return_, 1) := by decide +kernel
theorem d98_0 : decode prog_4_method_10_code 0 = .ok (.aload_n 0, 1) := by decide +kernel
theorem d98_1 : decode prog_4_method_10_code 1 = .ok (.getfield 26, 3) := by decide +kernel
theorem d98_4 : decode prog_4_method_10_code 4 = .ok (.iload_n 1, 1) := by decide +kernel
theorem d98_5 : decode prog_4_method_10_code 5 = .ok (.iaload, 1) := by decide +kernel
theorem d98_6 : decode prog_4_method_10_code 6 = .ok (.aload_n 0, 1) := by decide +kernel
theorem d98_7 : decode prog_4_method_10_code 7 = .ok (.getfield 29, 3) := by decide +kernel
theorem d98_10 : decode prog_4_method_10_code 10 = .ok (.iload_n 2, 1) := by decide +kernel
theorem d98_11 : decode prog_4_method_10_code 11 = .ok (.iaload, 1) := by decide +kernel
theorem d98_12 : decode prog_4_method_10_code 12 = .ok (.imul, 1) := by decide +kernel
theorem d98_13 : decode prog_4_method_10_code 13 = .ok (.aload_n 0, 1) := by decide +kernel
theorem d98_14 : decode prog_4_method_10_code 14 = .ok (.getfield 26, 3) := by decide +kernel
theorem d98_17 : decode prog_4_method_10_code 17 = .ok (.iload_n 2, 1) := by decide +kernel
theorem d98_18 : decode prog_4_method_10_code 18 = .ok (.iaload, 1) := by decide +kernel
theorem d98_19 : decode prog_4_method_10_code 19 = .ok (.aload_n 0, 1) := by decide +kernel
theorem d98_20 : decode prog_4_method_10_code 20 = .ok (.getfield 29, 3) := by decide +kernel
theorem d98_23 : decode prog_4_method_10_code 23 = .ok (.iload_n 1, 1) := by decide +kernel
theorem d98_24 : decode prog_4_method_10_code 24 = .ok (.iaload, 1) := by decide +kernel
theorem d98_25 : decode prog_4_method_10_code 25 = .ok (.imul, 1) := by decide +kernel
theorem d98_26 : decode prog_4_method_10_code 26 = .ok (.if_icmp .ge 7, 3) := by decide +kernel
theorem d98_29 : decode prog_4_method_10_code 29 = .ok (.iconst 1, 1) := by decide +kernel
theorem d98_30 : decode prog_4_method_10_code 30 = .ok (.goto 4, 3) := by decide +kernel
theorem d98_33 : decode prog_4_method_10_code 33 = .ok (.iconst 0, 1) := by decide +kernel
theorem d98_34 : decode prog_4_method_10_code 34 = .ok (.ireturn, 1) := by decide +kernel
theorem d99_0 : decode prog_4_method_11_code 0 = .ok (.iconst 0, 1) := by decide +kernel
theorem d99_1 : decode prog_4_method_11_code 1 = .ok (.istore_n 2, 1) := by decide +kernel
theorem d99_2 : decode prog_4_method_11_code 2 = .ok (.iload_n 2, 1) := by decide +kernel
theorem d99_3 : decode prog_4_method_11_code 3 = .ok (.aload_n 0, 1) := by decide +kernel
theorem d99_4 : decode prog_4_method_11_code 4 = .ok (.getfield 9, 3) := by decide +kernel
theorem d99_7 : decode prog_4_method_11_code 7 = .ok (.iload_n 1, 1) := by decide +kernel
theorem d99_8 : decode prog_4_method_11_code 8 = .ok (.iaload, 1) := by decide +kernel
theorem d99_9 : decode prog_4_method_11_code 9 = .ok (.if_icmp .ge 23, 3) := by decide +kernel
theorem d99_12 : decode prog_4_method_11_code 12 = .ok (.aload_n 0, 1) := by decide +kernel
theorem d99_13 : decode prog_4_method_11_code 13 = .ok (.getfield 23, 3) := by decide +kernel
theorem d99_16 : decode prog_4_method_11_code 16 = .ok (.aload_n 0, 1) := by decide +kernel
theorem d99_17 : decode prog_4_method_11_code 17 = .ok (.getfield 17, 3) := by decide +kernel
theorem d99_20 : decode prog_4_method_11_code 20 = .ok (.iload_n 1, 1) := by decide +kernel
theorem d99_21 : decode prog_4_method_11_code 21 = .ok (.aaload, 1) := by decide +kernel
theorem d99_22 : decode prog_4_method_11_code 22 = .ok (.iload_n 2, 1) := by decide +kernel
theorem d99_23 : decode prog_4_method_11_code 23 = .ok (.iaload, 1) := by decide +kernel
theorem d99_24 : decode prog_4_method_11_code 24 = .ok (.iload_n 2, 1) := by decide +kernel
theorem d99_25 : decode prog_4_method_11_code 25 = .ok (.iastore, 1) := by decide +kernel
theorem d99_26 : decode prog_4_method_11_code 26 = .ok (.iinc 2 1, 3) := by decide +kernel
theorem d99_29 : decode prog_4_method_11_code 29 = .ok (.goto (-27), 3) := by decide +kernel
theorem d99_32 : decode prog_4_method_11_code 32 = .ok (.return_, 1) := by decide +kernel
theorem d100_0 : decode prog_4_method_12_code 0 = .ok (.iconst 0, 1) := by decide +kernel
theorem d100_1 : decode prog_4_method_12_code 1 = .ok (.istore_n 2, 1) := by decide +kernel
theorem d100_2 : decode prog_4_method_12_code 2 = .ok (.iconst 0, 1) := by decide +kernel
theorem d100_3 : decode prog_4_method_12_code 3 = .ok (.istore_n 3, 1) := by decide +kernel
theorem d100_4 : decode prog_4_method_12_code 4 = .ok (.iload_n 3, 1) := by decide +kernel
theorem d100_5 : decode prog_4_method_12_code 5 = .ok (.aload_n 0, 1) := by decide +kernel
theorem d100_6 : decode prog_4_method_12_code 6 = .ok (.getfield 32, 3) := by decide +kernel
theorem d100_9 : decode prog_4_method_12_code 9 = .ok (.iconst 1, 1) := by decide +kernel
theorem d100_10 : decode prog_4_method_12_code 10 = .ok (.isub, 1) := by decide +kernel
theorem d100_11 : decode prog_4_method_12_code 11 = .ok (.if_icmp .ge 34, 3) := by decide +kernel
theorem d100_14 : decode prog_4_method_12_code 14 = .ok (.iload_n 2, 1) := by decide +kernel
theorem d100_15 : decode prog_4_method_12_code 15 = .ok (.aload_n 0, 1) := by decide +kernel
theorem d100_16 : decode prog_4_method_12_code 16 = .ok (.aload_n 1, 1) := by decide +kernel
theorem d100_17 : decode prog_4_method_12_code 17 = .ok (.getfield 109, 3) := by decide +kernel
theorem d100_20 : decode prog_4_method_12_code 20 = .ok (.iload_n 3, 1) := by decide +kernel
theorem d100_21 : decode prog_4_method_12_code 21 = .ok (.iaload, 1) := by decide +kernel
theorem d100_22 : decode prog_4_method_12_code 22 = .ok (.aload_n 1, 1) := by decide +kernel
theorem d100_23 : decode prog_4_method_12_code 23 = .ok (.getfield 115, 3) := by decide +kernel
theorem d100_26 : decode prog_4_method_12_code 26 = .ok (.iload_n 3, 1) := by decide +kernel
theorem d100_27 : decode prog_4_method_12_code 27 = .ok (.aaload, 1) := by decide +kernel
theorem d100_28 : decode prog_4_method_12_code 28 = .ok (.aload_n 1, 1) := by decide +kernel
theorem d100_29 : decode prog_4_method_12_code 29 = .ok (.getfield 112, 3) := by decide +kernel
theorem d100_32 : decode prog_4_method_12_code 32 = .ok (.iload_n 3, 1) := by decide +kernel
theorem d100_33 : decode prog_4_method_12_code 33 = .ok (.aaload, 1) := by decide +kernel
theorem d100_34 : decode prog_4_method_12_code 34 = .ok (.invokevirtual 129, 3) := by decide +kernel
theorem d100_37 : decode prog_4_method_12_code 37 = .ok (.iadd, 1) := by decide +kernel
theorem d100_38 : decode prog_4_method_12_code 38 = .ok (.istore_n 2, 1) := by decide +kernel
theorem d100_39 : decode prog_4_method_12_code 39 = .ok (.iinc 3 1, 3) := by decide +kernel
theorem d100_42 : decode prog_4_method_12_code 42 = .ok (.goto (-38), 3) := by decide +kernel
theorem d100_45 : decode prog_4_method_12_code 45 = .ok (.iload_n 2, 1) := by decide +kernel
theorem d100_46 : decode prog_4_method_12_code 46 = .ok (.ireturn, 1) := by decide +kernel
theorem d101_0 : decode prog_4_method_13_code 0 = .ok (.iconst 0, 1) := by decide +kernel
theorem d101_1 : decode prog_4_method_13_code 1 = .ok (.istore 4, 2) := by decide +kernel
theorem d101_3 : decode prog_4_method_13_code 3 = .ok (.iconst 1, 1) := by decide +kernel
theorem d101_4 : decode prog_4_method_13_code 4 = .ok (.istore 5, 2) := by decide +kernel
theorem d101_6 : decode prog_4_method_13_code 6 = .ok (.iload 5, 2) := by decide +kernel
theorem d101_8 : decode prog_4_method_13_code 8 = .ok (.iload_n 1, 1) := by decide +kernel
theorem d101_9 : decode prog_4_method_13_code 9 = .ok (.if_icmp .ge 90, 3) := by decide +kernel
theorem d101_12 : decode prog_4_method_13_code 12 = .ok (.iconst 0, 1) := by decide +kernel
theorem d101_13 : decode prog_4_method_13_code 13 = .ok (.istore 6, 2) := by decide +kernel
theorem d101_15 : decode prog_4_method_13_code 15 = .ok (.iload 6, 2) := by decide +kernel
theorem d101_17 : decode prog_4_method_13_code 17 = .ok (.iload 5, 2) := by decide +kernel
theorem d101_19 : decode prog_4_method_13_code 19 = .ok (.if_icmp .ge 74, 3) := by decide +kernel
theorem d101_22 : decode prog_4_method_13_code 22 = .ok (.aload_n 0, 1) := by decide +kernel
theorem d101_23 : decode prog_4_method_13_code 23 = .ok (.getfield 23, 3) := by decide +kernel
theorem d101_26 : decode prog_4_method_13_code 26 = .ok (.aload_n 2, 1) := by decide +kernel
theorem d101_27 : decode prog_4_method_13_code 27 = .ok (.iload 5, 2) := by decide +kernel
theorem d101_29 : decode prog_4_method_13_code 29 = .ok (.iaload, 1) := by decide +kernel
theorem d101_30 : decode prog_4_method_13_code 30 = .ok (.iaload, 1) := by decide +kernel
theorem d101_31 : decode prog_4_method_13_code 31 = .ok (.aload_n 0, 1) := by decide +kernel
theorem d101_32 : decode prog_4_method_13_code 32 = .ok (.getfield 23, 3) := by decide +kernel
theorem d101_35 : decode prog_4_method_13_code 35 = .ok (.aload_n 2, 1) := by decide +kernel
theorem d101_36 : decode prog_4_method_13_code 36 = .ok (.iload 6, 2) := by decide +kernel
theorem d101_38 : decode prog_4_method_13_code 38 = .ok (.iaload, 1) := by decide +kernel
theorem d101_39 : decode prog_4_method_13_code 39 = .ok (.iaload, 1) := by decide +kernel
theorem d101_40 : decode prog_4_method_13_code 40 = .ok (.isub, 1) := by decide +kernel
theorem d101_41 : decode prog_4_method_13_code 41 = .ok (.istore 7, 2) := by decide +kernel
theorem d101_43 : decode prog_4_method_13_code 43 = .ok (.aload_n 0, 1) := by decide +kernel
theorem d101_44 : decode prog_4_method_13_code 44 = .ok (.getfield 23, 3) := by decide +kernel
theorem d101_47 : decode prog_4_method_13_code 47 = .ok (.aload_n 3, 1) := by decide +kernel
theorem d101_48 : decode prog_4_method_13_code 48 = .ok (.iload 5, 2) := by decide +kernel
theorem d101_50 : decode prog_4_method_13_code 50 = .ok (.iaload, 1) := by decide +kernel
theorem d101_51 : decode prog_4_method_13_code 51 = .ok (.iaload, 1) := by decide +kernel
theorem d101_52 : decode prog_4_method_13_code 52 = .ok (.aload_n 0, 1) := by decide +kernel
theorem d101_53 : decode prog_4_method_13_code 53 = .ok (.getfield 23, 3) := by decide +kernel
theorem d101_56 : decode prog_4_method_13_code 56 = .ok (.aload_n 3, 1) := by decide +kernel
theorem d101_57 : decode prog_4_method_13_code 57 = .ok (.iload 6, 2) := by decide +kernel
theorem d101_59 : decode prog_4_method_13_code 59 = .ok (.iaload, 1) := by decide +kernel
theorem d101_60 : decode prog_4_method_13_code 60 = .ok (.iaload, 1) := by decide +kernel
theorem d101_61 : decode prog_4_method_13_code 61 = .ok (.isub, 1) := by decide +kernel
theorem d101_62 : decode prog_4_method_13_code 62 = .ok (.istore 8, 2) := by decide +kernel
theorem d101_64 : decode prog_4_method_13_code 64 = .ok (.iload 7, 2) := by decide +kernel
theorem d101_66 : decode prog_4_method_13_code 66 = .ok (.ifCond .ge 8, 3) := by decide +kernel
theorem d101_69 : decode prog_4_method_13_code 69 = .ok (.iload 8, 2) := by decide +kernel
theorem d101_71 : decode prog_4_method_13_code 71 = .ok (.ifCond .gt 13, 3) := by decide +kernel
theorem d101_74 : decode prog_4_method_13_code 74 = .ok (.iload 7, 2) := by decide +kernel
theorem d101_76 : decode prog_4_method_13_code 76 = .ok (.ifCond .le 11, 3) := by decide +kernel
theorem d101_79 : decode prog_4_method_13_code 79 = .ok (.iload 8, 2) := by decide +kernel
theorem d101_81 : decode prog_4_method_13_code 81 = .ok (.ifCond .ge 6, 3) := by decide +kernel
theorem d101_84 : decode prog_4_method_13_code 84 = .ok (.iinc 4 1, 3) := by decide +kernel
theorem d101_87 : decode prog_4_method_13_code 87 = .ok (.iinc 6 1, 3) := by decide +kernel
theorem d101_90 : decode prog_4_method_13_code 90 = .ok (.goto (-75), 3) := by decide +kernel
theorem d101_93 : decode prog_4_method_13_code 93 = .ok (.iinc 5 1, 3) := by decide +kernel
theorem d101_96 : decode prog_4_method_13_code 96 = .ok (.goto (-90), 3) := by decide +kernel
theorem d101_99 : decode prog_4_method_13_code 99 = .ok (.iload 4, 2) := by decide +kernel
theorem d101_101 : decode prog_4_method_13_code 101 = .ok (.ireturn, 1) := by decide +kernel
theorem d102_0 : decode prog_5_method_1_code 0 = .ok (.aload_n 0, 1) := by decide +kernel
theorem d102_1 : decode prog_5_method_1_code 1 = .ok (.invokespecial 3, 3) := by decide +kernel
theorem d102_4 : decode prog_5_method_1_code 4 = .ok (.aload_n 0, 1) := by decide +kernel
theorem d102_5 : decode prog_5_method_1_code 5 = .ok (.sipush 720, 3) := by decide +kernel
theorem d102_8 : decode prog_5_method_1_code 8 = .ok (.newarray .int, 2) := by decide +kernel
theorem d102_10 : decode prog_5_method_1_code 10 = .ok (.putfield 9, 3) := by decide +kernel
theorem d102_13 : decode prog_5_method_1_code 13 = .ok (.aload_n 0, 1) := by decide +kernel
theorem d102_14 : decode prog_5_method_1_code 14 = .ok (.sipush 720, 3) := by decide +kernel
theorem d102_17 : decode prog_5_method_1_code 17 = .ok (.newarray .int, 2) := by decide +kernel
theorem d102_19 : decode prog_5_method_1_code 19 = .ok (.putfield 15, 3) := by decide +kernel
theorem d102_22 : decode prog_5_method_1_code 22 = .ok (.aload_n 0, 1) := by decide +kernel
theorem d102_23 : decode prog_5_method_1_code 23 = .ok (.bipush 6, 2) := by decide +kernel
theorem d102_25 : decode prog_5_method_1_code 25 = .ok (.newarray .int, 2) := by decide +kernel
theorem d102_27 : decode prog_5_method_1_code 27 = .ok (.putfield 18, 3) := by decide +kernel
theorem d102_30 : decode prog_5_method_1_code 30 = .ok (.aload_n 0, 1) := by decide +kernel
theorem d102_31 : decode prog_5_method_1_code 31 = .ok (.bipush 6, 2) := by decide +kernel
theorem d102_33 : decode prog_5_method_1_code 33 = .ok (.newarray .int, 2) := by decide +kernel
theorem d102_35 : decode prog_5_method_1_code 35 = .ok (.putfield 21, 3) := by decide +kernel
theorem d102_38 : decode prog_5_method_1_code 38 = .ok (.aload_n 0, 1) := by decide +kernel
theorem d102_39 : decode prog_5_method_1_code 39 = .ok (.bipush 6, 2) := by decide +kernel
theorem d102_41 : decode prog_5_method_1_code 41 = .ok (.newarray .int, 2) := by decide +kernel
theorem d102_43 : decode prog_5_method_1_code 43 = .ok (.putfield 24, 3) := by decide +kernel
theorem d102_46 : decode prog_5_method_1_code 46 = .ok (.aload_n 0, 1) := by decide +kernel
theorem d102_47 : decode prog_5_method_1_code 47 = .ok (.bipush 36, 2) := by decide +kernel
theorem d102_49 : decode prog_5_method_1_code 49 = .ok (.newarray .int, 2) := by decide +kernel
theorem d102_51 : decode prog_5_method_1_code 51 = .ok (.putfield 27, 3) := by decide +kernel
theorem d102_54 : decode prog_5_method_1_code 54 = .ok (.aload_n 0, 1) := by decide +kernel
theorem d102_55 : decode prog_5_method_1_code 55 = .ok (.iconst 0, 1) := by decide +kernel
theorem d102_56 : decode prog_5_method_1_code 56 = .ok (.putfield 30, 3) := by decide +kernel
theorem d102_59 : decode prog_5_method_1_code 59 = .ok (.return_, 1) := by decide +kernel
theorem d103_0 : decode prog_5_method_2_code 0 = .ok (.aload_n 2, 1) := by decide +kernel
theorem d103_1 : decode prog_5_method_2_code 1 = .ok (.invokestatic 34, 3) := by decide +kernel
theorem d103_4 : decode prog_5_method_2_code 4 = .ok (.ifCond .eq 10, 3) := by decide +kernel
theorem d103_7 : decode prog_5_method_2_code 7 = .ok (.aload_n 0, 1) := by decide +kernel
theorem d103_8 : decode prog_5_method_2_code 8 = .ok (.bipush (-4), 2) := by decide +kernel
theorem d103_10 : decode prog_5_method_2_code 10 = .ok (.putfield 30, 3) := by decide +kernel
theorem d103_13 : decode prog_5_method_2_code 13 = .ok (.return_, 1) := by decide +kernel
theorem d103_14 : decode prog_5_method_2_code 14 = .ok (.aload_n 0, 1) := by decide +kernel
theorem d103_15 : decode prog_5_method_2_code 15 = .ok (.getfield 9, 3) := by decide +kernel
theorem d103_18 : decode prog_5_method_2_code 18 = .ok (.iconst 0, 1) := by decide +kernel
theorem d103_19 : decode prog_5_method_2_code 19 = .ok (.invokestatic 38, 3) := by decide +kernel
theorem d103_22 : decode prog_5_method_2_code 22 = .ok (.iconst 0, 1) := by decide +kernel
theorem d103_23 : decode prog_5_method_2_code 23 = .ok (.istore_n 3, 1) := by decide +kernel
theorem d103_24 : decode prog_5_method_2_code 24 = .ok (.iload_n 3, 1) := by decide +kernel
theorem d103_25 : decode prog_5_method_2_code 25 = .ok (.aload_n 2, 1) := by decide +kernel
theorem d103_26 : decode prog_5_method_2_code 26 = .ok (.getfield 44, 3) := by decide +kernel
theorem d103_29 : decode prog_5_method_2_code 29 = .ok (.iconst 1, 1) := by decide +kernel
theorem d103_30 : decode prog_5_method_2_code 30 = .ok (.isub, 1) := by decide +kernel
theorem d103_31 : decode prog_5_method_2_code 31 = .ok (.if_icmp .ge 16, 3) := by decide +kernel
theorem d103_34 : decode prog_5_method_2_code 34 = .ok (.aload_n 0, 1) := by decide +kernel
theorem d103_35 : decode prog_5_method_2_code 35 = .ok (.aload_n 1, 1) := by decide +kernel
theorem d103_36 : decode prog_5_method_2_code 36 = .ok (.aload_n 2, 1) := by decide +kernel
theorem d103_37 : decode prog_5_method_2_code 37 = .ok (.iload_n 3, 1) := by decide +kernel
theorem d103_38 : decode prog_5_method_2_code 38 = .ok (.invokevirtual 49, 3) := by decide +kernel
theorem d103_41 : decode prog_5_method_2_code 41 = .ok (.iinc 3 1, 3) := by decide +kernel
theorem d103_44 : decode prog_5_method_2_code 44 = .ok (.goto (-20), 3) := by decide +kernel
theorem d103_47 : decode prog_5_method_2_code 47 = .ok (.aload_n 0, 1) := by decide +kernel
theorem d103_48 : decode prog_5_method_2_code 48 = .ok (.iconst 0, 1) := by decide +kernel
theorem d103_49 : decode prog_5_method_2_code 49 = .ok (.putfield 30, 3) := by decide +kernel
theorem d103_52 : decode prog_5_method_2_code 52 = .ok (.aload_n 2, 1) := by decide +kernel
theorem d103_53 : decode prog_5_method_2_code 53 = .ok (.getfield 44, 3) := by decide +kernel
theorem d103_56 : decode prog_5_method_2_code 56 = .ok (.ifCond .le 25, 3) := by decide +kernel
theorem d103_59 : decode prog_5_method_2_code 59 = .ok (.aload_n 0, 1) := by decide +kernel
theorem d103_60 : decode prog_5_method_2_code 60 = .ok (.aload_n 0, 1) := by decide +kernel
theorem d103_61 : decode prog_5_method_2_code 61 = .ok (.aload_n 2, 1) := by decide +kernel
theorem d103_62 : decode prog_5_method_2_code 62 = .ok (.getfield 53, 3) := by decide +kernel
theorem d103_65 : decode prog_5_method_2_code 65 = .ok (.aload_n 2, 1) := by decide +kernel
theorem d103_66 : decode prog_5_method_2_code 66 = .ok (.getfield 44, 3) := by decide +kernel
theorem d103_69 : decode prog_5_method_2_code 69 = .ok (.iconst 1, 1) := by decide +kernel
theorem d103_70 : decode prog_5_method_2_code 70 = .ok (.isub, 1) := by decide +kernel
theorem d103_71 : decode prog_5_method_2_code 71 = .ok (.iaload, 1) := by decide +kernel
theorem d103_72 : decode prog_5_method_2_code 72 = .ok (.invokestatic 56, 3) := by decide +kernel
theorem d103_75 : decode prog_5_method_2_code 75 = .ok (.invokevirtual 60, 3) := by decide +kernel
theorem d103_78 : decode prog_5_method_2_code 78 = .ok (.putfield 30, 3) := by decide +kernel
theorem d103_81 : decode prog_5_method_2_code 81 = .ok (.return_, 1) := by decide +kernel
theorem d104_0 : decode prog_5_method_3_code 0 = .ok (.iconst 1, 1) := by decide +kernel
theorem d104_1 : decode prog_5_method_3_code 1 = .ok (.istore_n 1, 1) := by decide +kernel
theorem d104_2 : decode prog_5_method_3_code 2 = .ok (.iconst 0, 1) := by decide +kernel
theorem d104_3 : decode prog_5_method_3_code 3 = .ok (.istore_n 2, 1) := by decide +kernel
theorem d104_4 : decode prog_5_method_3_code 4 = .ok (.iload_n 2, 1) := by decide +kernel
theorem d104_5 : decode prog_5_method_3_code 5 = .ok (.aload_n 0, 1) := by decide +kernel
theorem d104_6 : decode prog_5_method_3_code 6 = .ok (.getfield 44, 3) := by decide +kernel
theorem d104_9 : decode prog_5_method_3_code 9 = .ok (.if_icmp .ge 40, 3) := by decide +kernel
theorem d104_12 : decode prog_5_method_3_code 12 = .ok (.iconst 2, 1) := by decide +kernel
theorem d104_13 : decode prog_5_method_3_code 13 = .ok (.istore_n 3, 1) := by decide +kernel
theorem d104_14 : decode prog_5_method_3_code 14 = .ok (.iload_n 3, 1) := by decide +kernel
theorem d104_15 : decode prog_5_method_3_code 15 = .ok (.aload_n 0, 1) := by decide +kernel
theorem d104_16 : decode prog_5_method_3_code 16 = .ok (.getfield 53, 3) := by decide +kernel
theorem d104_19 : decode prog_5_method_3_code 19 = .ok (.iload_n 2, 1) := by decide +kernel
theorem d104_20 : decode prog_5_method_3_code 20 = .ok (.iaload, 1) := by decide +kernel
theorem d104_21 : decode prog_5_method_3_code 21 = .ok (.if_icmp .gt 22, 3) := by decide +kernel
theorem d104_24 : decode prog_5_method_3_code 24 = .ok (.iload_n 1, 1) := by decide +kernel
theorem d104_25 : decode prog_5_method_3_code 25 = .ok (.iload_n 3, 1) := by decide +kernel
theorem d104_26 : decode prog_5_method_3_code 26 = .ok (.imul, 1) := by decide +kernel
theorem d104_27 : decode prog_5_method_3_code 27 = .ok (.istore_n 1, 1) := by decide +kernel
theorem d104_28 : decode prog_5_method_3_code 28 = .ok (.iload_n 1, 1) := by decide +kernel
theorem d104_29 : decode prog_5_method_3_code 29 = .ok (.sipush 5000, 3) := by decide +kernel
theorem d104_32 : decode prog_5_method_3_code 32 = .ok (.if_icmp .le 5, 3) := by decide +kernel
theorem d104_35 : decode prog_5_method_3_code 35 = .ok (.iconst 1, 1) := by decide +kernel
theorem d104_36 : decode prog_5_method_3_code 36 = .ok (.ireturn, 1) := by decide +kernel
theorem d104_37 : decode prog_5_method_3_code 37 = .ok (.iinc 3 1, 3) := by decide +kernel
theorem d104_40 : decode prog_5_method_3_code 40 = .ok (.goto (-26), 3) := by decide +kernel
theorem d104_43 : decode prog_5_method_3_code 43 = .ok (.iinc 2 1, 3) := by decide +kernel
theorem d104_46 : decode prog_5_method_3_code 46 = .ok (.goto (-42), 3) := by decide +kernel
theorem d104_49 : decode prog_5_method_3_code 49 = .ok (.iconst 0, 1) := by decide +kernel
theorem d104_50 : decode prog_5_method_3_code 50 = .ok (.ireturn, 1) := by decide +kernel
theorem d105_0 : decode prog_5_method_4_code 0 = .ok (.iconst 1, 1) := by decide +kernel
theorem d105_1 : decode prog_5_method_4_code 1 = .ok (.istore_n 1, 1) := by decide +kernel
theorem d105_2 : decode prog_5_method_4_code 2 = .ok (.iconst 2, 1) := by decide +kernel
theorem d105_3 : decode prog_5_method_4_code 3 = .ok (.istore_n 2, 1) := by decide +kernel
theorem d105_4 : decode prog_5_method_4_code 4 = .ok (.iload_n 2, 1) := by decide +kernel
theorem d105_5 : decode prog_5_method_4_code 5 = .ok (.iload_n 0, 1) := by decide +kernel
theorem d105_6 : decode prog_5_method_4_code 6 = .ok (.if_icmp .gt 13, 3) := by decide +kernel
theorem d105_9 : decode prog_5_method_4_code 9 = .ok (.iload_n 1, 1) := by decide +kernel
theorem d105_10 : decode prog_5_method_4_code 10 = .ok (.iload_n 2, 1) := by decide +kernel
theorem d105_11 : decode prog_5_method_4_code 11 = .ok (.imul, 1) := by decide +kernel
theorem d105_12 : decode prog_5_method_4_code 12 = .ok (.istore_n 1, 1) := by decide +kernel
theorem d105_13 : decode prog_5_method_4_code 13 = .ok (.iinc 2 1, 3) := by decide +kernel
theorem d105_16 : decode prog_5_method_4_code 16 = .ok (.goto (-12), 3) := by decide +kernel
theorem d105_19 : decode prog_5_method_4_code 19 = .ok (.iload_n 1, 1) := by decide +kernel
theorem d105_20 : decode prog_5_method_4_code 20 = .ok (.ireturn, 1) := by decide +kernel
theorem d106_0 : decode prog_5_method_5_code 0 = .ok (.aload_n 0, 1) := by decide +kernel
theorem d106_1 : decode prog_5_method_5_code 1 = .ok (.getfield 9, 3) := by decide +kernel
theorem d106_4 : decode prog_5_method_5_code 4 = .ok (.iconst 0, 1) := by decide +kernel
theorem d106_5 : decode prog_5_method_5_code 5 = .ok (.iaload, 1) := by decide +kernel
theorem d106_6 : decode prog_5_method_5_code 6 = .ok (.istore_n 2, 1) := by decide +kernel
theorem d106_7 : decode prog_5_method_5_code 7 = .ok (.iconst 1, 1) := by decide +kernel
theorem d106_8 : decode prog_5_method_5_code 8 = .ok (.istore_n 3, 1) := by decide +kernel
theorem d106_9 : decode prog_5_method_5_code 9 = .ok (.iload_n 3, 1) := by decide +kernel
theorem d106_10 : decode prog_5_method_5_code 10 = .ok (.iload_n 1, 1) := by decide +kernel
theorem d106_11 : decode prog_5_method_5_code 11 = .ok (.if_icmp .ge 20, 3) := by decide +kernel
theorem d106_14 : decode prog_5_method_5_code 14 = .ok (.iload_n 2, 1) := by decide +kernel
theorem d106_15 : decode prog_5_method_5_code 15 = .ok (.aload_n 0, 1) := by decide +kernel
theorem d106_16 : decode prog_5_method_5_code 16 = .ok (.getfield 9, 3) := by decide +kernel
theorem d106_19 : decode prog_5_method_5_code 19 = .ok (.iload_n 3, 1) := by decide +kernel
theorem d106_20 : decode prog_5_method_5_code 20 = .ok (.iaload, 1) := by decide +kernel
theorem d106_21 : decode prog_5_method_5_code 21 = .ok (.invokestatic 63, 3) := by decide +kernel
theorem d106_24 : decode prog_5_method_5_code 24 = .ok (.istore_n 2, 1) := by decide +kernel
theorem d106_25 : decode prog_5_method_5_code 25 = .ok (.iinc 3 1, 3) := by decide +kernel
theorem d106_28 : decode prog_5_method_5_code 28 = .ok (.goto (-19), 3) := by decide +kernel
theorem d106_31 : decode prog_5_method_5_code 31 = .ok (.iload_n 2, 1) := by decide +kernel
theorem d106_32 : decode prog_5_method_5_code 32 = .ok (.ireturn, 1) := by decide +kernel
theorem d107_0 : decode prog_5_method_6_code 0 = .ok (.aload_n 2, 1) := by decide +kernel
theorem d107_1 : decode prog_5_method_6_code 1 = .ok (.getfield 53, 3) := by decide +kernel
theorem d107_4 : decode prog_5_method_6_code 4 = .ok (.iload_n 3, 1) := by decide +kernel
theorem d107_5 : decode prog_5_method_6_code 5 = .ok (.iaload, 1) := by decide +kernel
theorem d107_6 : decode prog_5_method_6_code 6 = .ok (.istore 4, 2) := by decide +kernel
theorem d107_8 : decode prog_5_method_6_code 8 = .ok (.aload_n 2, 1) := by decide +kernel
theorem d107_9 : decode prog_5_method_6_code 9 = .ok (.getfield 53, 3) := by decide +kernel
theorem d107_12 : decode prog_5_method_6_code 12 = .ok (.iload_n 3, 1) := by decide +kernel
theorem d107_13 : decode prog_5_method_6_code 13 = .ok (.iconst 1, 1) := by decide +kernel
theorem d107_14 : decode prog_5_method_6_code 14 = .ok (.iadd, 1) := by decide +kernel
theorem d107_15 : decode prog_5_method_6_code 15 = .ok (.iaload, 1) := by decide +kernel
theorem d107_16 : decode prog_5_method_6_code 16 = .ok (.istore 5, 2) := by decide +kernel
theorem d107_18 : decode prog_5_method_6_code 18 = .ok (.iload 4, 2) := by decide +kernel
theorem d107_20 : decode prog_5_method_6_code 20 = .ok (.invokestatic 56, 3) := by decide +kernel
theorem d107_23 : decode prog_5_method_6_code 23 = .ok (.istore 6, 2) := by decide +kernel
theorem d107_25 : decode prog_5_method_6_code 25 = .ok (.iload 5, 2) := by decide +kernel
theorem d107_27 : decode prog_5_method_6_code 27 = .ok (.invokestatic 56, 3) := by decide +kernel
theorem d107_30 : decode prog_5_method_6_code 30 = .ok (.istore 7, 2) := by decide +kernel
theorem d107_32 : decode prog_5_method_6_code 32 = .ok (.aload_n 0, 1) := by decide +kernel
theorem d107_33 : decode prog_5_method_6_code 33 = .ok (.getfield 15, 3) := by decide +kernel
theorem d107_36 : decode prog_5_method_6_code 36 = .ok (.ldc 71, 2) := by decide +kernel
theorem d107_38 : decode prog_5_method_6_code 38 = .ok (.invokestatic 38, 3) := by decide +kernel
theorem d107_41 : decode prog_5_method_6_code 41 = .ok (.aload_n 0, 1) := by decide +kernel
theorem d107_42 : decode prog_5_method_6_code 42 = .ok (.getfield 18, 3) := by decide +kernel
theorem d107_45 : decode prog_5_method_6_code 45 = .ok (.invokestatic 72, 3) := by decide +kernel
theorem d107_48 : decode prog_5_method_6_code 48 = .ok (.iconst 0, 1) := by decide +kernel
theorem d107_49 : decode prog_5_method_6_code 49 = .ok (.istore 8, 2) := by decide +kernel
theorem d107_51 : decode prog_5_method_6_code 51 = .ok (.iload 8, 2) := by decide +kernel
theorem d107_53 : decode prog_5_method_6_code 53 = .ok (.iload 6, 2) := by decide +kernel
theorem d107_55 : decode prog_5_method_6_code 55 = .ok (.if_icmp .ge 88, 3) := by decide +kernel
theorem d107_58 : decode prog_5_method_6_code 58 = .ok (.aload_n 0, 1) := by decide +kernel
theorem d107_59 : decode prog_5_method_6_code 59 = .ok (.aload_n 1, 1) := by decide +kernel
theorem d107_60 : decode prog_5_method_6_code 60 = .ok (.aload_n 2, 1) := by decide +kernel
theorem d107_61 : decode prog_5_method_6_code 61 = .ok (.iload_n 3, 1) := by decide +kernel
theorem d107_62 : decode prog_5_method_6_code 62 = .ok (.invokevirtual 76, 3) := by decide +kernel
theorem d107_65 : decode prog_5_method_6_code 65 = .ok (.aload_n 0, 1) := by decide +kernel
theorem d107_66 : decode prog_5_method_6_code 66 = .ok (.getfield 24, 3) := by decide +kernel
theorem d107_69 : decode prog_5_method_6_code 69 = .ok (.invokestatic 72, 3) := by decide +kernel
theorem d107_72 : decode prog_5_method_6_code 72 = .ok (.iconst 0, 1) := by decide +kernel
theorem d107_73 : decode prog_5_method_6_code 73 = .ok (.istore 9, 2) := by decide +kernel
theorem d107_75 : decode prog_5_method_6_code 75 = .ok (.iload 9, 2) := by decide +kernel
theorem d107_77 : decode prog_5_method_6_code 77 = .ok (.iload 7, 2) := by decide +kernel
theorem d107_79 : decode prog_5_method_6_code 79 = .ok (.if_icmp .ge 49, 3) := by decide +kernel
theorem d107_82 : decode prog_5_method_6_code 82 = .ok (.aload_n 0, 1) := by decide +kernel
theorem d107_83 : decode prog_5_method_6_code 83 = .ok (.getfield 15, 3) := by decide +kernel
theorem d107_86 : decode prog_5_method_6_code 86 = .ok (.iload 9, 2) := by decide +kernel
theorem d107_88 : decode prog_5_method_6_code 88 = .ok (.aload_n 0, 1) := by decide +kernel
theorem d107_89 : decode prog_5_method_6_code 89 = .ok (.getfield 15, 3) := by decide +kernel
theorem d107_92 : decode prog_5_method_6_code 92 = .ok (.iload 9, 2) := by decide +kernel
theorem d107_94 : decode prog_5_method_6_code 94 = .ok (.iaload, 1) := by decide +kernel
theorem d107_95 : decode prog_5_method_6_code 95 = .ok (.aload_n 0, 1) := by decide +kernel
theorem d107_96 : decode prog_5_method_6_code 96 = .ok (.getfield 9, 3) := by decide +kernel
theorem d107_99 : decode prog_5_method_6_code 99 = .ok (.iload 8, 2) := by decide +kernel
theorem d107_101 : decode prog_5_method_6_code 101 = .ok (.iaload, 1) := by decide +kernel
theorem d107_102 : decode prog_5_method_6_code 102 = .ok (.aload_n 0, 1) := by decide +kernel
theorem d107_103 : decode prog_5_method_6_code 103 = .ok (.iload 5, 2) := by decide +kernel
theorem d107_105 : decode prog_5_method_6_code 105 = .ok (.invokevirtual 79, 3) := by decide +kernel
theorem d107_108 : decode prog_5_method_6_code 108 = .ok (.iadd, 1) := by decide +kernel
theorem d107_109 : decode prog_5_method_6_code 109 = .ok (.invokestatic 63, 3) := by decide +kernel
theorem d107_112 : decode prog_5_method_6_code 112 = .ok (.iastore, 1) := by decide +kernel
theorem d107_113 : decode prog_5_method_6_code 113 = .ok (.aload_n 0, 1) := by decide +kernel
theorem d107_114 : decode prog_5_method_6_code 114 = .ok (.getfield 24, 3) := by decide +kernel
theorem d107_117 : decode prog_5_method_6_code 117 = .ok (.iload 5, 2) := by decide +kernel
theorem d107_119 : decode prog_5_method_6_code 119 = .ok (.invokestatic 82, 3) := by decide +kernel
theorem d107_122 : decode prog_5_method_6_code 122 = .ok (.iinc 9 1, 3) := by decide +kernel
theorem d107_125 : decode prog_5_method_6_code 125 = .ok (.goto (-50), 3) := by decide +kernel
theorem d107_128 : decode prog_5_method_6_code 128 = .ok (.aload_n 0, 1) := by decide +kernel
theorem d107_129 : decode prog_5_method_6_code 129 = .ok (.getfield 18, 3) := by decide +kernel
theorem d107_132 : decode prog_5_method_6_code 132 = .ok (.iload 4, 2) := by decide +kernel
theorem d107_134 : decode prog_5_method_6_code 134 = .ok (.invokestatic 82, 3) := by decide +kernel
theorem d107_137 : decode prog_5_method_6_code 137 = .ok (.iinc 8 1, 3) := by decide +kernel
theorem d107_140 : decode prog_5_method_6_code 140 = .ok (.goto (-89), 3) := by decide +kernel
theorem d107_143 : decode prog_5_method_6_code 143 = .ok (.aload_n 0, 1) := by decide +kernel
theorem d107_144 : decode prog_5_method_6_code 144 = .ok (.getfield 15, 3) := by decide +kernel
theorem d107_147 : decode prog_5_method_6_code 147 = .ok (.iconst 0, 1) := by decide +kernel
theorem d107_148 : decode prog_5_method_6_code 148 = .ok (.aload_n 0, 1) := by decide +kernel
theorem d107_149 : decode prog_5_method_6_code 149 = .ok (.getfield 9, 3) := by decide +kernel
theorem d107_152 : decode prog_5_method_6_code 152 = .ok (.iconst 0, 1) := by decide +kernel
theorem d107_153 : decode prog_5_method_6_code 153 = .ok (.iload 7, 2) := by decide +kernel
theorem d107_155 : decode prog_5_method_6_code 155 = .ok (.invokestatic 85, 3) := by decide +kernel
theorem d107_158 : decode prog_5_method_6_code 158 = .ok (.return_, 1) := by decide +kernel
theorem d108_0 : decode prog_5_method_7_code 0 = .ok (.aload_n 0, 1) := by decide +kernel
theorem d108_1 : decode prog_5_method_7_code 1 = .ok (.getfield 27, 3) := by decide +kernel
theorem d108_4 : decode prog_5_method_7_code 4 = .ok (.iconst 0, 1) := by decide +kernel
theorem d108_5 : decode prog_5_method_7_code 5 = .ok (.invokestatic 38, 3) := by decide +kernel
theorem d108_8 : decode prog_5_method_7_code 8 = .ok (.iconst 0, 1) := by decide +kernel
theorem d108_9 : decode prog_5_method_7_code 9 = .ok (.istore 4, 2) := by decide +kernel
theorem d108_11 : decode prog_5_method_7_code 11 = .ok (.iload 4, 2) := by decide +kernel
theorem d108_13 : decode prog_5_method_7_code 13 = .ok (.bipush 6, 2) := by decide +kernel
theorem d108_15 : decode prog_5_method_7_code 15 = .ok (.if_icmp .ge 23, 3) := by decide +kernel
theorem d108_18 : decode prog_5_method_7_code 18 = .ok (.aload_n 0, 1) := by decide +kernel
theorem d108_19 : decode prog_5_method_7_code 19 = .ok (.getfield 21, 3) := by decide +kernel
theorem d108_22 : decode prog_5_method_7_code 22 = .ok (.aload_n 0, 1) := by decide +kernel
theorem d108_23 : decode prog_5_method_7_code 23 = .ok (.getfield 18, 3) := by decide +kernel
theorem d108_26 : decode prog_5_method_7_code 26 = .ok (.iload 4, 2) := by decide +kernel
theorem d108_28 : decode prog_5_method_7_code 28 = .ok (.iaload, 1) := by decide +kernel
theorem d108_29 : decode prog_5_method_7_code 29 = .ok (.iload 4, 2) := by decide +kernel
theorem d108_31 : decode prog_5_method_7_code 31 = .ok (.iastore, 1) := by decide +kernel
theorem d108_32 : decode prog_5_method_7_code 32 = .ok (.iinc 4 1, 3) := by decide +kernel
theorem d108_35 : decode prog_5_method_7_code 35 = .ok (.goto (-24), 3) := by decide +kernel
theorem d108_38 : decode prog_5_method_7_code 38 = .ok (.aload_n 1, 1) := by decide +kernel
theorem d108_39 : decode prog_5_method_7_code 39 = .ok (.getfield 91, 3) := by decide +kernel
theorem d108_42 : decode prog_5_method_7_code 42 = .ok (.iload_n 3, 1) := by decide +kernel
theorem d108_43 : decode prog_5_method_7_code 43 = .ok (.aaload, 1) := by decide +kernel
theorem d108_44 : decode prog_5_method_7_code 44 = .ok (.astore 4, 2) := by decide +kernel
theorem d108_46 : decode prog_5_method_7_code 46 = .ok (.aload_n 1, 1) := by decide +kernel
theorem d108_47 : decode prog_5_method_7_code 47 = .ok (.getfield 97, 3) := by decide +kernel
theorem d108_50 : decode prog_5_method_7_code 50 = .ok (.iload_n 3, 1) := by decide +kernel
theorem d108_51 : decode prog_5_method_7_code 51 = .ok (.aaload, 1) := by decide +kernel
theorem d108_52 : decode prog_5_method_7_code 52 = .ok (.astore 5, 2) := by decide +kernel
theorem d108_54 : decode prog_5_method_7_code 54 = .ok (.iconst 0, 1) := by decide +kernel
theorem d108_55 : decode prog_5_method_7_code 55 = .ok (.istore 6, 2) := by decide +kernel
theorem d108_57 : decode prog_5_method_7_code 57 = .ok (.iload 6, 2) := by decide +kernel
theorem d108_59 : decode prog_5_method_7_code 59 = .ok (.aload_n 1, 1) := by decide +kernel
theorem d108_60 : decode prog_5_method_7_code 60 = .ok (.getfield 100, 3) := by decide +kernel
theorem d108_63 : decode prog_5_method_7_code 63 = .ok (.iload_n 3, 1) := by decide +kernel
theorem d108_64 : decode prog_5_method_7_code 64 = .ok (.iaload, 1) := by decide +kernel
theorem d108_65 : decode prog_5_method_7_code 65 = .ok (.if_icmp .ge 95, 3) := by decide +kernel
theorem d108_68 : decode prog_5_method_7_code 68 = .ok (.iconst 0, 1) := by decide +kernel
theorem d108_69 : decode prog_5_method_7_code 69 = .ok (.istore 7, 2) := by decide +kernel
theorem d108_71 : decode prog_5_method_7_code 71 = .ok (.iload 7, 2) := by decide +kernel
theorem d108_73 : decode prog_5_method_7_code 73 = .ok (.aload_n 1, 1) := by decide +kernel
theorem d108_74 : decode prog_5_method_7_code 74 = .ok (.getfield 100, 3) := by decide +kernel
theorem d108_77 : decode prog_5_method_7_code 77 = .ok (.iload_n 3, 1) := by decide +kernel
theorem d108_78 : decode prog_5_method_7_code 78 = .ok (.iaload, 1) := by decide +kernel
theorem d108_79 : decode prog_5_method_7_code 79 = .ok (.if_icmp .ge 75, 3) := by decide +kernel
theorem d108_82 : decode prog_5_method_7_code 82 = .ok (.aload_n 0, 1) := by decide +kernel
theorem d108_83 : decode prog_5_method_7_code 83 = .ok (.getfield 21, 3) := by decide +kernel
theorem d108_86 : decode prog_5_method_7_code 86 = .ok (.aload_n 2, 1) := by decide +kernel
theorem d108_87 : decode prog_5_method_7_code 87 = .ok (.getfield 103, 3) := by decide +kernel
theorem d108_90 : decode prog_5_method_7_code 90 = .ok (.aload 4, 2) := by decide +kernel
theorem d108_92 : decode prog_5_method_7_code 92 = .ok (.iload 6, 2) := by decide +kernel
theorem d108_94 : decode prog_5_method_7_code 94 = .ok (.iaload, 1) := by decide +kernel
theorem d108_95 : decode prog_5_method_7_code 95 = .ok (.iaload, 1) := by decide +kernel
theorem d108_96 : decode prog_5_method_7_code 96 = .ok (.iaload, 1) := by decide +kernel
theorem d108_97 : decode prog_5_method_7_code 97 = .ok (.aload_n 0, 1) := by decide +kernel
theorem d108_98 : decode prog_5_method_7_code 98 = .ok (.getfield 21, 3) := by decide +kernel
theorem d108_101 : decode prog_5_method_7_code 101 = .ok (.aload_n 2, 1) := by decide +kernel
theorem d108_102 : decode prog_5_method_7_code 102 = .ok (.getfield 103, 3) := by decide +kernel
theorem d108_105 : decode prog_5_method_7_code 105 = .ok (.aload 4, 2) := by decide +kernel
theorem d108_107 : decode prog_5_method_7_code 107 = .ok (.iload 7, 2) := by decide +kernel
theorem d108_109 : decode prog_5_method_7_code 109 = .ok (.iaload, 1) := by decide +kernel
theorem d108_110 : decode prog_5_method_7_code 110 = .ok (.iaload, 1) := by decide +kernel
theorem d108_111 : decode prog_5_method_7_code 111 = .ok (.iaload, 1) := by decide +kernel
theorem d108_112 : decode prog_5_method_7_code 112 = .ok (.if_icmp .le 36, 3) := by decide +kernel
theorem d108_115 : decode prog_5_method_7_code 115 = .ok (.aload_n 0, 1) := by decide +kernel
theorem d108_116 : decode prog_5_method_7_code 116 = .ok (.getfield 27, 3) := by decide +kernel
theorem d108_119 : decode prog_5_method_7_code 119 = .ok (.aload_n 2, 1) := by decide +kernel
theorem d108_120 : decode prog_5_method_7_code 120 = .ok (.getfield 103, 3) := by decide +kernel
theorem d108_123 : decode prog_5_method_7_code 123 = .ok (.aload 5, 2) := by decide +kernel
theorem d108_125 : decode prog_5_method_7_code 125 = .ok (.iload 6, 2) := by decide +kernel
theorem d108_127 : decode prog_5_method_7_code 127 = .ok (.iaload, 1) := by decide +kernel
theorem d108_128 : decode prog_5_method_7_code 128 = .ok (.iaload, 1) := by decide +kernel
theorem d108_129 : decode prog_5_method_7_code 129 = .ok (.bipush 6, 2) := by decide +kernel
theorem d108_131 : decode prog_5_method_7_code 131 = .ok (.imul, 1) := by decide +kernel
theorem d108_132 : decode prog_5_method_7_code 132 = .ok (.aload_n 2, 1) := by decide +kernel
theorem d108_133 : decode prog_5_method_7_code 133 = .ok (.getfield 103, 3) := by decide +kernel
theorem d108_136 : decode prog_5_method_7_code 136 = .ok (.aload 5, 2) := by decide +kernel
theorem d108_138 : decode prog_5_method_7_code 138 = .ok (.iload 7, 2) := by decide +kernel
theorem d108_140 : decode prog_5_method_7_code 140 = .ok (.iaload, 1) := by decide +kernel
theorem d108_141 : decode prog_5_method_7_code 141 = .ok (.iaload, 1) := by decide +kernel
theorem d108_142 : decode prog_5_method_7_code 142 = .ok (.iadd, 1) := by decide +kernel
theorem d108_143 : decode prog_5_method_7_code 143 = .ok (.dup2, 1) := by decide +kernel
theorem d108_144 : decode prog_5_method_7_code 144 = .ok (.iaload, 1) := by decide +kernel
theorem d108_145 : decode prog_5_method_7_code 145 = .ok (.iconst 1, 1) := by decide +kernel
theorem d108_146 : decode prog_5_method_7_code 146 = .ok (.iadd, 1) := by decide +kernel
theorem d108_147 : decode prog_5_method_7_code 147 = .ok (.iastore, 1) := by decide +kernel
theorem d108_148 : decode prog_5_method_7_code 148 = .ok (.iinc 7 1, 3) := by decide +kernel
theorem d108_151 : decode prog_5_method_7_code 151 = .ok (.goto (-80), 3) := by decide +kernel
theorem d108_154 : decode prog_5_method_7_code 154 = .ok (.iinc 6 1, 3) := by decide +kernel
theorem d108_157 : decode prog_5_method_7_code 157 = .ok (.goto (-100), 3) := by decide +kernel
theorem d108_160 : decode prog_5_method_7_code 160 = .ok (.return_, 1) := by decide +kernel
theorem d109_0 : decode prog_5_method_8_code 0 = .ok (.iconst 0, 1) := by decide +kernel
theorem d109_1 : decode prog_5_method_8_code 1 = .ok (.istore_n 2, 1) := by decide +kernel
theorem d109_2 : decode prog_5_method_8_code 2 = .ok (.iconst 0, 1) := by decide +kernel
theorem d109_3 : decode prog_5_method_8_code 3 = .ok (.istore_n 3, 1) := by decide +kernel
theorem d109_4 : decode prog_5_method_8_code 4 = .ok (.iload_n 3, 1) := by decide +kernel
theorem d109_5 : decode prog_5_method_8_code 5 = .ok (.iload_n 1, 1) := by decide +kernel
theorem d109_6 : decode prog_5_method_8_code 6 = .ok (.if_icmp .ge 51, 3) := by decide +kernel
theorem d109_9 : decode prog_5_method_8_code 9 = .ok (.iload_n 3, 1) := by decide +kernel
theorem d109_10 : decode prog_5_method_8_code 10 = .ok (.iconst 1, 1) := by decide +kernel
theorem d109_11 : decode prog_5_method_8_code 11 = .ok (.iadd, 1) := by decide +kernel
theorem d109_12 : decode prog_5_method_8_code 12 = .ok (.istore 4, 2) := by decide +kernel
theorem d109_14 : decode prog_5_method_8_code 14 = .ok (.iload 4, 2) := by decide +kernel
theorem d109_16 : decode prog_5_method_8_code 16 = .ok (.iload_n 1, 1) := by decide +kernel
theorem d109_17 : decode prog_5_method_8_code 17 = .ok (.if_icmp .ge 34, 3) := by decide +kernel
theorem d109_20 : decode prog_5_method_8_code 20 = .ok (.iload_n 2, 1) := by decide +kernel
theorem d109_21 : decode prog_5_method_8_code 21 = .ok (.aload_n 0, 1) := by decide +kernel
theorem d109_22 : decode prog_5_method_8_code 22 = .ok (.getfield 27, 3) := by decide +kernel
theorem d109_25 : decode prog_5_method_8_code 25 = .ok (.aload_n 0, 1) := by decide +kernel
theorem d109_26 : decode prog_5_method_8_code 26 = .ok (.getfield 24, 3) := by decide +kernel
theorem d109_29 : decode prog_5_method_8_code 29 = .ok (.iload_n 3, 1) := by decide +kernel
theorem d109_30 : decode prog_5_method_8_code 30 = .ok (.iaload, 1) := by decide +kernel
theorem d109_31 : decode prog_5_method_8_code 31 = .ok (.bipush 6, 2) := by decide +kernel
theorem d109_33 : decode prog_5_method_8_code 33 = .ok (.imul, 1) := by decide +kernel
theorem d109_34 : decode prog_5_method_8_code 34 = .ok (.aload_n 0, 1) := by decide +kernel
theorem d109_35 : decode prog_5_method_8_code 35 = .ok (.getfield 24, 3) := by decide +kernel
theorem d109_38 : decode prog_5_method_8_code 38 = .ok (.iload 4, 2) := by decide +kernel
theorem d109_40 : decode prog_5_method_8_code 40 = .ok (.iaload, 1) := by decide +kernel
theorem d109_41 : decode prog_5_method_8_code 41 = .ok (.iadd, 1) := by decide +kernel
theorem d109_42 : decode prog_5_method_8_code 42 = .ok (.iaload, 1) := by decide +kernel
theorem d109_43 : decode prog_5_method_8_code 43 = .ok (.iadd, 1) := by decide +kernel
theorem d109_44 : decode prog_5_method_8_code 44 = .ok (.istore_n 2, 1) := by decide +kernel
theorem d109_45 : decode prog_5_method_8_code 45 = .ok (.iinc 4 1, 3) := by decide +kernel
theorem d109_48 : decode prog_5_method_8_code 48 = .ok (.goto (-34), 3) := by decide +kernel
theorem d109_51 : decode prog_5_method_8_code 51 = .ok (.iinc 3 1, 3) := by decide +kernel
theorem d109_54 : decode prog_5_method_8_code 54 = .ok (.goto (-50), 3) := by decide +kernel
theorem d109_57 : decode prog_5_method_8_code 57 = .ok (.iload_n 2, 1) := by decide +kernel
theorem d109_58 : decode prog_5_method_8_code 58 = .ok (.ireturn, 1) := by decide +kernel
theorem d110_0 : decode prog_5_method_9_code 0 = .ok (.iconst 0, 1) := by decide +kernel
theorem d110_1 : decode prog_5_method_9_code 1 = .ok (.istore_n 1, 1) := by decide +kernel
theorem d110_2 : decode prog_5_method_9_code 2 = .ok (.iload_n 1, 1) := by decide +kernel
theorem d110_3 : decode prog_5_method_9_code 3 = .ok (.bipush 6, 2) := by decide +kernel
theorem d110_5 : decode prog_5_method_9_code 5 = .ok (.if_icmp .ge 13, 3) := by decide +kernel
theorem d110_8 : decode prog_5_method_9_code 8 = .ok (.aload_n 0, 1) := by decide +kernel
theorem d110_9 : decode prog_5_method_9_code 9 = .ok (.iload_n 1, 1) := by decide +kernel
theorem d110_10 : decode prog_5_method_9_code 10 = .ok (.iload_n 1, 1) := by decide +kernel
theorem d110_11 : decode prog_5_method_9_code 11 = .ok (.iastore, 1) := by decide +kernel
theorem d110_12 : decode prog_5_method_9_code 12 = .ok (.iinc 1 1, 3) := by decide +kernel
theorem d110_15 : decode prog_5_method_9_code 15 = .ok (.goto (-13), 3) := by decide +kernel
theorem d110_18 : decode prog_5_method_9_code 18 = .ok (.return_, 1) := by decide +kernel
theorem d111_0 : decode prog_5_method_10_code 0 = .ok (.iload_n 1, 1) := by decide +kernel
theorem d111_1 : decode prog_5_method_10_code 1 = .ok (.iconst 2, 1) := by decide +kernel
theorem d111_2 : decode prog_5_method_10_code 2 = .ok (.isub, 1) := by decide +kernel
theorem d111_3 : decode prog_5_method_10_code 3 = .ok (.istore_n 2, 1) := by decide +kernel
theorem d111_4 : decode prog_5_method_10_code 4 = .ok (.iload_n 2, 1) := by decide +kernel
theorem d111_5 : decode prog_5_method_10_code 5 = .ok (.ifCond .lt 20, 3) := by decide +kernel
theorem d111_8 : decode prog_5_method_10_code 8 = .ok (.aload_n 0, 1) := by decide +kernel
theorem d111_9 : decode prog_5_method_10_code 9 = .ok (.iload_n 2, 1) := by decide +kernel
theorem d111_10 : decode prog_5_method_10_code 10 = .ok (.iaload, 1) := by decide +kernel
theorem d111_11 : decode prog_5_method_10_code 11 = .ok (.aload_n 0, 1) := by decide +kernel
theorem d111_12 : decode prog_5_method_10_code 12 = .ok (.iload_n 2, 1) := by decide +kernel
theorem d111_13 : decode prog_5_method_10_code 13 = .ok (.iconst 1, 1) := by decide +kernel
theorem d111_14 : decode prog_5_method_10_code 14 = .ok (.iadd, 1) := by decide +kernel
theorem d111_15 : decode prog_5_method_10_code 15 = .ok (.iaload, 1) := by decide +kernel
theorem d111_16 : decode prog_5_method_10_code 16 = .ok (.if_icmp .le 9, 3) := by decide +kernel
theorem d111_19 : decode prog_5_method_10_code 19 = .ok (.iinc 2 (-1), 3) := by decide +kernel
theorem d111_22 : decode prog_5_method_10_code 22 = .ok (.goto (-18), 3) := by decide +kernel
theorem d111_25 : decode prog_5_method_10_code 25 = .ok (.iload_n 2, 1) := by decide +kernel
theorem d111_26 : decode prog_5_method_10_code 26 = .ok (.ifCond .ge 4, 3) := by decide +kernel
theorem d111_29 : decode prog_5_method_10_code 29 = .ok (.return_, 1) := by decide +kernel
theorem d111_30 : decode prog_5_method_10_code 30 = .ok (.iload_n 1, 1) := by decide +kernel
theorem d111_31 : decode prog_5_method_10_code 31 = .ok (.iconst 1, 1) := by decide +kernel
theorem d111_32 : decode prog_5_method_10_code 32 = .ok (.isub, 1) := by decide +kernel
theorem d111_33 : decode prog_5_method_10_code 33 = .ok (.istore_n 3, 1) := by decide +kernel
theorem d111_34 : decode prog_5_method_10_code 34 = .ok (.iload_n 3, 1) := by decide +kernel
theorem d111_35 : decode prog_5_method_10_code 35 = .ok (.iload_n 2, 1) := by decide +kernel
theorem d111_36 : decode prog_5_method_10_code 36 = .ok (.if_icmp .le 18, 3) := by decide +kernel
theorem d111_39 : decode prog_5_method_10_code 39 = .ok (.aload_n 0, 1) := by decide +kernel
theorem d111_40 : decode prog_5_method_10_code 40 = .ok (.iload_n 3, 1) := by decide +kernel
theorem d111_41 : decode prog_5_method_10_code 41 = .ok (.iaload, 1) := by decide +kernel
theorem d111_42 : decode prog_5_method_10_code 42 = .ok (.aload_n 0, 1) := by decide +kernel
theorem d111_43 : decode prog_5_method_10_code 43 = .ok (.iload_n 2, 1) := by decide +kernel
theorem d111_44 : decode prog_5_method_10_code 44 = .ok (.iaload, 1) := by decide +kernel
theorem d111_45 : decode prog_5_method_10_code 45 = .ok (.if_icmp .ge 9, 3) := by decide +kernel
theorem d111_48 : decode prog_5_method_10_code 48 = .ok (.iinc 3 (-1), 3) := by decide +kernel
theorem d111_51 : decode prog_5_method_10_code 51 = .ok (.goto (-17), 3) := by decide +kernel
theorem d111_54 : decode prog_5_method_10_code 54 = .ok (.aload_n 0, 1) := by decide +kernel
theorem d111_55 : decode prog_5_method_10_code 55 = .ok (.iload_n 2, 1) := by decide +kernel
theorem d111_56 : decode prog_5_method_10_code 56 = .ok (.iload_n 3, 1) := by decide +kernel
theorem d111_57 : decode prog_5_method_10_code 57 = .ok (.invokestatic 106, 3) := by decide +kernel
theorem d111_60 : decode prog_5_method_10_code 60 = .ok (.iload_n 1, 1) := by decide +kernel
theorem d111_61 : decode prog_5_method_10_code 61 = .ok (.iconst 1, 1) := by decide +kernel
theorem d111_62 : decode prog_5_method_10_code 62 = .ok (.isub, 1) := by decide +kernel
theorem d111_63 : decode prog_5_method_10_code 63 = .ok (.iload_n 2, 1) := by decide +kernel
theorem d111_64 : decode prog_5_method_10_code 64 = .ok (.isub, 1) := by decide +kernel
theorem d111_65 : decode prog_5_method_10_code 65 = .ok (.istore 4, 2) := by decide +kernel
theorem d111_67 : decode prog_5_method_10_code 67 = .ok (.iconst 0, 1) := by decide +kernel
theorem d111_68 : decode prog_5_method_10_code 68 = .ok (.istore 5, 2) := by decide +kernel
theorem d111_70 : decode prog_5_method_10_code 70 = .ok (.iload 5, 2) := by decide +kernel
theorem d111_72 : decode prog_5_method_10_code 72 = .ok (.iload 4, 2) := by decide +kernel
theorem d111_74 : decode prog_5_method_10_code 74 = .ok (.iconst 2, 1) := by decide +kernel
theorem d111_75 : decode prog_5_method_10_code 75 = .ok (.idiv, 1) := by decide +kernel
theorem d111_76 : decode prog_5_method_10_code 76 = .ok (.if_icmp .ge 25, 3) := by decide +kernel
theorem d111_79 : decode prog_5_method_10_code 79 = .ok (.aload_n 0, 1) := by decide +kernel
theorem d111_80 : decode prog_5_method_10_code 80 = .ok (.iload_n 2, 1) := by decide +kernel
theorem d111_81 : decode prog_5_method_10_code 81 = .ok (.iconst 1, 1) := by decide +kernel
theorem d111_82 : decode prog_5_method_10_code 82 = .ok (.iadd, 1) := by decide +kernel
theorem d111_83 : decode prog_5_method_10_code 83 = .ok (.iload 5, 2) := by decide +kernel
theorem d111_85 : decode prog_5_method_10_code 85 = .ok (.iadd, 1) := by decide +kernel
theorem d111_86 : decode prog_5_method_10_code 86 = .ok (.iload_n 1, 1) := by decide +kernel
theorem d111_87 : decode prog_5_method_10_code 87 = .ok (.iconst 1, 1) := by decide +kernel
theorem d111_88 : decode prog_5_method_10_code 88 = .ok (.isub, 1) := by decide +kernel
theorem d111_89 : decode prog_5_method_10_code 89 = .ok (.iload 5, 2) := by decide +kernel
theorem d111_91 : decode prog_5_method_10_code 91 = .ok (.isub, 1) := by decide +kernel
theorem d111_92 : decode prog_5_method_10_code 92 = .ok (.invokestatic 106, 3) := by decide +kernel
theorem d111_95 : decode prog_5_method_10_code 95 = .ok (.iinc 5 1, 3) := by decide +kernel
theorem d111_98 : decode prog_5_method_10_code 98 = .ok (.goto (-28), 3) := by decide +kernel
theorem d111_101 : decode prog_5_method_10_code 101 = .ok (.return_, 1) := by decide +kernel
theorem d112_0 : decode prog_5_method_11_code 0 = .ok (.aload_n 0, 1) := by decide +kernel
theorem d112_1 : decode prog_5_method_11_code 1 = .ok (.iload_n 1, 1) := by decide +kernel
theorem d112_2 : decode prog_5_method_11_code 2 = .ok (.iaload, 1) := by decide +kernel
theorem d112_3 : decode prog_5_method_11_code 3 = .ok (.istore_n 3, 1) := by decide +kernel
theorem d112_4 : decode prog_5_method_11_code 4 = .ok (.aload_n 0, 1) := by decide +kernel
theorem d112_5 : decode prog_5_method_11_code 5 = .ok (.iload_n 1, 1) := by decide +kernel
theorem d112_6 : decode prog_5_method_11_code 6 = .ok (.aload_n 0, 1) := by decide +kernel
theorem d112_7 : decode prog_5_method_11_code 7 = .ok (.iload_n 2, 1) := by decide +kernel
theorem d112_8 : decode prog_5_method_11_code 8 = .ok (.iaload, 1) := by decide +kernel
theorem d112_9 : decode prog_5_method_11_code 9 = .ok (.iastore, 1) := by decide +kernel
theorem d112_10 : decode prog_5_method_11_code 10 = .ok (.aload_n 0, 1) := by decide +kernel
theorem d112_11 : decode prog_5_method_11_code 11 = .ok (.iload_n 2, 1) := by decide +kernel
theorem d112_12 : decode prog_5_method_11_code 12 = .ok (.iload_n 3, 1) := by decide +kernel
theorem d112_13 : decode prog_5_method_11_code 13 = .ok (.iastore, 1) := by decide +kernel
theorem d112_14 : decode prog_5_method_11_code 14 = .ok (.return_, 1) := by decide +kernel
theorem d113_0 : decode prog_6_method_1_code 0 = .ok (.aload_n 0, 1) := by decide +kernel
theorem d113_1 : decode prog_6_method_1_code 1 = .ok (.invokespecial 3, 3) := by decide +kernel
theorem d113_4 : decode prog_6_method_1_code 4 = .ok (.aload_n 0, 1) := by decide +kernel
theorem d113_5 : decode prog_6_method_1_code 5 = .ok (.bipush 24, 2) := by decide +kernel
theorem d113_7 : decode prog_6_method_1_code 7 = .ok (.newarray .int, 2) := by decide +kernel
theorem d113_9 : decode prog_6_method_1_code 9 = .ok (.putfield 9, 3) := by decide +kernel
theorem d113_12 : decode prog_6_method_1_code 12 = .ok (.aload_n 0, 1) := by decide +kernel
theorem d113_13 : decode prog_6_method_1_code 13 = .ok (.bipush 72, 2) := by decide +kernel
theorem d113_15 : decode prog_6_method_1_code 15 = .ok (.newarray .int, 2) := by decide +kernel
theorem d113_17 : decode prog_6_method_1_code 17 = .ok (.putfield 15, 3) := by decide +kernel
theorem d113_20 : decode prog_6_method_1_code 20 = .ok (.aload_n 0, 1) := by decide +kernel
theorem d113_21 : decode prog_6_method_1_code 21 = .ok (.bipush 12, 2) := by decide +kernel
theorem d113_23 : decode prog_6_method_1_code 23 = .ok (.newarray .int, 2) := by decide +kernel
theorem d113_25 : decode prog_6_method_1_code 25 = .ok (.putfield 18, 3) := by decide +kernel
theorem d113_28 : decode prog_6_method_1_code 28 = .ok (.aload_n 0, 1) := by decide +kernel
theorem d113_29 : decode prog_6_method_1_code 29 = .ok (.bipush 12, 2) := by decide +kernel
theorem d113_31 : decode prog_6_method_1_code 31 = .ok (.bipush 24, 2) := by decide +kernel
theorem d113_33 : decode prog_6_method_1_code 33 = .ok (.multianewarray 21 2, 4) := by decide +kernel
theorem d113_37 : decode prog_6_method_1_code 37 = .ok (.putfield 23, 3) := by decide +kernel
theorem d113_40 : decode prog_6_method_1_code 40 = .ok (.aload_n 0, 1) := by decide +kernel
theorem d113_41 : decode prog_6_method_1_code 41 = .ok (.bipush 12, 2) := by decide +kernel
theorem d113_43 : decode prog_6_method_1_code 43 = .ok (.bipush 24, 2) := by decide +kernel
theorem d113_45 : decode prog_6_method_1_code 45 = .ok (.multianewarray 21 2, 4) := by decide +kernel
theorem d113_49 : decode prog_6_method_1_code 49 = .ok (.putfield 26, 3) := by decide +kernel
theorem d113_52 : decode prog_6_method_1_code 52 = .ok (.aload_n 0, 1) := by decide +kernel
theorem d113_53 : decode prog_6_method_1_code 53 = .ok (.bipush 12, 2) := by decide +kernel
theorem d113_55 : decode prog_6_method_1_code 55 = .ok (.putfield 29, 3) := by decide +kernel
theorem d113_58 : decode prog_6_method_1_code 58 = .ok (.return_, 1) := by decide +kernel
theorem d114_0 : decode prog_6_method_2_code 0 = .ok (.iload_n 1, 1) := by decide +kernel
theorem d114_1 : decode prog_6_method_2_code 1 = .ok (.bipush 12, 2) := by decide +kernel
theorem d114_3 : decode prog_6_method_2_code 3 = .ok (.if_icmp .lt 15, 3) := by decide +kernel
theorem d114_6 : decode prog_6_method_2_code 6 = .ok (.iload_n 1, 1) := by decide +kernel
theorem d114_7 : decode prog_6_method_2_code 7 = .ok (.aload_n 0, 1) := by decide +kernel
theorem d114_8 : decode prog_6_method_2_code 8 = .ok (.getfield 29, 3) := by decide +kernel
theorem d114_11 : decode prog_6_method_2_code 11 = .ok (.if_icmp .ge 7, 3) := by decide +kernel
theorem d114_14 : decode prog_6_method_2_code 14 = .ok (.iconst 1, 1) := by decide +kernel
theorem d114_15 : decode prog_6_method_2_code 15 = .ok (.goto 4, 3) := by decide +kernel
theorem d114_18 : decode prog_6_method_2_code 18 = .ok (.iconst 0, 1) := by decide +kernel
theorem d114_19 : decode prog_6_method_2_code 19 = .ok (.ireturn, 1) := by decide +kernel
theorem d115_0 : decode prog_6_method_3_code 0 = .ok (.iload_n 3, 1) := by decide +kernel
theorem d115_1 : decode prog_6_method_3_code 1 = .ok (.ifCond .ne 10, 3) := by decide +kernel
theorem d115_4 : decode prog_6_method_3_code 4 = .ok (.aload_n 1, 1) := by decide +kernel
theorem d115_5 : decode prog_6_method_3_code 5 = .ok (.getfield 33, 3) := by decide +kernel
theorem d115_8 : decode prog_6_method_3_code 8 = .ok (.iload_n 2, 1) := by decide +kernel
theorem d115_9 : decode prog_6_method_3_code 9 = .ok (.iaload, 1) := by decide +kernel
theorem d115_10 : decode prog_6_method_3_code 10 = .ok (.ireturn, 1) := by decide +kernel
theorem d115_11 : decode prog_6_method_3_code 11 = .ok (.iload_n 3, 1) := by decide +kernel
theorem d115_12 : decode prog_6_method_3_code 12 = .ok (.aload_n 1, 1) := by decide +kernel
theorem d115_13 : decode prog_6_method_3_code 13 = .ok (.iload_n 2, 1) := by decide +kernel
theorem d115_14 : decode prog_6_method_3_code 14 = .ok (.invokevirtual 38, 3) := by decide +kernel
theorem d115_17 : decode prog_6_method_3_code 17 = .ok (.if_icmp .ne 12, 3) := by decide +kernel
theorem d115_20 : decode prog_6_method_3_code 20 = .ok (.aload_n 1, 1) := by decide +kernel
theorem d115_21 : decode prog_6_method_3_code 21 = .ok (.getfield 42, 3) := by decide +kernel
theorem d115_24 : decode prog_6_method_3_code 24 = .ok (.iload_n 2, 1) := by decide +kernel
theorem d115_25 : decode prog_6_method_3_code 25 = .ok (.iaload, 1) := by decide +kernel
theorem d115_26 : decode prog_6_method_3_code 26 = .ok (.goto 13, 3) := by decide +kernel
theorem d115_29 : decode prog_6_method_3_code 29 = .ok (.aload_n 0, 1) := by decide +kernel
theorem d115_30 : decode prog_6_method_3_code 30 = .ok (.getfield 9, 3) := by decide +kernel
theorem d115_33 : decode prog_6_method_3_code 33 = .ok (.iload_n 2, 1) := by decide +kernel
theorem d115_34 : decode prog_6_method_3_code 34 = .ok (.iaload, 1) := by decide +kernel
theorem d115_35 : decode prog_6_method_3_code 35 = .ok (.iload_n 3, 1) := by decide +kernel
theorem d115_36 : decode prog_6_method_3_code 36 = .ok (.iadd, 1) := by decide +kernel
theorem d115_37 : decode prog_6_method_3_code 37 = .ok (.iconst 1, 1) := by decide +kernel
theorem d115_38 : decode prog_6_method_3_code 38 = .ok (.isub, 1) := by decide +kernel
theorem d115_39 : decode prog_6_method_3_code 39 = .ok (.ireturn, 1) := by decide +kernel
theorem d116_0 : decode prog_6_method_4_code 0 = .ok (.aload_n 0, 1) := by decide +kernel
theorem d116_1 : decode prog_6_method_4_code 1 = .ok (.getfield 15, 3) := by decide +kernel
theorem d116_4 : decode prog_6_method_4_code 4 = .ok (.iconst 1, 1) := by decide +kernel
theorem d116_5 : decode prog_6_method_4_code 5 = .ok (.invokestatic 45, 3) := by decide +kernel
theorem d116_8 : decode prog_6_method_4_code 8 = .ok (.aload_n 1, 1) := by decide +kernel
theorem d116_9 : decode prog_6_method_4_code 9 = .ok (.getfield 51, 3) := by decide +kernel
theorem d116_12 : decode prog_6_method_4_code 12 = .ok (.iconst 0, 1) := by decide +kernel
theorem d116_13 : decode prog_6_method_4_code 13 = .ok (.aload_n 0, 1) := by decide +kernel
theorem d116_14 : decode prog_6_method_4_code 14 = .ok (.getfield 15, 3) := by decide +kernel
theorem d116_17 : decode prog_6_method_4_code 17 = .ok (.iconst 0, 1) := by decide +kernel
theorem d116_18 : decode prog_6_method_4_code 18 = .ok (.aload_n 1, 1) := by decide +kernel
theorem d116_19 : decode prog_6_method_4_code 19 = .ok (.getfield 56, 3) := by decide +kernel
theorem d116_22 : decode prog_6_method_4_code 22 = .ok (.invokestatic 59, 3) := by decide +kernel
theorem d116_25 : decode prog_6_method_4_code 25 = .ok (.aload_n 0, 1) := by decide +kernel
theorem d116_26 : decode prog_6_method_4_code 26 = .ok (.getfield 18, 3) := by decide +kernel
theorem d116_29 : decode prog_6_method_4_code 29 = .ok (.iconst 0, 1) := by decide +kernel
theorem d116_30 : decode prog_6_method_4_code 30 = .ok (.invokestatic 45, 3) := by decide +kernel
theorem d116_33 : decode prog_6_method_4_code 33 = .ok (.aload_n 0, 1) := by decide +kernel
theorem d116_34 : decode prog_6_method_4_code 34 = .ok (.bipush 12, 2) := by decide +kernel
theorem d116_36 : decode prog_6_method_4_code 36 = .ok (.putfield 29, 3) := by decide +kernel
theorem d116_39 : decode prog_6_method_4_code 39 = .ok (.iconst 0, 1) := by decide +kernel
theorem d116_40 : decode prog_6_method_4_code 40 = .ok (.istore_n 3, 1) := by decide +kernel
theorem d116_41 : decode prog_6_method_4_code 41 = .ok (.iload_n 3, 1) := by decide +kernel
theorem d116_42 : decode prog_6_method_4_code 42 = .ok (.aload_n 1, 1) := by decide +kernel
theorem d116_43 : decode prog_6_method_4_code 43 = .ok (.getfield 65, 3) := by decide +kernel
theorem d116_46 : decode prog_6_method_4_code 46 = .ok (.if_icmp .ge 50, 3) := by decide +kernel
theorem d116_49 : decode prog_6_method_4_code 49 = .ok (.aload_n 1, 1) := by decide +kernel
theorem d116_50 : decode prog_6_method_4_code 50 = .ok (.getfield 68, 3) := by decide +kernel
theorem d116_53 : decode prog_6_method_4_code 53 = .ok (.iload_n 3, 1) := by decide +kernel
theorem d116_54 : decode prog_6_method_4_code 54 = .ok (.baload, 1) := by decide +kernel
theorem d116_55 : decode prog_6_method_4_code 55 = .ok (.ifCond .eq 35, 3) := by decide +kernel
theorem d116_58 : decode prog_6_method_4_code 58 = .ok (.aload_n 0, 1) := by decide +kernel
theorem d116_59 : decode prog_6_method_4_code 59 = .ok (.getfield 9, 3) := by decide +kernel
theorem d116_62 : decode prog_6_method_4_code 62 = .ok (.iload_n 3, 1) := by decide +kernel
theorem d116_63 : decode prog_6_method_4_code 63 = .ok (.aload_n 0, 1) := by decide +kernel
theorem d116_64 : decode prog_6_method_4_code 64 = .ok (.getfield 29, 3) := by decide +kernel
theorem d116_67 : decode prog_6_method_4_code 67 = .ok (.iastore, 1) := by decide +kernel
theorem d116_68 : decode prog_6_method_4_code 68 = .ok (.aload_n 0, 1) := by decide +kernel
theorem d116_69 : decode prog_6_method_4_code 69 = .ok (.dup, 1) := by decide +kernel
theorem d116_70 : decode prog_6_method_4_code 70 = .ok (.getfield 29, 3) := by decide +kernel
theorem d116_73 : decode prog_6_method_4_code 73 = .ok (.aload_n 2, 1) := by decide +kernel
theorem d116_74 : decode prog_6_method_4_code 74 = .ok (.iload_n 3, 1) := by decide +kernel
theorem d116_75 : decode prog_6_method_4_code 75 = .ok (.invokevirtual 38, 3) := by decide +kernel
theorem d116_78 : decode prog_6_method_4_code 78 = .ok (.iconst 1, 1) := by decide +kernel
theorem d116_79 : decode prog_6_method_4_code 79 = .ok (.isub, 1) := by decide +kernel
theorem d116_80 : decode prog_6_method_4_code 80 = .ok (.iadd, 1) := by decide +kernel
theorem d116_81 : decode prog_6_method_4_code 81 = .ok (.putfield 29, 3) := by decide +kernel
theorem d116_84 : decode prog_6_method_4_code 84 = .ok (.aload_n 0, 1) := by decide +kernel
theorem d116_85 : decode prog_6_method_4_code 85 = .ok (.aload_n 2, 1) := by decide +kernel
theorem d116_86 : decode prog_6_method_4_code 86 = .ok (.iload_n 3, 1) := by decide +kernel
theorem d116_87 : decode prog_6_method_4_code 87 = .ok (.invokevirtual 72, 3) := by decide +kernel
theorem d116_90 : decode prog_6_method_4_code 90 = .ok (.iinc 3 1, 3) := by decide +kernel
theorem d116_93 : decode prog_6_method_4_code 93 = .ok (.goto (-52), 3) := by decide +kernel
theorem d116_96 : decode prog_6_method_4_code 96 = .ok (.return_, 1) := by decide +kernel
theorem d117_0 : decode prog_6_method_5_code 0 = .ok (.aload_n 1, 1) := by decide +kernel
theorem d117_1 : decode prog_6_method_5_code 1 = .ok (.iload_n 2, 1) := by decide +kernel
theorem d117_2 : decode prog_6_method_5_code 2 = .ok (.invokevirtual 38, 3) := by decide +kernel
theorem d117_5 : decode prog_6_method_5_code 5 = .ok (.istore_n 3, 1) := by decide +kernel
theorem d117_6 : decode prog_6_method_5_code 6 = .ok (.aload_n 1, 1) := by decide +kernel
theorem d117_7 : decode prog_6_method_5_code 7 = .ok (.getfield 76, 3) := by decide +kernel
theorem d117_10 : decode prog_6_method_5_code 10 = .ok (.aload_n 1, 1) := by decide +kernel
theorem d117_11 : decode prog_6_method_5_code 11 = .ok (.getfield 33, 3) := by decide +kernel
theorem d117_14 : decode prog_6_method_5_code 14 = .ok (.iload_n 2, 1) := by decide +kernel
theorem d117_15 : decode prog_6_method_5_code 15 = .ok (.iaload, 1) := by decide +kernel
theorem d117_16 : decode prog_6_method_5_code 16 = .ok (.iaload, 1) := by decide +kernel
theorem d117_17 : decode prog_6_method_5_code 17 = .ok (.istore 4, 2) := by decide +kernel
theorem d117_19 : decode prog_6_method_5_code 19 = .ok (.iconst 0, 1) := by decide +kernel
theorem d117_20 : decode prog_6_method_5_code 20 = .ok (.istore 5, 2) := by decide +kernel
theorem d117_22 : decode prog_6_method_5_code 22 = .ok (.iload 5, 2) := by decide +kernel
theorem d117_24 : decode prog_6_method_5_code 24 = .ok (.iload_n 3, 1) := by decide +kernel
theorem d117_25 : decode prog_6_method_5_code 25 = .ok (.if_icmp .ge 75, 3) := by decide +kernel
theorem d117_28 : decode prog_6_method_5_code 28 = .ok (.iload 4, 2) := by decide +kernel
theorem d117_30 : decode prog_6_method_5_code 30 = .ok (.iload 5, 2) := by decide +kernel
theorem d117_32 : decode prog_6_method_5_code 32 = .ok (.iadd, 1) := by decide +kernel
theorem d117_33 : decode prog_6_method_5_code 33 = .ok (.istore 6, 2) := by decide +kernel
theorem d117_35 : decode prog_6_method_5_code 35 = .ok (.aload_n 0, 1) := by decide +kernel
theorem d117_36 : decode prog_6_method_5_code 36 = .ok (.getfield 23, 3) := by decide +kernel
theorem d117_39 : decode prog_6_method_5_code 39 = .ok (.iload 6, 2) := by decide +kernel
theorem d117_41 : decode prog_6_method_5_code 41 = .ok (.aaload, 1) := by decide +kernel
theorem d117_42 : decode prog_6_method_5_code 42 = .ok (.aload_n 0, 1) := by decide +kernel
theorem d117_43 : decode prog_6_method_5_code 43 = .ok (.getfield 18, 3) := by decide +kernel
theorem d117_46 : decode prog_6_method_5_code 46 = .ok (.iload 6, 2) := by decide +kernel
theorem d117_48 : decode prog_6_method_5_code 48 = .ok (.iaload, 1) := by decide +kernel
theorem d117_49 : decode prog_6_method_5_code 49 = .ok (.aload_n 0, 1) := by decide +kernel
theorem d117_50 : decode prog_6_method_5_code 50 = .ok (.aload_n 1, 1) := by decide +kernel
theorem d117_51 : decode prog_6_method_5_code 51 = .ok (.iload_n 2, 1) := by decide +kernel
theorem d117_52 : decode prog_6_method_5_code 52 = .ok (.iload 5, 2) := by decide +kernel
theorem d117_54 : decode prog_6_method_5_code 54 = .ok (.invokevirtual 79, 3) := by decide +kernel
theorem d117_57 : decode prog_6_method_5_code 57 = .ok (.iastore, 1) := by decide +kernel
theorem d117_58 : decode prog_6_method_5_code 58 = .ok (.aload_n 0, 1) := by decide +kernel
theorem d117_59 : decode prog_6_method_5_code 59 = .ok (.getfield 26, 3) := by decide +kernel
theorem d117_62 : decode prog_6_method_5_code 62 = .ok (.iload 6, 2) := by decide +kernel
theorem d117_64 : decode prog_6_method_5_code 64 = .ok (.aaload, 1) := by decide +kernel
theorem d117_65 : decode prog_6_method_5_code 65 = .ok (.aload_n 0, 1) := by decide +kernel
theorem d117_66 : decode prog_6_method_5_code 66 = .ok (.getfield 18, 3) := by decide +kernel
theorem d117_69 : decode prog_6_method_5_code 69 = .ok (.iload 6, 2) := by decide +kernel
theorem d117_71 : decode prog_6_method_5_code 71 = .ok (.iaload, 1) := by decide +kernel
theorem d117_72 : decode prog_6_method_5_code 72 = .ok (.aload_n 0, 1) := by decide +kernel
theorem d117_73 : decode prog_6_method_5_code 73 = .ok (.aload_n 1, 1) := by decide +kernel
theorem d117_74 : decode prog_6_method_5_code 74 = .ok (.iload_n 2, 1) := by decide +kernel
theorem d117_75 : decode prog_6_method_5_code 75 = .ok (.iload 5, 2) := by decide +kernel
theorem d117_77 : decode prog_6_method_5_code 77 = .ok (.iconst 1, 1) := by decide +kernel
theorem d117_78 : decode prog_6_method_5_code 78 = .ok (.iadd, 1) := by decide +kernel
theorem d117_79 : decode prog_6_method_5_code 79 = .ok (.invokevirtual 79, 3) := by decide +kernel
theorem d117_82 : decode prog_6_method_5_code 82 = .ok (.iastore, 1) := by decide +kernel
theorem d117_83 : decode prog_6_method_5_code 83 = .ok (.aload_n 0, 1) := by decide +kernel
theorem d117_84 : decode prog_6_method_5_code 84 = .ok (.getfield 18, 3) := by decide +kernel
theorem d117_87 : decode prog_6_method_5_code 87 = .ok (.iload 6, 2) := by decide +kernel
theorem d117_89 : decode prog_6_method_5_code 89 = .ok (.dup2, 1) := by decide +kernel
theorem d117_90 : decode prog_6_method_5_code 90 = .ok (.iaload, 1) := by decide +kernel
theorem d117_91 : decode prog_6_method_5_code 91 = .ok (.iconst 1, 1) := by decide +kernel
theorem d117_92 : decode prog_6_method_5_code 92 = .ok (.iadd, 1) := by decide +kernel
theorem d117_93 : decode prog_6_method_5_code 93 = .ok (.iastore, 1) := by decide +kernel
theorem d117_94 : decode prog_6_method_5_code 94 = .ok (.iinc 5 1, 3) := by decide +kernel
theorem d117_97 : decode prog_6_method_5_code 97 = .ok (.goto (-75), 3) := by decide +kernel
theorem d117_100 : decode prog_6_method_5_code 100 = .ok (.return_, 1) := by decide +kernel
theorem d118_0 : decode prog_7_method_1_code 0 = .ok (.aload_n 0, 1) := by decide +kernel
theorem d118_1 : decode prog_7_method_1_code 1 = .ok (.invokespecial 3, 3) := by decide +kernel
theorem d118_4 : decode prog_7_method_1_code 4 = .ok (.aload_n 0, 1) := by decide +kernel
theorem d118_5 : decode prog_7_method_1_code 5 = .ok (.bipush 72, 2) := by decide +kernel
theorem d118_7 : decode prog_7_method_1_code 7 = .ok (.newarray .int, 2) := by decide +kernel
theorem d118_9 : decode prog_7_method_1_code 9 = .ok (.putfield 9, 3) := by decide +kernel
theorem d118_12 : decode prog_7_method_1_code 12 = .ok (.aload_n 0, 1) := by decide +kernel
theorem d118_13 : decode prog_7_method_1_code 13 = .ok (.bipush 72, 2) := by decide +kernel
theorem d118_15 : decode prog_7_method_1_code 15 = .ok (.newarray .int, 2) := by decide +kernel
theorem d118_17 : decode prog_7_method_1_code 17 = .ok (.putfield 15, 3) := by decide +kernel
theorem d118_20 : decode prog_7_method_1_code 20 = .ok (.aload_n 0, 1) := by decide +kernel
theorem d118_21 : decode prog_7_method_1_code 21 = .ok (.bipush 72, 2) := by decide +kernel
theorem d118_23 : decode prog_7_method_1_code 23 = .ok (.newarray .int, 2) := by decide +kernel
theorem d118_25 : decode prog_7_method_1_code 25 = .ok (.putfield 18, 3) := by decide +kernel
theorem d118_28 : decode prog_7_method_1_code 28 = .ok (.aload_n 0, 1) := by decide +kernel
theorem d118_29 : decode prog_7_method_1_code 29 = .ok (.iconst 0, 1) := by decide +kernel
theorem d118_30 : decode prog_7_method_1_code 30 = .ok (.putfield 21, 3) := by decide +kernel
theorem d118_33 : decode prog_7_method_1_code 33 = .ok (.return_, 1) := by decide +kernel
theorem d119_0 : decode prog_7_method_2_code 0 = .ok (.aload_n 0, 1) := by decide +kernel
theorem d119_1 : decode prog_7_method_2_code 1 = .ok (.getfield 15, 3) := by decide +kernel
theorem d119_4 : decode prog_7_method_2_code 4 = .ok (.iconst 0, 1) := by decide +kernel
theorem d119_5 : decode prog_7_method_2_code 5 = .ok (.invokestatic 25, 3) := by decide +kernel
theorem d119_8 : decode prog_7_method_2_code 8 = .ok (.aload_n 0, 1) := by decide +kernel
theorem d119_9 : decode prog_7_method_2_code 9 = .ok (.getfield 18, 3) := by decide +kernel
theorem d119_12 : decode prog_7_method_2_code 12 = .ok (.iconst 0, 1) := by decide +kernel
theorem d119_13 : decode prog_7_method_2_code 13 = .ok (.invokestatic 25, 3) := by decide +kernel
theorem d119_16 : decode prog_7_method_2_code 16 = .ok (.aload_n 0, 1) := by decide +kernel
theorem d119_17 : decode prog_7_method_2_code 17 = .ok (.iconst 0, 1) := by decide +kernel
theorem d119_18 : decode prog_7_method_2_code 18 = .ok (.putfield 21, 3) := by decide +kernel
theorem d119_21 : decode prog_7_method_2_code 21 = .ok (.iconst 0, 1) := by decide +kernel
theorem d119_22 : decode prog_7_method_2_code 22 = .ok (.istore_n 3, 1) := by decide +kernel
theorem d119_23 : decode prog_7_method_2_code 23 = .ok (.iload_n 3, 1) := by decide +kernel
theorem d119_24 : decode prog_7_method_2_code 24 = .ok (.aload_n 2, 1) := by decide +kernel
theorem d119_25 : decode prog_7_method_2_code 25 = .ok (.getfield 31, 3) := by decide +kernel
theorem d119_28 : decode prog_7_method_2_code 28 = .ok (.if_icmp .ge 119, 3) := by decide +kernel
theorem d119_31 : decode prog_7_method_2_code 31 = .ok (.iload_n 3, 1) := by decide +kernel
theorem d119_32 : decode prog_7_method_2_code 32 = .ok (.ifCond .le 11, 3) := by decide +kernel
theorem d119_35 : decode prog_7_method_2_code 35 = .ok (.aload_n 0, 1) := by decide +kernel
theorem d119_36 : decode prog_7_method_2_code 36 = .ok (.aload_n 1, 1) := by decide +kernel
theorem d119_37 : decode prog_7_method_2_code 37 = .ok (.iload_n 3, 1) := by decide +kernel
theorem d119_38 : decode prog_7_method_2_code 38 = .ok (.iconst 1, 1) := by decide +kernel
theorem d119_39 : decode prog_7_method_2_code 39 = .ok (.isub, 1) := by decide +kernel
theorem d119_40 : decode prog_7_method_2_code 40 = .ok (.invokevirtual 36, 3) := by decide +kernel
theorem d119_43 : decode prog_7_method_2_code 43 = .ok (.iconst 0, 1) := by decide +kernel
theorem d119_44 : decode prog_7_method_2_code 44 = .ok (.istore 4, 2) := by decide +kernel
theorem d119_46 : decode prog_7_method_2_code 46 = .ok (.iconst 0, 1) := by decide +kernel
theorem d119_47 : decode prog_7_method_2_code 47 = .ok (.istore 5, 2) := by decide +kernel
theorem d119_49 : decode prog_7_method_2_code 49 = .ok (.iload 5, 2) := by decide +kernel
theorem d119_51 : decode prog_7_method_2_code 51 = .ok (.aload_n 2, 1) := by decide +kernel
theorem d119_52 : decode prog_7_method_2_code 52 = .ok (.getfield 40, 3) := by decide +kernel
theorem d119_55 : decode prog_7_method_2_code 55 = .ok (.iload_n 3, 1) := by decide +kernel
theorem d119_56 : decode prog_7_method_2_code 56 = .ok (.iaload, 1) := by decide +kernel
theorem d119_57 : decode prog_7_method_2_code 57 = .ok (.if_icmp .ge 84, 3) := by decide +kernel
theorem d119_60 : decode prog_7_method_2_code 60 = .ok (.aload_n 2, 1) := by decide +kernel
theorem d119_61 : decode prog_7_method_2_code 61 = .ok (.getfield 43, 3) := by decide +kernel
theorem d119_64 : decode prog_7_method_2_code 64 = .ok (.iload_n 3, 1) := by decide +kernel
theorem d119_65 : decode prog_7_method_2_code 65 = .ok (.aaload, 1) := by decide +kernel
theorem d119_66 : decode prog_7_method_2_code 66 = .ok (.iload 5, 2) := by decide +kernel
theorem d119_68 : decode prog_7_method_2_code 68 = .ok (.iaload, 1) := by decide +kernel
theorem d119_69 : decode prog_7_method_2_code 69 = .ok (.istore 6, 2) := by decide +kernel
theorem d119_71 : decode prog_7_method_2_code 71 = .ok (.aload_n 1, 1) := by decide +kernel
theorem d119_72 : decode prog_7_method_2_code 72 = .ok (.getfield 47, 3) := by decide +kernel
theorem d119_75 : decode prog_7_method_2_code 75 = .ok (.iload 6, 2) := by decide +kernel
theorem d119_77 : decode prog_7_method_2_code 77 = .ok (.iaload, 1) := by decide +kernel
theorem d119_78 : decode prog_7_method_2_code 78 = .ok (.istore 7, 2) := by decide +kernel
theorem d119_80 : decode prog_7_method_2_code 80 = .ok (.aload_n 0, 1) := by decide +kernel
theorem d119_81 : decode prog_7_method_2_code 81 = .ok (.getfield 9, 3) := by decide +kernel
end
section
theorem d119_84 : decode prog_7_method_2_code 84 = .ok (.iload 6, 2) := by decide +kernel
theorem d119_86 : decode prog_7_method_2_code 86 = .ok (.iload 4, 2) := by decide +kernel
theorem d119_88 : decode prog_7_method_2_code 88 = .ok (.aload_n 0, 1) := by decide +kernel
theorem d119_89 : decode prog_7_method_2_code 89 = .ok (.iload 6, 2) := by decide +kernel
theorem d119_91 : decode prog_7_method_2_code 91 = .ok (.iload 7, 2) := by decide +kernel
theorem d119_93 : decode prog_7_method_2_code 93 = .ok (.invokevirtual 52, 3) := by decide +kernel
theorem d119_96 : decode prog_7_method_2_code 96 = .ok (.invokestatic 56, 3) := by decide +kernel
theorem d119_99 : decode prog_7_method_2_code 99 = .ok (.iastore, 1) := by decide +kernel
theorem d119_100 : decode prog_7_method_2_code 100 = .ok (.aload_n 0, 1) := by decide +kernel
theorem d119_101 : decode prog_7_method_2_code 101 = .ok (.aload_n 0, 1) := by decide +kernel
theorem d119_102 : decode prog_7_method_2_code 102 = .ok (.getfield 21, 3) := by decide +kernel
theorem d119_105 : decode prog_7_method_2_code 105 = .ok (.aload_n 0, 1) := by decide +kernel
theorem d119_106 : decode prog_7_method_2_code 106 = .ok (.getfield 9, 3) := by decide +kernel
theorem d119_109 : decode prog_7_method_2_code 109 = .ok (.iload 6, 2) := by decide +kernel
theorem d119_111 : decode prog_7_method_2_code 111 = .ok (.iaload, 1) := by decide +kernel
theorem d119_112 : decode prog_7_method_2_code 112 = .ok (.iload 7, 2) := by decide +kernel
theorem d119_114 : decode prog_7_method_2_code 114 = .ok (.iadd, 1) := by decide +kernel
theorem d119_115 : decode prog_7_method_2_code 115 = .ok (.invokestatic 56, 3) := by decide +kernel
theorem d119_118 : decode prog_7_method_2_code 118 = .ok (.putfield 21, 3) := by decide +kernel
theorem d119_121 : decode prog_7_method_2_code 121 = .ok (.aload_n 0, 1) := by decide +kernel
theorem d119_122 : decode prog_7_method_2_code 122 = .ok (.getfield 9, 3) := by decide +kernel
theorem d119_125 : decode prog_7_method_2_code 125 = .ok (.iload 6, 2) := by decide +kernel
theorem d119_127 : decode prog_7_method_2_code 127 = .ok (.iaload, 1) := by decide +kernel
theorem d119_128 : decode prog_7_method_2_code 128 = .ok (.iload 7, 2) := by decide +kernel
theorem d119_130 : decode prog_7_method_2_code 130 = .ok (.iadd, 1) := by decide +kernel
theorem d119_131 : decode prog_7_method_2_code 131 = .ok (.iconst 1, 1) := by decide +kernel
theorem d119_132 : decode prog_7_method_2_code 132 = .ok (.iadd, 1) := by decide +kernel
theorem d119_133 : decode prog_7_method_2_code 133 = .ok (.istore 4, 2) := by decide +kernel
theorem d119_135 : decode prog_7_method_2_code 135 = .ok (.iinc 5 1, 3) := by decide +kernel
theorem d119_138 : decode prog_7_method_2_code 138 = .ok (.goto (-89), 3) := by decide +kernel
theorem d119_141 : decode prog_7_method_2_code 141 = .ok (.iinc 3 1, 3) := by decide +kernel
theorem d119_144 : decode prog_7_method_2_code 144 = .ok (.goto (-121), 3) := by decide +kernel
theorem d119_147 : decode prog_7_method_2_code 147 = .ok (.return_, 1) := by decide +kernel
theorem d120_0 : decode prog_7_method_3_code 0 = .ok (.iconst 0, 1) := by decide +kernel
theorem d120_1 : decode prog_7_method_3_code 1 = .ok (.istore_n 3, 1) := by decide +kernel
theorem d120_2 : decode prog_7_method_3_code 2 = .ok (.iload_n 3, 1) := by decide +kernel
theorem d120_3 : decode prog_7_method_3_code 3 = .ok (.aload_n 1, 1) := by decide +kernel
theorem d120_4 : decode prog_7_method_3_code 4 = .ok (.getfield 61, 3) := by decide +kernel
theorem d120_7 : decode prog_7_method_3_code 7 = .ok (.iload_n 2, 1) := by decide +kernel
theorem d120_8 : decode prog_7_method_3_code 8 = .ok (.iaload, 1) := by decide +kernel
theorem d120_9 : decode prog_7_method_3_code 9 = .ok (.if_icmp .ge 67, 3) := by decide +kernel
theorem d120_12 : decode prog_7_method_3_code 12 = .ok (.aload_n 1, 1) := by decide +kernel
theorem d120_13 : decode prog_7_method_3_code 13 = .ok (.getfield 64, 3) := by decide +kernel
theorem d120_16 : decode prog_7_method_3_code 16 = .ok (.iload_n 2, 1) := by decide +kernel
theorem d120_17 : decode prog_7_method_3_code 17 = .ok (.aaload, 1) := by decide +kernel
theorem d120_18 : decode prog_7_method_3_code 18 = .ok (.iload_n 3, 1) := by decide +kernel
theorem d120_19 : decode prog_7_method_3_code 19 = .ok (.iaload, 1) := by decide +kernel
theorem d120_20 : decode prog_7_method_3_code 20 = .ok (.istore 4, 2) := by decide +kernel
theorem d120_22 : decode prog_7_method_3_code 22 = .ok (.aload_n 1, 1) := by decide +kernel
theorem d120_23 : decode prog_7_method_3_code 23 = .ok (.getfield 67, 3) := by decide +kernel
theorem d120_26 : decode prog_7_method_3_code 26 = .ok (.iload_n 2, 1) := by decide +kernel
theorem d120_27 : decode prog_7_method_3_code 27 = .ok (.aaload, 1) := by decide +kernel
theorem d120_28 : decode prog_7_method_3_code 28 = .ok (.iload_n 3, 1) := by decide +kernel
theorem d120_29 : decode prog_7_method_3_code 29 = .ok (.iaload, 1) := by decide +kernel
theorem d120_30 : decode prog_7_method_3_code 30 = .ok (.istore 5, 2) := by decide +kernel
theorem d120_32 : decode prog_7_method_3_code 32 = .ok (.aload_n 0, 1) := by decide +kernel
theorem d120_33 : decode prog_7_method_3_code 33 = .ok (.getfield 15, 3) := by decide +kernel
theorem d120_36 : decode prog_7_method_3_code 36 = .ok (.iload 5, 2) := by decide +kernel
theorem d120_38 : decode prog_7_method_3_code 38 = .ok (.dup2, 1) := by decide +kernel
theorem d120_39 : decode prog_7_method_3_code 39 = .ok (.iaload, 1) := by decide +kernel
theorem d120_40 : decode prog_7_method_3_code 40 = .ok (.iconst 2, 1) := by decide +kernel
theorem d120_41 : decode prog_7_method_3_code 41 = .ok (.aload_n 0, 1) := by decide +kernel
theorem d120_42 : decode prog_7_method_3_code 42 = .ok (.getfield 9, 3) := by decide +kernel
theorem d120_45 : decode prog_7_method_3_code 45 = .ok (.iload 4, 2) := by decide +kernel
theorem d120_47 : decode prog_7_method_3_code 47 = .ok (.iaload, 1) := by decide +kernel
theorem d120_48 : decode prog_7_method_3_code 48 = .ok (.imul, 1) := by decide +kernel
theorem d120_49 : decode prog_7_method_3_code 49 = .ok (.aload_n 1, 1) := by decide +kernel
theorem d120_50 : decode prog_7_method_3_code 50 = .ok (.getfield 47, 3) := by decide +kernel
theorem d120_53 : decode prog_7_method_3_code 53 = .ok (.iload 4, 2) := by decide +kernel
theorem d120_55 : decode prog_7_method_3_code 55 = .ok (.iaload, 1) := by decide +kernel
theorem d120_56 : decode prog_7_method_3_code 56 = .ok (.iadd, 1) := by decide +kernel
theorem d120_57 : decode prog_7_method_3_code 57 = .ok (.iadd, 1) := by decide +kernel
theorem d120_58 : decode prog_7_method_3_code 58 = .ok (.iastore, 1) := by decide +kernel
theorem d120_59 : decode prog_7_method_3_code 59 = .ok (.aload_n 0, 1) := by decide +kernel
theorem d120_60 : decode prog_7_method_3_code 60 = .ok (.getfield 18, 3) := by decide +kernel
theorem d120_63 : decode prog_7_method_3_code 63 = .ok (.iload 5, 2) := by decide +kernel
theorem d120_65 : decode prog_7_method_3_code 65 = .ok (.dup2, 1) := by decide +kernel
theorem d120_66 : decode prog_7_method_3_code 66 = .ok (.iaload, 1) := by decide +kernel
theorem d120_67 : decode prog_7_method_3_code 67 = .ok (.iconst 1, 1) := by decide +kernel
theorem d120_68 : decode prog_7_method_3_code 68 = .ok (.iadd, 1) := by decide +kernel
theorem d120_69 : decode prog_7_method_3_code 69 = .ok (.iastore, 1) := by decide +kernel
theorem d120_70 : decode prog_7_method_3_code 70 = .ok (.iinc 3 1, 3) := by decide +kernel
theorem d120_73 : decode prog_7_method_3_code 73 = .ok (.goto (-71), 3) := by decide +kernel
theorem d120_76 : decode prog_7_method_3_code 76 = .ok (.return_, 1) := by decide +kernel
theorem d121_0 : decode prog_7_method_4_code 0 = .ok (.aload_n 0, 1) := by decide +kernel
theorem d121_1 : decode prog_7_method_4_code 1 = .ok (.getfield 18, 3) := by decide +kernel
theorem d121_4 : decode prog_7_method_4_code 4 = .ok (.iload_n 1, 1) := by decide +kernel
theorem d121_5 : decode prog_7_method_4_code 5 = .ok (.iaload, 1) := by decide +kernel
theorem d121_6 : decode prog_7_method_4_code 6 = .ok (.ifCond .ne 5, 3) := by decide +kernel
theorem d121_9 : decode prog_7_method_4_code 9 = .ok (.iconst 0, 1) := by decide +kernel
theorem d121_10 : decode prog_7_method_4_code 10 = .ok (.ireturn, 1) := by decide +kernel
theorem d121_11 : decode prog_7_method_4_code 11 = .ok (.aload_n 0, 1) := by decide +kernel
theorem d121_12 : decode prog_7_method_4_code 12 = .ok (.getfield 15, 3) := by decide +kernel
theorem d121_15 : decode prog_7_method_4_code 15 = .ok (.iload_n 1, 1) := by decide +kernel
theorem d121_16 : decode prog_7_method_4_code 16 = .ok (.iaload, 1) := by decide +kernel
theorem d121_17 : decode prog_7_method_4_code 17 = .ok (.iconst 2, 1) := by decide +kernel
theorem d121_18 : decode prog_7_method_4_code 18 = .ok (.aload_n 0, 1) := by decide +kernel
theorem d121_19 : decode prog_7_method_4_code 19 = .ok (.getfield 18, 3) := by decide +kernel
theorem d121_22 : decode prog_7_method_4_code 22 = .ok (.iload_n 1, 1) := by decide +kernel
theorem d121_23 : decode prog_7_method_4_code 23 = .ok (.iaload, 1) := by decide +kernel
theorem d121_24 : decode prog_7_method_4_code 24 = .ok (.imul, 1) := by decide +kernel
theorem d121_25 : decode prog_7_method_4_code 25 = .ok (.idiv, 1) := by decide +kernel
theorem d121_26 : decode prog_7_method_4_code 26 = .ok (.iload_n 2, 1) := by decide +kernel
theorem d121_27 : decode prog_7_method_4_code 27 = .ok (.iconst 2, 1) := by decide +kernel
theorem d121_28 : decode prog_7_method_4_code 28 = .ok (.idiv, 1) := by decide +kernel
theorem d121_29 : decode prog_7_method_4_code 29 = .ok (.isub, 1) := by decide +kernel
theorem d121_30 : decode prog_7_method_4_code 30 = .ok (.ireturn, 1) := by decide +kernel
theorem d122_0 : decode prog_8_method_1_code 0 = .ok (.aload_n 0, 1) := by decide +kernel
theorem d122_1 : decode prog_8_method_1_code 1 = .ok (.invokespecial 3, 3) := by decide +kernel
theorem d122_4 : decode prog_8_method_1_code 4 = .ok (.aload_n 0, 1) := by decide +kernel
theorem d122_5 : decode prog_8_method_1_code 5 = .ok (.bipush 12, 2) := by decide +kernel
theorem d122_7 : decode prog_8_method_1_code 7 = .ok (.newarray .int, 2) := by decide +kernel
theorem d122_9 : decode prog_8_method_1_code 9 = .ok (.putfield 9, 3) := by decide +kernel
theorem d122_12 : decode prog_8_method_1_code 12 = .ok (.aload_n 0, 1) := by decide +kernel
theorem d122_13 : decode prog_8_method_1_code 13 = .ok (.bipush 12, 2) := by decide +kernel
theorem d122_15 : decode prog_8_method_1_code 15 = .ok (.newarray .int, 2) := by decide +kernel
theorem d122_17 : decode prog_8_method_1_code 17 = .ok (.putfield 15, 3) := by decide +kernel
theorem d122_20 : decode prog_8_method_1_code 20 = .ok (.aload_n 0, 1) := by decide +kernel
theorem d122_21 : decode prog_8_method_1_code 21 = .ok (.bipush 12, 2) := by decide +kernel
theorem d122_23 : decode prog_8_method_1_code 23 = .ok (.newarray .int, 2) := by decide +kernel
theorem d122_25 : decode prog_8_method_1_code 25 = .ok (.putfield 18, 3) := by decide +kernel
theorem d122_28 : decode prog_8_method_1_code 28 = .ok (.aload_n 0, 1) := by decide +kernel
theorem d122_29 : decode prog_8_method_1_code 29 = .ok (.bipush 12, 2) := by decide +kernel
theorem d122_31 : decode prog_8_method_1_code 31 = .ok (.newarray .int, 2) := by decide +kernel
theorem d122_33 : decode prog_8_method_1_code 33 = .ok (.putfield 21, 3) := by decide +kernel
theorem d122_36 : decode prog_8_method_1_code 36 = .ok (.return_, 1) := by decide +kernel
theorem d123_0 : decode prog_8_method_2_code 0 = .ok (.aload_n 0, 1) := by decide +kernel
theorem d123_1 : decode prog_8_method_2_code 1 = .ok (.getfield 15, 3) := by decide +kernel
theorem d123_4 : decode prog_8_method_2_code 4 = .ok (.iconst (-1), 1) := by decide +kernel
theorem d123_5 : decode prog_8_method_2_code 5 = .ok (.invokestatic 24, 3) := by decide +kernel
theorem d123_8 : decode prog_8_method_2_code 8 = .ok (.iconst 0, 1) := by decide +kernel
theorem d123_9 : decode prog_8_method_2_code 9 = .ok (.istore_n 2, 1) := by decide +kernel
theorem d123_10 : decode prog_8_method_2_code 10 = .ok (.iload_n 2, 1) := by decide +kernel
theorem d123_11 : decode prog_8_method_2_code 11 = .ok (.aload_n 1, 1) := by decide +kernel
theorem d123_12 : decode prog_8_method_2_code 12 = .ok (.getfield 30, 3) := by decide +kernel
theorem d123_15 : decode prog_8_method_2_code 15 = .ok (.if_icmp .ge 49, 3) := by decide +kernel
theorem d123_18 : decode prog_8_method_2_code 18 = .ok (.aload_n 1, 1) := by decide +kernel
theorem d123_19 : decode prog_8_method_2_code 19 = .ok (.getfield 36, 3) := by decide +kernel
theorem d123_22 : decode prog_8_method_2_code 22 = .ok (.iload_n 2, 1) := by decide +kernel
theorem d123_23 : decode prog_8_method_2_code 23 = .ok (.baload, 1) := by decide +kernel
theorem d123_24 : decode prog_8_method_2_code 24 = .ok (.ifCond .eq 34, 3) := by decide +kernel
theorem d123_27 : decode prog_8_method_2_code 27 = .ok (.aload_n 1, 1) := by decide +kernel
theorem d123_28 : decode prog_8_method_2_code 28 = .ok (.getfield 40, 3) := by decide +kernel
theorem d123_31 : decode prog_8_method_2_code 31 = .ok (.iload_n 2, 1) := by decide +kernel
theorem d123_32 : decode prog_8_method_2_code 32 = .ok (.iaload, 1) := by decide +kernel
theorem d123_33 : decode prog_8_method_2_code 33 = .ok (.istore_n 3, 1) := by decide +kernel
theorem d123_34 : decode prog_8_method_2_code 34 = .ok (.aload_n 0, 1) := by decide +kernel
theorem d123_35 : decode prog_8_method_2_code 35 = .ok (.getfield 15, 3) := by decide +kernel
theorem d123_38 : decode prog_8_method_2_code 38 = .ok (.iload_n 3, 1) := by decide +kernel
theorem d123_39 : decode prog_8_method_2_code 39 = .ok (.iaload, 1) := by decide +kernel
theorem d123_40 : decode prog_8_method_2_code 40 = .ok (.iconst (-1), 1) := by decide +kernel
theorem d123_41 : decode prog_8_method_2_code 41 = .ok (.if_icmp .eq 5, 3) := by decide +kernel
theorem d123_44 : decode prog_8_method_2_code 44 = .ok (.iconst 0, 1) := by decide +kernel
theorem d123_45 : decode prog_8_method_2_code 45 = .ok (.ireturn, 1) := by decide +kernel
theorem d123_46 : decode prog_8_method_2_code 46 = .ok (.aload_n 0, 1) := by decide +kernel
theorem d123_47 : decode prog_8_method_2_code 47 = .ok (.getfield 15, 3) := by decide +kernel
theorem d123_50 : decode prog_8_method_2_code 50 = .ok (.iload_n 3, 1) := by decide +kernel
theorem d123_51 : decode prog_8_method_2_code 51 = .ok (.aload_n 1, 1) := by decide +kernel
theorem d123_52 : decode prog_8_method_2_code 52 = .ok (.getfield 43, 3) := by decide +kernel
theorem d123_55 : decode prog_8_method_2_code 55 = .ok (.iload_n 2, 1) := by decide +kernel
theorem d123_56 : decode prog_8_method_2_code 56 = .ok (.iaload, 1) := by decide +kernel
theorem d123_57 : decode prog_8_method_2_code 57 = .ok (.iastore, 1) := by decide +kernel
theorem d123_58 : decode prog_8_method_2_code 58 = .ok (.iinc 2 1, 3) := by decide +kernel
theorem d123_61 : decode prog_8_method_2_code 61 = .ok (.goto (-51), 3) := by decide +kernel
theorem d123_64 : decode prog_8_method_2_code 64 = .ok (.aload_n 1, 1) := by decide +kernel
theorem d123_65 : decode prog_8_method_2_code 65 = .ok (.getfield 46, 3) := by decide +kernel
theorem d123_68 : decode prog_8_method_2_code 68 = .ok (.aload_n 1, 1) := by decide +kernel
theorem d123_69 : decode prog_8_method_2_code 69 = .ok (.getfield 49, 3) := by decide +kernel
theorem d123_72 : decode prog_8_method_2_code 72 = .ok (.iconst 1, 1) := by decide +kernel
theorem d123_73 : decode prog_8_method_2_code 73 = .ok (.isub, 1) := by decide +kernel
theorem d123_74 : decode prog_8_method_2_code 74 = .ok (.if_icmp .ne 7, 3) := by decide +kernel
theorem d123_77 : decode prog_8_method_2_code 77 = .ok (.iconst 1, 1) := by decide +kernel
theorem d123_78 : decode prog_8_method_2_code 78 = .ok (.goto 4, 3) := by decide +kernel
theorem d123_81 : decode prog_8_method_2_code 81 = .ok (.iconst 0, 1) := by decide +kernel
theorem d123_82 : decode prog_8_method_2_code 82 = .ok (.ireturn, 1) := by decide +kernel
theorem d124_0 : decode prog_8_method_3_code 0 = .ok (.iconst 0, 1) := by decide +kernel
theorem d124_1 : decode prog_8_method_3_code 1 = .ok (.istore_n 2, 1) := by decide +kernel
theorem d124_2 : decode prog_8_method_3_code 2 = .ok (.iload_n 2, 1) := by decide +kernel
theorem d124_3 : decode prog_8_method_3_code 3 = .ok (.aload_n 1, 1) := by decide +kernel
theorem d124_4 : decode prog_8_method_3_code 4 = .ok (.getfield 49, 3) := by decide +kernel
theorem d124_7 : decode prog_8_method_3_code 7 = .ok (.if_icmp .ge 20, 3) := by decide +kernel
theorem d124_10 : decode prog_8_method_3_code 10 = .ok (.aload_n 0, 1) := by decide +kernel
theorem d124_11 : decode prog_8_method_3_code 11 = .ok (.getfield 18, 3) := by decide +kernel
theorem d124_14 : decode prog_8_method_3_code 14 = .ok (.iload_n 2, 1) := by decide +kernel
theorem d124_15 : decode prog_8_method_3_code 15 = .ok (.aload_n 0, 1) := by decide +kernel
theorem d124_16 : decode prog_8_method_3_code 16 = .ok (.iload_n 2, 1) := by decide +kernel
theorem d124_17 : decode prog_8_method_3_code 17 = .ok (.invokevirtual 52, 3) := by decide +kernel
theorem d124_20 : decode prog_8_method_3_code 20 = .ok (.iastore, 1) := by decide +kernel
theorem d124_21 : decode prog_8_method_3_code 21 = .ok (.iinc 2 1, 3) := by decide +kernel
theorem d124_24 : decode prog_8_method_3_code 24 = .ok (.goto (-22), 3) := by decide +kernel
theorem d124_27 : decode prog_8_method_3_code 27 = .ok (.aload_n 1, 1) := by decide +kernel
theorem d124_28 : decode prog_8_method_3_code 28 = .ok (.getfield 49, 3) := by decide +kernel
theorem d124_31 : decode prog_8_method_3_code 31 = .ok (.iconst 1, 1) := by decide +kernel
theorem d124_32 : decode prog_8_method_3_code 32 = .ok (.isub, 1) := by decide +kernel
theorem d124_33 : decode prog_8_method_3_code 33 = .ok (.istore_n 2, 1) := by decide +kernel
theorem d124_34 : decode prog_8_method_3_code 34 = .ok (.iload_n 2, 1) := by decide +kernel
theorem d124_35 : decode prog_8_method_3_code 35 = .ok (.ifCond .lt 41, 3) := by decide +kernel
theorem d124_38 : decode prog_8_method_3_code 38 = .ok (.iconst 0, 1) := by decide +kernel
theorem d124_39 : decode prog_8_method_3_code 39 = .ok (.istore_n 3, 1) := by decide +kernel
theorem d124_40 : decode prog_8_method_3_code 40 = .ok (.iload_n 3, 1) := by decide +kernel
theorem d124_41 : decode prog_8_method_3_code 41 = .ok (.aload_n 1, 1) := by decide +kernel
theorem d124_42 : decode prog_8_method_3_code 42 = .ok (.getfield 49, 3) := by decide +kernel
theorem d124_45 : decode prog_8_method_3_code 45 = .ok (.if_icmp .ge 25, 3) := by decide +kernel
theorem d124_48 : decode prog_8_method_3_code 48 = .ok (.aload_n 0, 1) := by decide +kernel
theorem d124_49 : decode prog_8_method_3_code 49 = .ok (.getfield 18, 3) := by decide +kernel
theorem d124_52 : decode prog_8_method_3_code 52 = .ok (.iload_n 3, 1) := by decide +kernel
theorem d124_53 : decode prog_8_method_3_code 53 = .ok (.iaload, 1) := by decide +kernel
theorem d124_54 : decode prog_8_method_3_code 54 = .ok (.iload_n 2, 1) := by decide +kernel
theorem d124_55 : decode prog_8_method_3_code 55 = .ok (.if_icmp .ne 9, 3) := by decide +kernel
theorem d124_58 : decode prog_8_method_3_code 58 = .ok (.aload_n 0, 1) := by decide +kernel
theorem d124_59 : decode prog_8_method_3_code 59 = .ok (.aload_n 1, 1) := by decide +kernel
theorem d124_60 : decode prog_8_method_3_code 60 = .ok (.iload_n 3, 1) := by decide +kernel
theorem d124_61 : decode prog_8_method_3_code 61 = .ok (.invokevirtual 56, 3) := by decide +kernel
theorem d124_64 : decode prog_8_method_3_code 64 = .ok (.iinc 3 1, 3) := by decide +kernel
theorem d124_67 : decode prog_8_method_3_code 67 = .ok (.goto (-27), 3) := by decide +kernel
theorem d124_70 : decode prog_8_method_3_code 70 = .ok (.iinc 2 (-1), 3) := by decide +kernel
theorem d124_73 : decode prog_8_method_3_code 73 = .ok (.goto (-39), 3) := by decide +kernel
theorem d124_76 : decode prog_8_method_3_code 76 = .ok (.iconst 1, 1) := by decide +kernel
theorem d124_77 : decode prog_8_method_3_code 77 = .ok (.aload_n 1, 1) := by decide +kernel
theorem d124_78 : decode prog_8_method_3_code 78 = .ok (.getfield 49, 3) := by decide +kernel
theorem d124_81 : decode prog_8_method_3_code 81 = .ok (.ishl, 1) := by decide +kernel
theorem d124_82 : decode prog_8_method_3_code 82 = .ok (.iconst 1, 1) := by decide +kernel
theorem d124_83 : decode prog_8_method_3_code 83 = .ok (.isub, 1) := by decide +kernel
theorem d124_84 : decode prog_8_method_3_code 84 = .ok (.istore_n 2, 1) := by decide +kernel
theorem d124_85 : decode prog_8_method_3_code 85 = .ok (.aload_n 0, 1) := by decide +kernel
theorem d124_86 : decode prog_8_method_3_code 86 = .ok (.iload_n 2, 1) := by decide +kernel
theorem d124_87 : decode prog_8_method_3_code 87 = .ok (.aload_n 0, 1) := by decide +kernel
theorem d124_88 : decode prog_8_method_3_code 88 = .ok (.aload_n 1, 1) := by decide +kernel
theorem d124_89 : decode prog_8_method_3_code 89 = .ok (.iconst 0, 1) := by decide +kernel
theorem d124_90 : decode prog_8_method_3_code 90 = .ok (.iload_n 2, 1) := by decide +kernel
theorem d124_91 : decode prog_8_method_3_code 91 = .ok (.invokevirtual 60, 3) := by decide +kernel
theorem d124_94 : decode prog_8_method_3_code 94 = .ok (.invokevirtual 64, 3) := by decide +kernel
theorem d124_97 : decode prog_8_method_3_code 97 = .ok (.return_, 1) := by decide +kernel
theorem d125_0 : decode prog_8_method_4_code 0 = .ok (.iconst 0, 1) := by decide +kernel
theorem d125_1 : decode prog_8_method_4_code 1 = .ok (.istore_n 2, 1) := by decide +kernel
theorem d125_2 : decode prog_8_method_4_code 2 = .ok (.aload_n 0, 1) := by decide +kernel
theorem d125_3 : decode prog_8_method_4_code 3 = .ok (.getfield 15, 3) := by decide +kernel
theorem d125_6 : decode prog_8_method_4_code 6 = .ok (.iload_n 1, 1) := by decide +kernel
theorem d125_7 : decode prog_8_method_4_code 7 = .ok (.iaload, 1) := by decide +kernel
theorem d125_8 : decode prog_8_method_4_code 8 = .ok (.istore_n 3, 1) := by decide +kernel
theorem d125_9 : decode prog_8_method_4_code 9 = .ok (.iload_n 3, 1) := by decide +kernel
theorem d125_10 : decode prog_8_method_4_code 10 = .ok (.iconst (-1), 1) := by decide +kernel
theorem d125_11 : decode prog_8_method_4_code 11 = .ok (.if_icmp .eq 22, 3) := by decide +kernel
theorem d125_14 : decode prog_8_method_4_code 14 = .ok (.iload_n 2, 1) := by decide +kernel
theorem d125_15 : decode prog_8_method_4_code 15 = .ok (.bipush 12, 2) := by decide +kernel
theorem d125_17 : decode prog_8_method_4_code 17 = .ok (.if_icmp .ge 16, 3) := by decide +kernel
theorem d125_20 : decode prog_8_method_4_code 20 = .ok (.aload_n 0, 1) := by decide +kernel
theorem d125_21 : decode prog_8_method_4_code 21 = .ok (.getfield 15, 3) := by decide +kernel
theorem d125_24 : decode prog_8_method_4_code 24 = .ok (.iload_n 3, 1) := by decide +kernel
theorem d125_25 : decode prog_8_method_4_code 25 = .ok (.iaload, 1) := by decide +kernel
theorem d125_26 : decode prog_8_method_4_code 26 = .ok (.istore_n 3, 1) := by decide +kernel
theorem d125_27 : decode prog_8_method_4_code 27 = .ok (.iinc 2 1, 3) := by decide +kernel
theorem d125_30 : decode prog_8_method_4_code 30 = .ok (.goto (-21), 3) := by decide +kernel
theorem d125_33 : decode prog_8_method_4_code 33 = .ok (.iload_n 2, 1) := by decide +kernel
theorem d125_34 : decode prog_8_method_4_code 34 = .ok (.ireturn, 1) := by decide +kernel
theorem d126_0 : decode prog_8_method_5_code 0 = .ok (.iconst 0, 1) := by decide +kernel
theorem d126_1 : decode prog_8_method_5_code 1 = .ok (.istore_n 3, 1) := by decide +kernel
theorem d126_2 : decode prog_8_method_5_code 2 = .ok (.iconst (-1), 1) := by decide +kernel
theorem d126_3 : decode prog_8_method_5_code 3 = .ok (.istore 4, 2) := by decide +kernel
theorem d126_5 : decode prog_8_method_5_code 5 = .ok (.iconst (-1), 1) := by decide +kernel
theorem d126_6 : decode prog_8_method_5_code 6 = .ok (.istore 5, 2) := by decide +kernel
theorem d126_8 : decode prog_8_method_5_code 8 = .ok (.iconst 0, 1) := by decide +kernel
theorem d126_9 : decode prog_8_method_5_code 9 = .ok (.istore 6, 2) := by decide +kernel
theorem d126_11 : decode prog_8_method_5_code 11 = .ok (.iload 6, 2) := by decide +kernel
theorem d126_13 : decode prog_8_method_5_code 13 = .ok (.aload_n 1, 1) := by decide +kernel
theorem d126_14 : decode prog_8_method_5_code 14 = .ok (.getfield 30, 3) := by decide +kernel
theorem d126_17 : decode prog_8_method_5_code 17 = .ok (.if_icmp .ge 88, 3) := by decide +kernel
theorem d126_20 : decode prog_8_method_5_code 20 = .ok (.aload_n 1, 1) := by decide +kernel
theorem d126_21 : decode prog_8_method_5_code 21 = .ok (.getfield 36, 3) := by decide +kernel
theorem d126_24 : decode prog_8_method_5_code 24 = .ok (.iload 6, 2) := by decide +kernel
theorem d126_26 : decode prog_8_method_5_code 26 = .ok (.baload, 1) := by decide +kernel
theorem d126_27 : decode prog_8_method_5_code 27 = .ok (.ifCond .eq 72, 3) := by decide +kernel
theorem d126_30 : decode prog_8_method_5_code 30 = .ok (.aload_n 1, 1) := by decide +kernel
theorem d126_31 : decode prog_8_method_5_code 31 = .ok (.getfield 43, 3) := by decide +kernel
theorem d126_34 : decode prog_8_method_5_code 34 = .ok (.iload 6, 2) := by decide +kernel
theorem d126_36 : decode prog_8_method_5_code 36 = .ok (.iaload, 1) := by decide +kernel
theorem d126_37 : decode prog_8_method_5_code 37 = .ok (.iload_n 2, 1) := by decide +kernel
theorem d126_38 : decode prog_8_method_5_code 38 = .ok (.if_icmp .ne 61, 3) := by decide +kernel
theorem d126_41 : decode prog_8_method_5_code 41 = .ok (.aload_n 1, 1) := by decide +kernel
theorem d126_42 : decode prog_8_method_5_code 42 = .ok (.getfield 40, 3) := by decide +kernel
theorem d126_45 : decode prog_8_method_5_code 45 = .ok (.iload 6, 2) := by decide +kernel
theorem d126_47 : decode prog_8_method_5_code 47 = .ok (.iaload, 1) := by decide +kernel
theorem d126_48 : decode prog_8_method_5_code 48 = .ok (.istore 5, 2) := by decide +kernel
theorem d126_50 : decode prog_8_method_5_code 50 = .ok (.iload 4, 2) := by decide +kernel
theorem d126_52 : decode prog_8_method_5_code 52 = .ok (.iconst (-1), 1) := by decide +kernel
theorem d126_53 : decode prog_8_method_5_code 53 = .ok (.if_icmp .ne 8, 3) := by decide +kernel
theorem d126_56 : decode prog_8_method_5_code 56 = .ok (.iload 5, 2) := by decide +kernel
theorem d126_58 : decode prog_8_method_5_code 58 = .ok (.goto 5, 3) := by decide +kernel
theorem d126_61 : decode prog_8_method_5_code 61 = .ok (.iload 4, 2) := by decide +kernel
theorem d126_63 : decode prog_8_method_5_code 63 = .ok (.istore 4, 2) := by decide +kernel
theorem d126_65 : decode prog_8_method_5_code 65 = .ok (.aload_n 0, 1) := by decide +kernel
theorem d126_66 : decode prog_8_method_5_code 66 = .ok (.aload_n 0, 1) := by decide +kernel
theorem d126_67 : decode prog_8_method_5_code 67 = .ok (.getfield 21, 3) := by decide +kernel
theorem d126_70 : decode prog_8_method_5_code 70 = .ok (.iload 5, 2) := by decide +kernel
theorem d126_72 : decode prog_8_method_5_code 72 = .ok (.iaload, 1) := by decide +kernel
theorem d126_73 : decode prog_8_method_5_code 73 = .ok (.aload_n 0, 1) := by decide +kernel
theorem d126_74 : decode prog_8_method_5_code 74 = .ok (.aload_n 1, 1) := by decide +kernel
theorem d126_75 : decode prog_8_method_5_code 75 = .ok (.iload_n 3, 1) := by decide +kernel
theorem d126_76 : decode prog_8_method_5_code 76 = .ok (.aload_n 0, 1) := by decide +kernel
theorem d126_77 : decode prog_8_method_5_code 77 = .ok (.getfield 21, 3) := by decide +kernel
theorem d126_80 : decode prog_8_method_5_code 80 = .ok (.iload 5, 2) := by decide +kernel
theorem d126_82 : decode prog_8_method_5_code 82 = .ok (.iaload, 1) := by decide +kernel
theorem d126_83 : decode prog_8_method_5_code 83 = .ok (.invokevirtual 60, 3) := by decide +kernel
theorem d126_86 : decode prog_8_method_5_code 86 = .ok (.invokevirtual 64, 3) := by decide +kernel
theorem d126_89 : decode prog_8_method_5_code 89 = .ok (.iload_n 3, 1) := by decide +kernel
theorem d126_90 : decode prog_8_method_5_code 90 = .ok (.aload_n 0, 1) := by decide +kernel
theorem d126_91 : decode prog_8_method_5_code 91 = .ok (.getfield 21, 3) := by decide +kernel
theorem d126_94 : decode prog_8_method_5_code 94 = .ok (.iload 5, 2) := by decide +kernel
theorem d126_96 : decode prog_8_method_5_code 96 = .ok (.iaload, 1) := by decide +kernel
theorem d126_97 : decode prog_8_method_5_code 97 = .ok (.ior, 1) := by decide +kernel
theorem d126_98 : decode prog_8_method_5_code 98 = .ok (.istore_n 3, 1) := by decide +kernel
theorem d126_99 : decode prog_8_method_5_code 99 = .ok (.iinc 6 1, 3) := by decide +kernel
theorem d126_102 : decode prog_8_method_5_code 102 = .ok (.goto (-91), 3) := by decide +kernel
theorem d126_105 : decode prog_8_method_5_code 105 = .ok (.aload_n 0, 1) := by decide +kernel
theorem d126_106 : decode prog_8_method_5_code 106 = .ok (.getfield 21, 3) := by decide +kernel
theorem d126_109 : decode prog_8_method_5_code 109 = .ok (.iload_n 2, 1) := by decide +kernel
theorem d126_110 : decode prog_8_method_5_code 110 = .ok (.iload_n 3, 1) := by decide +kernel
theorem d126_111 : decode prog_8_method_5_code 111 = .ok (.iconst 1, 1) := by decide +kernel
theorem d126_112 : decode prog_8_method_5_code 112 = .ok (.iload_n 2, 1) := by decide +kernel
theorem d126_113 : decode prog_8_method_5_code 113 = .ok (.ishl, 1) := by decide +kernel
theorem d126_114 : decode prog_8_method_5_code 114 = .ok (.ior, 1) := by decide +kernel
theorem d126_115 : decode prog_8_method_5_code 115 = .ok (.iastore, 1) := by decide +kernel
theorem d126_116 : decode prog_8_method_5_code 116 = .ok (.aload_n 0, 1) := by decide +kernel
theorem d126_117 : decode prog_8_method_5_code 117 = .ok (.getfield 9, 3) := by decide +kernel
theorem d126_120 : decode prog_8_method_5_code 120 = .ok (.iload_n 2, 1) := by decide +kernel
theorem d126_121 : decode prog_8_method_5_code 121 = .ok (.iconst 0, 1) := by decide +kernel
theorem d126_122 : decode prog_8_method_5_code 122 = .ok (.iastore, 1) := by decide +kernel
theorem d126_123 : decode prog_8_method_5_code 123 = .ok (.iload 4, 2) := by decide +kernel
theorem d126_125 : decode prog_8_method_5_code 125 = .ok (.iconst (-1), 1) := by decide +kernel
theorem d126_126 : decode prog_8_method_5_code 126 = .ok (.if_icmp .eq 41, 3) := by decide +kernel
theorem d126_129 : decode prog_8_method_5_code 129 = .ok (.aload_n 0, 1) := by decide +kernel
theorem d126_130 : decode prog_8_method_5_code 130 = .ok (.aload_n 1, 1) := by decide +kernel
theorem d126_131 : decode prog_8_method_5_code 131 = .ok (.iload 4, 2) := by decide +kernel
theorem d126_133 : decode prog_8_method_5_code 133 = .ok (.invokevirtual 68, 3) := by decide +kernel
theorem d126_136 : decode prog_8_method_5_code 136 = .ok (.aload_n 0, 1) := by decide +kernel
theorem d126_137 : decode prog_8_method_5_code 137 = .ok (.aload_n 1, 1) := by decide +kernel
theorem d126_138 : decode prog_8_method_5_code 138 = .ok (.iload 5, 2) := by decide +kernel
theorem d126_140 : decode prog_8_method_5_code 140 = .ok (.invokevirtual 68, 3) := by decide +kernel
theorem d126_143 : decode prog_8_method_5_code 143 = .ok (.iadd, 1) := by decide +kernel
theorem d126_144 : decode prog_8_method_5_code 144 = .ok (.istore 6, 2) := by decide +kernel
theorem d126_146 : decode prog_8_method_5_code 146 = .ok (.aload_n 0, 1) := by decide +kernel
theorem d126_147 : decode prog_8_method_5_code 147 = .ok (.getfield 9, 3) := by decide +kernel
theorem d126_150 : decode prog_8_method_5_code 150 = .ok (.iload_n 2, 1) := by decide +kernel
theorem d126_151 : decode prog_8_method_5_code 151 = .ok (.iload 6, 2) := by decide +kernel
theorem d126_153 : decode prog_8_method_5_code 153 = .ok (.iconst 4, 1) := by decide +kernel
theorem d126_154 : decode prog_8_method_5_code 154 = .ok (.invokestatic 72, 3) := by decide +kernel
theorem d126_157 : decode prog_8_method_5_code 157 = .ok (.aload_n 1, 1) := by decide +kernel
theorem d126_158 : decode prog_8_method_5_code 158 = .ok (.getfield 78, 3) := by decide +kernel
theorem d126_161 : decode prog_8_method_5_code 161 = .ok (.iload_n 2, 1) := by decide +kernel
theorem d126_162 : decode prog_8_method_5_code 162 = .ok (.iaload, 1) := by decide +kernel
theorem d126_163 : decode prog_8_method_5_code 163 = .ok (.iconst 2, 1) := by decide +kernel
theorem d126_164 : decode prog_8_method_5_code 164 = .ok (.idiv, 1) := by decide +kernel
theorem d126_165 : decode prog_8_method_5_code 165 = .ok (.isub, 1) := by decide +kernel
theorem d126_166 : decode prog_8_method_5_code 166 = .ok (.iastore, 1) := by decide +kernel
theorem d126_167 : decode prog_8_method_5_code 167 = .ok (.return_, 1) := by decide +kernel
theorem d127_0 : decode prog_8_method_6_code 0 = .ok (.iconst 2, 1) := by decide +kernel
theorem d127_1 : decode prog_8_method_6_code 1 = .ok (.aload_n 0, 1) := by decide +kernel
theorem d127_2 : decode prog_8_method_6_code 2 = .ok (.getfield 9, 3) := by decide +kernel
theorem d127_5 : decode prog_8_method_6_code 5 = .ok (.iload_n 2, 1) := by decide +kernel
theorem d127_6 : decode prog_8_method_6_code 6 = .ok (.iaload, 1) := by decide +kernel
theorem d127_7 : decode prog_8_method_6_code 7 = .ok (.imul, 1) := by decide +kernel
theorem d127_8 : decode prog_8_method_6_code 8 = .ok (.aload_n 1, 1) := by decide +kernel
theorem d127_9 : decode prog_8_method_6_code 9 = .ok (.getfield 78, 3) := by decide +kernel
theorem d127_12 : decode prog_8_method_6_code 12 = .ok (.iload_n 2, 1) := by decide +kernel
theorem d127_13 : decode prog_8_method_6_code 13 = .ok (.iaload, 1) := by decide +kernel
theorem d127_14 : decode prog_8_method_6_code 14 = .ok (.iadd, 1) := by decide +kernel
theorem d127_15 : decode prog_8_method_6_code 15 = .ok (.ireturn, 1) := by decide +kernel
theorem d128_0 : decode prog_8_method_7_code 0 = .ok (.aload_n 0, 1) := by decide +kernel
theorem d128_1 : decode prog_8_method_7_code 1 = .ok (.aload_n 1, 1) := by decide +kernel
theorem d128_2 : decode prog_8_method_7_code 2 = .ok (.getfield 49, 3) := by decide +kernel
theorem d128_5 : decode prog_8_method_7_code 5 = .ok (.iload_n 3, 1) := by decide +kernel
theorem d128_6 : decode prog_8_method_7_code 6 = .ok (.invokevirtual 81, 3) := by decide +kernel
theorem d128_9 : decode prog_8_method_7_code 9 = .ok (.ineg, 1) := by decide +kernel
theorem d128_10 : decode prog_8_method_7_code 10 = .ok (.istore 4, 2) := by decide +kernel
theorem d128_12 : decode prog_8_method_7_code 12 = .ok (.iconst 0, 1) := by decide +kernel
theorem d128_13 : decode prog_8_method_7_code 13 = .ok (.istore 5, 2) := by decide +kernel
theorem d128_15 : decode prog_8_method_7_code 15 = .ok (.iload 5, 2) := by decide +kernel
theorem d128_17 : decode prog_8_method_7_code 17 = .ok (.aload_n 1, 1) := by decide +kernel
theorem d128_18 : decode prog_8_method_7_code 18 = .ok (.getfield 49, 3) := by decide +kernel
theorem d128_21 : decode prog_8_method_7_code 21 = .ok (.if_icmp .ge 106, 3) := by decide +kernel
theorem d128_24 : decode prog_8_method_7_code 24 = .ok (.iconst 0, 1) := by decide +kernel
theorem d128_25 : decode prog_8_method_7_code 25 = .ok (.istore 6, 2) := by decide +kernel
theorem d128_27 : decode prog_8_method_7_code 27 = .ok (.iload 6, 2) := by decide +kernel
theorem d128_29 : decode prog_8_method_7_code 29 = .ok (.aload_n 1, 1) := by decide +kernel
theorem d128_30 : decode prog_8_method_7_code 30 = .ok (.getfield 49, 3) := by decide +kernel
theorem d128_33 : decode prog_8_method_7_code 33 = .ok (.if_icmp .ge 88, 3) := by decide +kernel
theorem d128_36 : decode prog_8_method_7_code 36 = .ok (.aload_n 0, 1) := by decide +kernel
theorem d128_37 : decode prog_8_method_7_code 37 = .ok (.getfield 18, 3) := by decide +kernel
theorem d128_40 : decode prog_8_method_7_code 40 = .ok (.iload 6, 2) := by decide +kernel
theorem d128_42 : decode prog_8_method_7_code 42 = .ok (.iaload, 1) := by decide +kernel
theorem d128_43 : decode prog_8_method_7_code 43 = .ok (.aload_n 0, 1) := by decide +kernel
theorem d128_44 : decode prog_8_method_7_code 44 = .ok (.getfield 18, 3) := by decide +kernel
theorem d128_47 : decode prog_8_method_7_code 47 = .ok (.iload 5, 2) := by decide +kernel
theorem d128_49 : decode prog_8_method_7_code 49 = .ok (.iaload, 1) := by decide +kernel
theorem d128_50 : decode prog_8_method_7_code 50 = .ok (.if_icmp .ne 7, 3) := by decide +kernel
theorem d128_53 : decode prog_8_method_7_code 53 = .ok (.iconst 1, 1) := by decide +kernel
theorem d128_54 : decode prog_8_method_7_code 54 = .ok (.goto 4, 3) := by decide +kernel
theorem d128_57 : decode prog_8_method_7_code 57 = .ok (.iconst 0, 1) := by decide +kernel
theorem d128_58 : decode prog_8_method_7_code 58 = .ok (.istore 7, 2) := by decide +kernel
theorem d128_60 : decode prog_8_method_7_code 60 = .ok (.iload 7, 2) := by decide +kernel
theorem d128_62 : decode prog_8_method_7_code 62 = .ok (.ifCond .eq 53, 3) := by decide +kernel
theorem d128_65 : decode prog_8_method_7_code 65 = .ok (.iload_n 3, 1) := by decide +kernel
theorem d128_66 : decode prog_8_method_7_code 66 = .ok (.iload 5, 2) := by decide +kernel
theorem d128_68 : decode prog_8_method_7_code 68 = .ok (.ishr, 1) := by decide +kernel
theorem d128_69 : decode prog_8_method_7_code 69 = .ok (.iconst 1, 1) := by decide +kernel
theorem d128_70 : decode prog_8_method_7_code 70 = .ok (.iand, 1) := by decide +kernel
theorem d128_71 : decode prog_8_method_7_code 71 = .ok (.ifCond .eq 44, 3) := by decide +kernel
theorem d128_74 : decode prog_8_method_7_code 74 = .ok (.iload_n 2, 1) := by decide +kernel
theorem d128_75 : decode prog_8_method_7_code 75 = .ok (.iload 6, 2) := by decide +kernel
theorem d128_77 : decode prog_8_method_7_code 77 = .ok (.ishr, 1) := by decide +kernel
theorem d128_78 : decode prog_8_method_7_code 78 = .ok (.iconst 1, 1) := by decide +kernel
theorem d128_79 : decode prog_8_method_7_code 79 = .ok (.iand, 1) := by decide +kernel
theorem d128_80 : decode prog_8_method_7_code 80 = .ok (.ifCond .eq 35, 3) := by decide +kernel
theorem d128_83 : decode prog_8_method_7_code 83 = .ok (.iload 4, 2) := by decide +kernel
theorem d128_85 : decode prog_8_method_7_code 85 = .ok (.aload_n 0, 1) := by decide +kernel
theorem d128_86 : decode prog_8_method_7_code 86 = .ok (.getfield 9, 3) := by decide +kernel
theorem d128_89 : decode prog_8_method_7_code 89 = .ok (.iload 6, 2) := by decide +kernel
theorem d128_91 : decode prog_8_method_7_code 91 = .ok (.iaload, 1) := by decide +kernel
theorem d128_92 : decode prog_8_method_7_code 92 = .ok (.aload_n 1, 1) := by decide +kernel
theorem d128_93 : decode prog_8_method_7_code 93 = .ok (.getfield 78, 3) := by decide +kernel
theorem d128_96 : decode prog_8_method_7_code 96 = .ok (.iload 6, 2) := by decide +kernel
theorem d128_98 : decode prog_8_method_7_code 98 = .ok (.iaload, 1) := by decide +kernel
theorem d128_99 : decode prog_8_method_7_code 99 = .ok (.iadd, 1) := by decide +kernel
theorem d128_100 : decode prog_8_method_7_code 100 = .ok (.iconst 1, 1) := by decide +kernel
theorem d128_101 : decode prog_8_method_7_code 101 = .ok (.iadd, 1) := by decide +kernel
theorem d128_102 : decode prog_8_method_7_code 102 = .ok (.aload_n 0, 1) := by decide +kernel
theorem d128_103 : decode prog_8_method_7_code 103 = .ok (.getfield 9, 3) := by decide +kernel
theorem d128_106 : decode prog_8_method_7_code 106 = .ok (.iload 5, 2) := by decide +kernel
theorem d128_108 : decode prog_8_method_7_code 108 = .ok (.iaload, 1) := by decide +kernel
theorem d128_109 : decode prog_8_method_7_code 109 = .ok (.isub, 1) := by decide +kernel
theorem d128_110 : decode prog_8_method_7_code 110 = .ok (.invokestatic 84, 3) := by decide +kernel
theorem d128_113 : decode prog_8_method_7_code 113 = .ok (.istore 4, 2) := by decide +kernel
theorem d128_115 : decode prog_8_method_7_code 115 = .ok (.iinc 6 1, 3) := by decide +kernel
theorem d128_118 : decode prog_8_method_7_code 118 = .ok (.goto (-91), 3) := by decide +kernel
theorem d128_121 : decode prog_8_method_7_code 121 = .ok (.iinc 5 1, 3) := by decide +kernel
theorem d128_124 : decode prog_8_method_7_code 124 = .ok (.goto (-109), 3) := by decide +kernel
theorem d128_127 : decode prog_8_method_7_code 127 = .ok (.iload 4, 2) := by decide +kernel
theorem d128_129 : decode prog_8_method_7_code 129 = .ok (.ireturn, 1) := by decide +kernel
theorem d129_0 : decode prog_8_method_8_code 0 = .ok (.ldc 89, 2) := by decide +kernel
theorem d129_2 : decode prog_8_method_8_code 2 = .ok (.istore_n 3, 1) := by decide +kernel
theorem d129_3 : decode prog_8_method_8_code 3 = .ok (.iconst 0, 1) := by decide +kernel
theorem d129_4 : decode prog_8_method_8_code 4 = .ok (.istore 4, 2) := by decide +kernel
theorem d129_6 : decode prog_8_method_8_code 6 = .ok (.iload 4, 2) := by decide +kernel
theorem d129_8 : decode prog_8_method_8_code 8 = .ok (.iload_n 1, 1) := by decide +kernel
theorem d129_9 : decode prog_8_method_8_code 9 = .ok (.if_icmp .ge 30, 3) := by decide +kernel
theorem d129_12 : decode prog_8_method_8_code 12 = .ok (.iload_n 2, 1) := by decide +kernel
theorem d129_13 : decode prog_8_method_8_code 13 = .ok (.iload 4, 2) := by decide +kernel
theorem d129_15 : decode prog_8_method_8_code 15 = .ok (.ishr, 1) := by decide +kernel
theorem d129_16 : decode prog_8_method_8_code 16 = .ok (.iconst 1, 1) := by decide +kernel
theorem d129_17 : decode prog_8_method_8_code 17 = .ok (.iand, 1) := by decide +kernel
theorem d129_18 : decode prog_8_method_8_code 18 = .ok (.ifCond .eq 15, 3) := by decide +kernel
theorem d129_21 : decode prog_8_method_8_code 21 = .ok (.iload_n 3, 1) := by decide +kernel
theorem d129_22 : decode prog_8_method_8_code 22 = .ok (.aload_n 0, 1) := by decide +kernel
theorem d129_23 : decode prog_8_method_8_code 23 = .ok (.getfield 9, 3) := by decide +kernel
theorem d129_26 : decode prog_8_method_8_code 26 = .ok (.iload 4, 2) := by decide +kernel
theorem d129_28 : decode prog_8_method_8_code 28 = .ok (.iaload, 1) := by decide +kernel
theorem d129_29 : decode prog_8_method_8_code 29 = .ok (.invokestatic 90, 3) := by decide +kernel
theorem d129_32 : decode prog_8_method_8_code 32 = .ok (.istore_n 3, 1) := by decide +kernel
theorem d129_33 : decode prog_8_method_8_code 33 = .ok (.iinc 4 1, 3) := by decide +kernel
theorem d129_36 : decode prog_8_method_8_code 36 = .ok (.goto (-30), 3) := by decide +kernel
theorem d129_39 : decode prog_8_method_8_code 39 = .ok (.iload_n 3, 1) := by decide +kernel
theorem d129_40 : decode prog_8_method_8_code 40 = .ok (.ireturn, 1) := by decide +kernel
theorem d130_0 : decode prog_8_method_9_code 0 = .ok (.iconst 0, 1) := by decide +kernel
theorem d130_1 : decode prog_8_method_9_code 1 = .ok (.istore_n 3, 1) := by decide +kernel
theorem d130_2 : decode prog_8_method_9_code 2 = .ok (.iload_n 3, 1) := by decide +kernel
theorem d130_3 : decode prog_8_method_9_code 3 = .ok (.bipush 12, 2) := by decide +kernel
theorem d130_5 : decode prog_8_method_9_code 5 = .ok (.if_icmp .ge 27, 3) := by decide +kernel
theorem d130_8 : decode prog_8_method_9_code 8 = .ok (.iload_n 1, 1) := by decide +kernel
theorem d130_9 : decode prog_8_method_9_code 9 = .ok (.iload_n 3, 1) := by decide +kernel
theorem d130_10 : decode prog_8_method_9_code 10 = .ok (.ishr, 1) := by decide +kernel
theorem d130_11 : decode prog_8_method_9_code 11 = .ok (.iconst 1, 1) := by decide +kernel
theorem d130_12 : decode prog_8_method_9_code 12 = .ok (.iand, 1) := by decide +kernel
theorem d130_13 : decode prog_8_method_9_code 13 = .ok (.ifCond .eq 13, 3) := by decide +kernel
theorem d130_16 : decode prog_8_method_9_code 16 = .ok (.aload_n 0, 1) := by decide +kernel
theorem d130_17 : decode prog_8_method_9_code 17 = .ok (.getfield 9, 3) := by decide +kernel
theorem d130_20 : decode prog_8_method_9_code 20 = .ok (.iload_n 3, 1) := by decide +kernel
theorem d130_21 : decode prog_8_method_9_code 21 = .ok (.dup2, 1) := by decide +kernel
theorem d130_22 : decode prog_8_method_9_code 22 = .ok (.iaload, 1) := by decide +kernel
theorem d130_23 : decode prog_8_method_9_code 23 = .ok (.iload_n 2, 1) := by decide +kernel
theorem d130_24 : decode prog_8_method_9_code 24 = .ok (.iadd, 1) := by decide +kernel
theorem d130_25 : decode prog_8_method_9_code 25 = .ok (.iastore, 1) := by decide +kernel
theorem d130_26 : decode prog_8_method_9_code 26 = .ok (.iinc 3 1, 3) := by decide +kernel
theorem d130_29 : decode prog_8_method_9_code 29 = .ok (.goto (-27), 3) := by decide +kernel
theorem d130_32 : decode prog_8_method_9_code 32 = .ok (.return_, 1) := by decide +kernel
theorem d131_0 : decode prog_9_method_1_code 0 = .ok (.aload_n 0, 1) := by decide +kernel
theorem d131_1 : decode prog_9_method_1_code 1 = .ok (.invokespecial 3, 3) := by decide +kernel
theorem d131_4 : decode prog_9_method_1_code 4 = .ok (.aload_n 0, 1) := by decide +kernel
theorem d131_5 : decode prog_9_method_1_code 5 = .ok (.sipush 4096, 3) := by decide +kernel
theorem d131_8 : decode prog_9_method_1_code 8 = .ok (.newarray .int, 2) := by decide +kernel
theorem d131_10 : decode prog_9_method_1_code 10 = .ok (.putfield 9, 3) := by decide +kernel
theorem d131_13 : decode prog_9_method_1_code 13 = .ok (.aload_n 0, 1) := by decide +kernel
theorem d131_14 : decode prog_9_method_1_code 14 = .ok (.sipush 144, 3) := by decide +kernel
theorem d131_17 : decode prog_9_method_1_code 17 = .ok (.newarray .int, 2) := by decide +kernel
theorem d131_19 : decode prog_9_method_1_code 19 = .ok (.putfield 15, 3) := by decide +kernel
theorem d131_22 : decode prog_9_method_1_code 22 = .ok (.aload_n 0, 1) := by decide +kernel
theorem d131_23 : decode prog_9_method_1_code 23 = .ok (.bipush 12, 2) := by decide +kernel
theorem d131_25 : decode prog_9_method_1_code 25 = .ok (.newarray .int, 2) := by decide +kernel
theorem d131_27 : decode prog_9_method_1_code 27 = .ok (.putfield 18, 3) := by decide +kernel
theorem d131_30 : decode prog_9_method_1_code 30 = .ok (.aload_n 0, 1) := by decide +kernel
theorem d131_31 : decode prog_9_method_1_code 31 = .ok (.iconst 0, 1) := by decide +kernel
theorem d131_32 : decode prog_9_method_1_code 32 = .ok (.putfield 21, 3) := by decide +kernel
theorem d131_35 : decode prog_9_method_1_code 35 = .ok (.aload_n 0, 1) := by decide +kernel
theorem d131_36 : decode prog_9_method_1_code 36 = .ok (.iconst 0, 1) := by decide +kernel
theorem d131_37 : decode prog_9_method_1_code 37 = .ok (.putfield 25, 3) := by decide +kernel
theorem d131_40 : decode prog_9_method_1_code 40 = .ok (.return_, 1) := by decide +kernel
theorem d132_0 : decode prog_9_method_2_code 0 = .ok (.aload_n 0, 1) := by decide +kernel
theorem d132_1 : decode prog_9_method_2_code 1 = .ok (.getfield 21, 3) := by decide +kernel
theorem d132_4 : decode prog_9_method_2_code 4 = .ok (.iload_n 1, 1) := by decide +kernel
theorem d132_5 : decode prog_9_method_2_code 5 = .ok (.invokestatic 28, 3) := by decide +kernel
theorem d132_8 : decode prog_9_method_2_code 8 = .ok (.iand, 1) := by decide +kernel
theorem d132_9 : decode prog_9_method_2_code 9 = .ok (.ifCond .eq 7, 3) := by decide +kernel
theorem d132_12 : decode prog_9_method_2_code 12 = .ok (.iconst 1, 1) := by decide +kernel
theorem d132_13 : decode prog_9_method_2_code 13 = .ok (.goto 4, 3) := by decide +kernel
theorem d132_16 : decode prog_9_method_2_code 16 = .ok (.iconst 0, 1) := by decide +kernel
theorem d132_17 : decode prog_9_method_2_code 17 = .ok (.ireturn, 1) := by decide +kernel
theorem d133_0 : decode prog_9_method_3_code 0 = .ok (.aload_n 1, 1) := by decide +kernel
theorem d133_1 : decode prog_9_method_3_code 1 = .ok (.invokestatic 32, 3) := by decide +kernel
theorem d133_4 : decode prog_9_method_3_code 4 = .ok (.istore_n 2, 1) := by decide +kernel
theorem d133_5 : decode prog_9_method_3_code 5 = .ok (.iconst 0, 1) := by decide +kernel
theorem d133_6 : decode prog_9_method_3_code 6 = .ok (.istore_n 3, 1) := by decide +kernel
theorem d133_7 : decode prog_9_method_3_code 7 = .ok (.iload_n 2, 1) := by decide +kernel
theorem d133_8 : decode prog_9_method_3_code 8 = .ok (.ifCond .eq 15, 3) := by decide +kernel
theorem d133_11 : decode prog_9_method_3_code 11 = .ok (.aload_n 0, 1) := by decide +kernel
theorem d133_12 : decode prog_9_method_3_code 12 = .ok (.aload_n 1, 1) := by decide +kernel
theorem d133_13 : decode prog_9_method_3_code 13 = .ok (.iload_n 2, 1) := by decide +kernel
theorem d133_14 : decode prog_9_method_3_code 14 = .ok (.invokevirtual 36, 3) := by decide +kernel
theorem d133_17 : decode prog_9_method_3_code 17 = .ok (.aload_n 0, 1) := by decide +kernel
theorem d133_18 : decode prog_9_method_3_code 18 = .ok (.iload_n 2, 1) := by decide +kernel
theorem d133_19 : decode prog_9_method_3_code 19 = .ok (.invokevirtual 40, 3) := by decide +kernel
theorem d133_22 : decode prog_9_method_3_code 22 = .ok (.istore_n 3, 1) := by decide +kernel
theorem d133_23 : decode prog_9_method_3_code 23 = .ok (.aload_n 0, 1) := by decide +kernel
theorem d133_24 : decode prog_9_method_3_code 24 = .ok (.iload_n 3, 1) := by decide +kernel
theorem d133_25 : decode prog_9_method_3_code 25 = .ok (.ldc 43, 2) := by decide +kernel
theorem d133_27 : decode prog_9_method_3_code 27 = .ok (.iadd, 1) := by decide +kernel
theorem d133_28 : decode prog_9_method_3_code 28 = .ok (.iconst 1, 1) := by decide +kernel
theorem d133_29 : decode prog_9_method_3_code 29 = .ok (.isub, 1) := by decide +kernel
theorem d133_30 : decode prog_9_method_3_code 30 = .ok (.ldc 43, 2) := by decide +kernel
theorem d133_32 : decode prog_9_method_3_code 32 = .ok (.idiv, 1) := by decide +kernel
theorem d133_33 : decode prog_9_method_3_code 33 = .ok (.putfield 25, 3) := by decide +kernel
theorem d133_36 : decode prog_9_method_3_code 36 = .ok (.aload_n 0, 1) := by decide +kernel
theorem d133_37 : decode prog_9_method_3_code 37 = .ok (.aload_n 0, 1) := by decide +kernel
theorem d133_38 : decode prog_9_method_3_code 38 = .ok (.getfield 25, 3) := by decide +kernel
theorem d133_41 : decode prog_9_method_3_code 41 = .ok (.ldc 43, 2) := by decide +kernel
theorem d133_43 : decode prog_9_method_3_code 43 = .ok (.imul, 1) := by decide +kernel
theorem d133_44 : decode prog_9_method_3_code 44 = .ok (.iload_n 3, 1) := by decide +kernel
theorem d133_45 : decode prog_9_method_3_code 45 = .ok (.isub, 1) := by decide +kernel
theorem d133_46 : decode prog_9_method_3_code 46 = .ok (.putfield 21, 3) := by decide +kernel
theorem d133_49 : decode prog_9_method_3_code 49 = .ok (.return_, 1) := by decide +kernel
theorem d134_0 : decode prog_9_method_4_code 0 = .ok (.iconst 1, 1) := by decide +kernel
theorem d134_1 : decode prog_9_method_4_code 1 = .ok (.bipush 23, 2) := by decide +kernel
theorem d134_3 : decode prog_9_method_4_code 3 = .ok (.iload_n 0, 1) := by decide +kernel
theorem d134_4 : decode prog_9_method_4_code 4 = .ok (.isub, 1) := by decide +kernel
theorem d134_5 : decode prog_9_method_4_code 5 = .ok (.ishl, 1) := by decide +kernel
theorem d134_6 : decode prog_9_method_4_code 6 = .ok (.ireturn, 1) := by decide +kernel
theorem d135_0 : decode prog_9_method_5_code 0 = .ok (.iconst 1, 1) := by decide +kernel
theorem d135_1 : decode prog_9_method_5_code 1 = .ok (.aload_n 0, 1) := by decide +kernel
theorem d135_2 : decode prog_9_method_5_code 2 = .ok (.getfield 44, 3) := by decide +kernel
theorem d135_5 : decode prog_9_method_5_code 5 = .ok (.ishl, 1) := by decide +kernel
theorem d135_6 : decode prog_9_method_5_code 6 = .ok (.iconst 1, 1) := by decide +kernel
theorem d135_7 : decode prog_9_method_5_code 7 = .ok (.isub, 1) := by decide +kernel
theorem d135_8 : decode prog_9_method_5_code 8 = .ok (.istore_n 1, 1) := by decide +kernel
theorem d135_9 : decode prog_9_method_5_code 9 = .ok (.iconst 0, 1) := by decide +kernel
theorem d135_10 : decode prog_9_method_5_code 10 = .ok (.istore_n 2, 1) := by decide +kernel
theorem d135_11 : decode prog_9_method_5_code 11 = .ok (.iload_n 2, 1) := by decide +kernel
theorem d135_12 : decode prog_9_method_5_code 12 = .ok (.aload_n 0, 1) := by decide +kernel
theorem d135_13 : decode prog_9_method_5_code 13 = .ok (.getfield 44, 3) := by decide +kernel
theorem d135_16 : decode prog_9_method_5_code 16 = .ok (.if_icmp .ge 97, 3) := by decide +kernel
theorem d135_19 : decode prog_9_method_5_code 19 = .ok (.iconst 0, 1) := by decide +kernel
theorem d135_20 : decode prog_9_method_5_code 20 = .ok (.istore_n 3, 1) := by decide +kernel
theorem d135_21 : decode prog_9_method_5_code 21 = .ok (.iconst 0, 1) := by decide +kernel
theorem d135_22 : decode prog_9_method_5_code 22 = .ok (.istore 4, 2) := by decide +kernel
theorem d135_24 : decode prog_9_method_5_code 24 = .ok (.iconst 0, 1) := by decide +kernel
theorem d135_25 : decode prog_9_method_5_code 25 = .ok (.istore 5, 2) := by decide +kernel
theorem d135_27 : decode prog_9_method_5_code 27 = .ok (.iload 5, 2) := by decide +kernel
theorem d135_29 : decode prog_9_method_5_code 29 = .ok (.aload_n 0, 1) := by decide +kernel
theorem d135_30 : decode prog_9_method_5_code 30 = .ok (.getfield 49, 3) := by decide +kernel
theorem d135_33 : decode prog_9_method_5_code 33 = .ok (.if_icmp .ge 67, 3) := by decide +kernel
theorem d135_36 : decode prog_9_method_5_code 36 = .ok (.iconst 1, 1) := by decide +kernel
theorem d135_37 : decode prog_9_method_5_code 37 = .ok (.aload_n 0, 1) := by decide +kernel
theorem d135_38 : decode prog_9_method_5_code 38 = .ok (.getfield 52, 3) := by decide +kernel
theorem d135_41 : decode prog_9_method_5_code 41 = .ok (.iload 5, 2) := by decide +kernel
theorem d135_43 : decode prog_9_method_5_code 43 = .ok (.iaload, 1) := by decide +kernel
theorem d135_44 : decode prog_9_method_5_code 44 = .ok (.ishl, 1) := by decide +kernel
theorem d135_45 : decode prog_9_method_5_code 45 = .ok (.istore 6, 2) := by decide +kernel
theorem d135_47 : decode prog_9_method_5_code 47 = .ok (.iconst 1, 1) := by decide +kernel
theorem d135_48 : decode prog_9_method_5_code 48 = .ok (.aload_n 0, 1) := by decide +kernel
theorem d135_49 : decode prog_9_method_5_code 49 = .ok (.getfield 55, 3) := by decide +kernel
theorem d135_52 : decode prog_9_method_5_code 52 = .ok (.iload 5, 2) := by decide +kernel
theorem d135_54 : decode prog_9_method_5_code 54 = .ok (.iaload, 1) := by decide +kernel
theorem d135_55 : decode prog_9_method_5_code 55 = .ok (.ishl, 1) := by decide +kernel
theorem d135_56 : decode prog_9_method_5_code 56 = .ok (.istore 7, 2) := by decide +kernel
theorem d135_58 : decode prog_9_method_5_code 58 = .ok (.aload_n 0, 1) := by decide +kernel
theorem d135_59 : decode prog_9_method_5_code 59 = .ok (.getfield 58, 3) := by decide +kernel
theorem d135_62 : decode prog_9_method_5_code 62 = .ok (.iload 5, 2) := by decide +kernel
theorem d135_64 : decode prog_9_method_5_code 64 = .ok (.baload, 1) := by decide +kernel
theorem d135_65 : decode prog_9_method_5_code 65 = .ok (.ifCond .eq 29, 3) := by decide +kernel
theorem d135_68 : decode prog_9_method_5_code 68 = .ok (.iload_n 1, 1) := by decide +kernel
theorem d135_69 : decode prog_9_method_5_code 69 = .ok (.iload 6, 2) := by decide +kernel
theorem d135_71 : decode prog_9_method_5_code 71 = .ok (.iand, 1) := by decide +kernel
theorem d135_72 : decode prog_9_method_5_code 72 = .ok (.ifCond .eq 22, 3) := by decide +kernel
theorem d135_75 : decode prog_9_method_5_code 75 = .ok (.iload_n 1, 1) := by decide +kernel
theorem d135_76 : decode prog_9_method_5_code 76 = .ok (.iload 7, 2) := by decide +kernel
theorem d135_78 : decode prog_9_method_5_code 78 = .ok (.iand, 1) := by decide +kernel
theorem d135_79 : decode prog_9_method_5_code 79 = .ok (.ifCond .eq 15, 3) := by decide +kernel
theorem d135_82 : decode prog_9_method_5_code 82 = .ok (.iload_n 3, 1) := by decide +kernel
theorem d135_83 : decode prog_9_method_5_code 83 = .ok (.iload 6, 2) := by decide +kernel
theorem d135_85 : decode prog_9_method_5_code 85 = .ok (.ior, 1) := by decide +kernel
theorem d135_86 : decode prog_9_method_5_code 86 = .ok (.istore_n 3, 1) := by decide +kernel
theorem d135_87 : decode prog_9_method_5_code 87 = .ok (.iload 4, 2) := by decide +kernel
theorem d135_89 : decode prog_9_method_5_code 89 = .ok (.iload 7, 2) := by decide +kernel
theorem d135_91 : decode prog_9_method_5_code 91 = .ok (.ior, 1) := by decide +kernel
theorem d135_92 : decode prog_9_method_5_code 92 = .ok (.istore 4, 2) := by decide +kernel
theorem d135_94 : decode prog_9_method_5_code 94 = .ok (.iinc 5 1, 3) := by decide +kernel
theorem d135_97 : decode prog_9_method_5_code 97 = .ok (.goto (-70), 3) := by decide +kernel
theorem d135_100 : decode prog_9_method_5_code 100 = .ok (.iload_n 1, 1) := by decide +kernel
theorem d135_101 : decode prog_9_method_5_code 101 = .ok (.iload_n 3, 1) := by decide +kernel
theorem d135_102 : decode prog_9_method_5_code 102 = .ok (.iload 4, 2) := by decide +kernel
theorem d135_104 : decode prog_9_method_5_code 104 = .ok (.iand, 1) := by decide +kernel
theorem d135_105 : decode prog_9_method_5_code 105 = .ok (.iand, 1) := by decide +kernel
theorem d135_106 : decode prog_9_method_5_code 106 = .ok (.istore_n 1, 1) := by decide +kernel
theorem d135_107 : decode prog_9_method_5_code 107 = .ok (.iinc 2 1, 3) := by decide +kernel
theorem d135_110 : decode prog_9_method_5_code 110 = .ok (.goto (-99), 3) := by decide +kernel
theorem d135_113 : decode prog_9_method_5_code 113 = .ok (.iload_n 1, 1) := by decide +kernel
theorem d135_114 : decode prog_9_method_5_code 114 = .ok (.ireturn, 1) := by decide +kernel
theorem d136_0 : decode prog_9_method_6_code 0 = .ok (.aload_n 0, 1) := by decide +kernel
theorem d136_1 : decode prog_9_method_6_code 1 = .ok (.getfield 15, 3) := by decide +kernel
theorem d136_4 : decode prog_9_method_6_code 4 = .ok (.iconst 0, 1) := by decide +kernel
theorem d136_5 : decode prog_9_method_6_code 5 = .ok (.invokestatic 62, 3) := by decide +kernel
theorem d136_8 : decode prog_9_method_6_code 8 = .ok (.aload_n 0, 1) := by decide +kernel
theorem d136_9 : decode prog_9_method_6_code 9 = .ok (.getfield 18, 3) := by decide +kernel
theorem d136_12 : decode prog_9_method_6_code 12 = .ok (.iconst 0, 1) := by decide +kernel
theorem d136_13 : decode prog_9_method_6_code 13 = .ok (.invokestatic 62, 3) := by decide +kernel
theorem d136_16 : decode prog_9_method_6_code 16 = .ok (.iconst 0, 1) := by decide +kernel
theorem d136_17 : decode prog_9_method_6_code 17 = .ok (.istore_n 3, 1) := by decide +kernel
theorem d136_18 : decode prog_9_method_6_code 18 = .ok (.iload_n 3, 1) := by decide +kernel
theorem d136_19 : decode prog_9_method_6_code 19 = .ok (.aload_n 1, 1) := by decide +kernel
theorem d136_20 : decode prog_9_method_6_code 20 = .ok (.getfield 49, 3) := by decide +kernel
theorem d136_23 : decode prog_9_method_6_code 23 = .ok (.if_icmp .ge 89, 3) := by decide +kernel
theorem d136_26 : decode prog_9_method_6_code 26 = .ok (.aload_n 1, 1) := by decide +kernel
theorem d136_27 : decode prog_9_method_6_code 27 = .ok (.getfield 52, 3) := by decide +kernel
theorem d136_30 : decode prog_9_method_6_code 30 = .ok (.iload_n 3, 1) := by decide +kernel
theorem d136_31 : decode prog_9_method_6_code 31 = .ok (.iaload, 1) := by decide +kernel
theorem d136_32 : decode prog_9_method_6_code 32 = .ok (.istore 4, 2) := by decide +kernel
theorem d136_34 : decode prog_9_method_6_code 34 = .ok (.aload_n 1, 1) := by decide +kernel
theorem d136_35 : decode prog_9_method_6_code 35 = .ok (.getfield 55, 3) := by decide +kernel
theorem d136_38 : decode prog_9_method_6_code 38 = .ok (.iload_n 3, 1) := by decide +kernel
theorem d136_39 : decode prog_9_method_6_code 39 = .ok (.iaload, 1) := by decide +kernel
theorem d136_40 : decode prog_9_method_6_code 40 = .ok (.istore 5, 2) := by decide +kernel
theorem d136_42 : decode prog_9_method_6_code 42 = .ok (.aload_n 1, 1) := by decide +kernel
theorem d136_43 : decode prog_9_method_6_code 43 = .ok (.getfield 58, 3) := by decide +kernel
theorem d136_46 : decode prog_9_method_6_code 46 = .ok (.iload_n 3, 1) := by decide +kernel
theorem d136_47 : decode prog_9_method_6_code 47 = .ok (.baload, 1) := by decide +kernel
theorem d136_48 : decode prog_9_method_6_code 48 = .ok (.ifCond .eq 58, 3) := by decide +kernel
theorem d136_51 : decode prog_9_method_6_code 51 = .ok (.iload_n 2, 1) := by decide +kernel
theorem d136_52 : decode prog_9_method_6_code 52 = .ok (.iload 4, 2) := by decide +kernel
theorem d136_54 : decode prog_9_method_6_code 54 = .ok (.ishr, 1) := by decide +kernel
theorem d136_55 : decode prog_9_method_6_code 55 = .ok (.iconst 1, 1) := by decide +kernel
theorem d136_56 : decode prog_9_method_6_code 56 = .ok (.iand, 1) := by decide +kernel
theorem d136_57 : decode prog_9_method_6_code 57 = .ok (.ifCond .eq 49, 3) := by decide +kernel
theorem d136_60 : decode prog_9_method_6_code 60 = .ok (.iload_n 2, 1) := by decide +kernel
theorem d136_61 : decode prog_9_method_6_code 61 = .ok (.iload 5, 2) := by decide +kernel
theorem d136_63 : decode prog_9_method_6_code 63 = .ok (.ishr, 1) := by decide +kernel
theorem d136_64 : decode prog_9_method_6_code 64 = .ok (.iconst 1, 1) := by decide +kernel
theorem d136_65 : decode prog_9_method_6_code 65 = .ok (.iand, 1) := by decide +kernel
theorem d136_66 : decode prog_9_method_6_code 66 = .ok (.ifCond .eq 40, 3) := by decide +kernel
theorem d136_69 : decode prog_9_method_6_code 69 = .ok (.aload_n 0, 1) := by decide +kernel
theorem d136_70 : decode prog_9_method_6_code 70 = .ok (.getfield 15, 3) := by decide +kernel
theorem d136_73 : decode prog_9_method_6_code 73 = .ok (.iload 4, 2) := by decide +kernel
theorem d136_75 : decode prog_9_method_6_code 75 = .ok (.bipush 12, 2) := by decide +kernel
theorem d136_77 : decode prog_9_method_6_code 77 = .ok (.imul, 1) := by decide +kernel
theorem d136_78 : decode prog_9_method_6_code 78 = .ok (.iload 5, 2) := by decide +kernel
theorem d136_80 : decode prog_9_method_6_code 80 = .ok (.iadd, 1) := by decide +kernel
theorem d136_81 : decode prog_9_method_6_code 81 = .ok (.dup2, 1) := by decide +kernel
theorem d136_82 : decode prog_9_method_6_code 82 = .ok (.iaload, 1) := by decide +kernel
theorem d136_83 : decode prog_9_method_6_code 83 = .ok (.ldc 43, 2) := by decide +kernel
theorem d136_85 : decode prog_9_method_6_code 85 = .ok (.iload_n 3, 1) := by decide +kernel
theorem d136_86 : decode prog_9_method_6_code 86 = .ok (.invokestatic 28, 3) := by decide +kernel
theorem d136_89 : decode prog_9_method_6_code 89 = .ok (.isub, 1) := by decide +kernel
theorem d136_90 : decode prog_9_method_6_code 90 = .ok (.iadd, 1) := by decide +kernel
theorem d136_91 : decode prog_9_method_6_code 91 = .ok (.iastore, 1) := by decide +kernel
theorem d136_92 : decode prog_9_method_6_code 92 = .ok (.aload_n 0, 1) := by decide +kernel
theorem d136_93 : decode prog_9_method_6_code 93 = .ok (.getfield 18, 3) := by decide +kernel
theorem d136_96 : decode prog_9_method_6_code 96 = .ok (.iload 4, 2) := by decide +kernel
theorem d136_98 : decode prog_9_method_6_code 98 = .ok (.dup2, 1) := by decide +kernel
theorem d136_99 : decode prog_9_method_6_code 99 = .ok (.iaload, 1) := by decide +kernel
theorem d136_100 : decode prog_9_method_6_code 100 = .ok (.iconst 1, 1) := by decide +kernel
theorem d136_101 : decode prog_9_method_6_code 101 = .ok (.iload 5, 2) := by decide +kernel
theorem d136_103 : decode prog_9_method_6_code 103 = .ok (.ishl, 1) := by decide +kernel
theorem d136_104 : decode prog_9_method_6_code 104 = .ok (.ior, 1) := by decide +kernel
theorem d136_105 : decode prog_9_method_6_code 105 = .ok (.iastore, 1) := by decide +kernel
theorem d136_106 : decode prog_9_method_6_code 106 = .ok (.iinc 3 1, 3) := by decide +kernel
theorem d136_109 : decode prog_9_method_6_code 109 = .ok (.goto (-91), 3) := by decide +kernel
theorem d136_112 : decode prog_9_method_6_code 112 = .ok (.return_, 1) := by decide +kernel
theorem d137_0 : decode prog_9_method_7_code 0 = .ok (.aload_n 0, 1) := by decide +kernel
theorem d137_1 : decode prog_9_method_7_code 1 = .ok (.getfield 9, 3) := by decide +kernel
theorem d137_4 : decode prog_9_method_7_code 4 = .ok (.iconst 0, 1) := by decide +kernel
theorem d137_5 : decode prog_9_method_7_code 5 = .ok (.iconst 0, 1) := by decide +kernel
theorem d137_6 : decode prog_9_method_7_code 6 = .ok (.iastore, 1) := by decide +kernel
theorem d137_7 : decode prog_9_method_7_code 7 = .ok (.iconst 1, 1) := by decide +kernel
theorem d137_8 : decode prog_9_method_7_code 8 = .ok (.istore_n 2, 1) := by decide +kernel
theorem d137_9 : decode prog_9_method_7_code 9 = .ok (.iload_n 2, 1) := by decide +kernel
theorem d137_10 : decode prog_9_method_7_code 10 = .ok (.iload_n 1, 1) := by decide +kernel
theorem d137_11 : decode prog_9_method_7_code 11 = .ok (.if_icmp .gt 28, 3) := by decide +kernel
theorem d137_14 : decode prog_9_method_7_code 14 = .ok (.iload_n 2, 1) := by decide +kernel
theorem d137_15 : decode prog_9_method_7_code 15 = .ok (.iload_n 1, 1) := by decide +kernel
theorem d137_16 : decode prog_9_method_7_code 16 = .ok (.iconst (-1), 1) := by decide +kernel
theorem d137_17 : decode prog_9_method_7_code 17 = .ok (.ixor, 1) := by decide +kernel
theorem d137_18 : decode prog_9_method_7_code 18 = .ok (.iand, 1) := by decide +kernel
theorem d137_19 : decode prog_9_method_7_code 19 = .ok (.ifCond .ne 14, 3) := by decide +kernel
theorem d137_22 : decode prog_9_method_7_code 22 = .ok (.aload_n 0, 1) := by decide +kernel
theorem d137_23 : decode prog_9_method_7_code 23 = .ok (.getfield 9, 3) := by decide +kernel
theorem d137_26 : decode prog_9_method_7_code 26 = .ok (.iload_n 2, 1) := by decide +kernel
theorem d137_27 : decode prog_9_method_7_code 27 = .ok (.aload_n 0, 1) := by decide +kernel
theorem d137_28 : decode prog_9_method_7_code 28 = .ok (.iload_n 2, 1) := by decide +kernel
theorem d137_29 : decode prog_9_method_7_code 29 = .ok (.invokevirtual 68, 3) := by decide +kernel
theorem d137_32 : decode prog_9_method_7_code 32 = .ok (.iastore, 1) := by decide +kernel
theorem d137_33 : decode prog_9_method_7_code 33 = .ok (.iinc 2 1, 3) := by decide +kernel
theorem d137_36 : decode prog_9_method_7_code 36 = .ok (.goto (-27), 3) := by decide +kernel
theorem d137_39 : decode prog_9_method_7_code 39 = .ok (.aload_n 0, 1) := by decide +kernel
theorem d137_40 : decode prog_9_method_7_code 40 = .ok (.getfield 9, 3) := by decide +kernel
theorem d137_43 : decode prog_9_method_7_code 43 = .ok (.iload_n 1, 1) := by decide +kernel
theorem d137_44 : decode prog_9_method_7_code 44 = .ok (.iaload, 1) := by decide +kernel
theorem d137_45 : decode prog_9_method_7_code 45 = .ok (.ireturn, 1) := by decide +kernel
theorem d138_0 : decode prog_9_method_8_code 0 = .ok (.ldc 73, 2) := by decide +kernel
theorem d138_2 : decode prog_9_method_8_code 2 = .ok (.istore_n 2, 1) := by decide +kernel
theorem d138_3 : decode prog_9_method_8_code 3 = .ok (.iconst 0, 1) := by decide +kernel
theorem d138_4 : decode prog_9_method_8_code 4 = .ok (.istore_n 3, 1) := by decide +kernel
theorem d138_5 : decode prog_9_method_8_code 5 = .ok (.iload_n 3, 1) := by decide +kernel
theorem d138_6 : decode prog_9_method_8_code 6 = .ok (.bipush 12, 2) := by decide +kernel
theorem d138_8 : decode prog_9_method_8_code 8 = .ok (.if_icmp .ge 39, 3) := by decide +kernel
theorem d138_11 : decode prog_9_method_8_code 11 = .ok (.iload_n 1, 1) := by decide +kernel
theorem d138_12 : decode prog_9_method_8_code 12 = .ok (.iload_n 3, 1) := by decide +kernel
theorem d138_13 : decode prog_9_method_8_code 13 = .ok (.ishr, 1) := by decide +kernel
theorem d138_14 : decode prog_9_method_8_code 14 = .ok (.iconst 1, 1) := by decide +kernel
theorem d138_15 : decode prog_9_method_8_code 15 = .ok (.iand, 1) := by decide +kernel
theorem d138_16 : decode prog_9_method_8_code 16 = .ok (.ifCond .eq 25, 3) := by decide +kernel
theorem d138_19 : decode prog_9_method_8_code 19 = .ok (.iload_n 2, 1) := by decide +kernel
theorem d138_20 : decode prog_9_method_8_code 20 = .ok (.aload_n 0, 1) := by decide +kernel
theorem d138_21 : decode prog_9_method_8_code 21 = .ok (.getfield 9, 3) := by decide +kernel
theorem d138_24 : decode prog_9_method_8_code 24 = .ok (.iload_n 1, 1) := by decide +kernel
theorem d138_25 : decode prog_9_method_8_code 25 = .ok (.iconst 1, 1) := by decide +kernel
theorem d138_26 : decode prog_9_method_8_code 26 = .ok (.iload_n 3, 1) := by decide +kernel
theorem d138_27 : decode prog_9_method_8_code 27 = .ok (.ishl, 1) := by decide +kernel
theorem d138_28 : decode prog_9_method_8_code 28 = .ok (.ixor, 1) := by decide +kernel
theorem d138_29 : decode prog_9_method_8_code 29 = .ok (.iaload, 1) := by decide +kernel
theorem d138_30 : decode prog_9_method_8_code 30 = .ok (.aload_n 0, 1) := by decide +kernel
theorem d138_31 : decode prog_9_method_8_code 31 = .ok (.iload_n 3, 1) := by decide +kernel
theorem d138_32 : decode prog_9_method_8_code 32 = .ok (.iload_n 1, 1) := by decide +kernel
theorem d138_33 : decode prog_9_method_8_code 33 = .ok (.invokevirtual 74, 3) := by decide +kernel
theorem d138_36 : decode prog_9_method_8_code 36 = .ok (.iadd, 1) := by decide +kernel
theorem d138_37 : decode prog_9_method_8_code 37 = .ok (.invokestatic 78, 3) := by decide +kernel
theorem d138_40 : decode prog_9_method_8_code 40 = .ok (.istore_n 2, 1) := by decide +kernel
theorem d138_41 : decode prog_9_method_8_code 41 = .ok (.iinc 3 1, 3) := by decide +kernel
theorem d138_44 : decode prog_9_method_8_code 44 = .ok (.goto (-39), 3) := by decide +kernel
theorem d138_47 : decode prog_9_method_8_code 47 = .ok (.iload_n 2, 1) := by decide +kernel
theorem d138_48 : decode prog_9_method_8_code 48 = .ok (.ireturn, 1) := by decide +kernel
theorem d139_0 : decode prog_9_method_9_code 0 = .ok (.iconst 0, 1) := by decide +kernel
theorem d139_1 : decode prog_9_method_9_code 1 = .ok (.istore_n 3, 1) := by decide +kernel
theorem d139_2 : decode prog_9_method_9_code 2 = .ok (.aload_n 0, 1) := by decide +kernel
theorem d139_3 : decode prog_9_method_9_code 3 = .ok (.getfield 18, 3) := by decide +kernel
theorem d139_6 : decode prog_9_method_9_code 6 = .ok (.iload_n 1, 1) := by decide +kernel
theorem d139_7 : decode prog_9_method_9_code 7 = .ok (.iaload, 1) := by decide +kernel
theorem d139_8 : decode prog_9_method_9_code 8 = .ok (.iload_n 2, 1) := by decide +kernel
theorem d139_9 : decode prog_9_method_9_code 9 = .ok (.iand, 1) := by decide +kernel
theorem d139_10 : decode prog_9_method_9_code 10 = .ok (.istore 4, 2) := by decide +kernel
theorem d139_12 : decode prog_9_method_9_code 12 = .ok (.iconst 0, 1) := by decide +kernel
theorem d139_13 : decode prog_9_method_9_code 13 = .ok (.istore 5, 2) := by decide +kernel
theorem d139_15 : decode prog_9_method_9_code 15 = .ok (.iload 5, 2) := by decide +kernel
theorem d139_17 : decode prog_9_method_9_code 17 = .ok (.bipush 12, 2) := by decide +kernel
theorem d139_19 : decode prog_9_method_9_code 19 = .ok (.if_icmp .ge 42, 3) := by decide +kernel
theorem d139_22 : decode prog_9_method_9_code 22 = .ok (.iload 4, 2) := by decide +kernel
theorem d139_24 : decode prog_9_method_9_code 24 = .ok (.iload 5, 2) := by decide +kernel
theorem d139_26 : decode prog_9_method_9_code 26 = .ok (.ishr, 1) := by decide +kernel
theorem d139_27 : decode prog_9_method_9_code 27 = .ok (.ifCond .eq 34, 3) := by decide +kernel
theorem d139_30 : decode prog_9_method_9_code 30 = .ok (.iload 4, 2) := by decide +kernel
theorem d139_32 : decode prog_9_method_9_code 32 = .ok (.iload 5, 2) := by decide +kernel
theorem d139_34 : decode prog_9_method_9_code 34 = .ok (.ishr, 1) := by decide +kernel
theorem d139_35 : decode prog_9_method_9_code 35 = .ok (.iconst 1, 1) := by decide +kernel
theorem d139_36 : decode prog_9_method_9_code 36 = .ok (.iand, 1) := by decide +kernel
theorem d139_37 : decode prog_9_method_9_code 37 = .ok (.ifCond .eq 18, 3) := by decide +kernel
theorem d139_40 : decode prog_9_method_9_code 40 = .ok (.iload_n 3, 1) := by decide +kernel
theorem d139_41 : decode prog_9_method_9_code 41 = .ok (.aload_n 0, 1) := by decide +kernel
theorem d139_42 : decode prog_9_method_9_code 42 = .ok (.getfield 15, 3) := by decide +kernel
theorem d139_45 : decode prog_9_method_9_code 45 = .ok (.iload_n 1, 1) := by decide +kernel
theorem d139_46 : decode prog_9_method_9_code 46 = .ok (.bipush 12, 2) := by decide +kernel
theorem d139_48 : decode prog_9_method_9_code 48 = .ok (.imul, 1) := by decide +kernel
theorem d139_49 : decode prog_9_method_9_code 49 = .ok (.iload 5, 2) := by decide +kernel
theorem d139_51 : decode prog_9_method_9_code 51 = .ok (.iadd, 1) := by decide +kernel
theorem d139_52 : decode prog_9_method_9_code 52 = .ok (.iaload, 1) := by decide +kernel
theorem d139_53 : decode prog_9_method_9_code 53 = .ok (.iadd, 1) := by decide +kernel
theorem d139_54 : decode prog_9_method_9_code 54 = .ok (.istore_n 3, 1) := by decide +kernel
theorem d139_55 : decode prog_9_method_9_code 55 = .ok (.iinc 5 1, 3) := by decide +kernel
theorem d139_58 : decode prog_9_method_9_code 58 = .ok (.goto (-43), 3) := by decide +kernel
theorem d139_61 : decode prog_9_method_9_code 61 = .ok (.iload_n 3, 1) := by decide +kernel
theorem d139_62 : decode prog_9_method_9_code 62 = .ok (.ireturn, 1) := by decide +kernel
theorem d140_0 : decode prog_12_method_47_code 0 = .ok (.iload_n 0, 1) := by decide +kernel
theorem d140_1 : decode prog_12_method_47_code 1 = .ok (.iload_n 1, 1) := by decide +kernel
theorem d140_2 : decode prog_12_method_47_code 2 = .ok (.idiv, 1) := by decide +kernel
theorem d140_3 : decode prog_12_method_47_code 3 = .ok (.istore_n 2, 1) := by decide +kernel
theorem d140_4 : decode prog_12_method_47_code 4 = .ok (.iload_n 0, 1) := by decide +kernel
theorem d140_5 : decode prog_12_method_47_code 5 = .ok (.iload_n 1, 1) := by decide +kernel
theorem d140_6 : decode prog_12_method_47_code 6 = .ok (.ixor, 1) := by decide +kernel
theorem d140_7 : decode prog_12_method_47_code 7 = .ok (.ifCond .ge 14, 3) := by decide +kernel
theorem d140_10 : decode prog_12_method_47_code 10 = .ok (.iload_n 2, 1) := by decide +kernel
theorem d140_11 : decode prog_12_method_47_code 11 = .ok (.iload_n 1, 1) := by decide +kernel
theorem d140_12 : decode prog_12_method_47_code 12 = .ok (.imul, 1) := by decide +kernel
theorem d140_13 : decode prog_12_method_47_code 13 = .ok (.iload_n 0, 1) := by decide +kernel
theorem d140_14 : decode prog_12_method_47_code 14 = .ok (.if_icmp .eq 7, 3) := by decide +kernel
theorem d140_17 : decode prog_12_method_47_code 17 = .ok (.iload_n 2, 1) := by decide +kernel
theorem d140_18 : decode prog_12_method_47_code 18 = .ok (.iconst 1, 1) := by decide +kernel
theorem d140_19 : decode prog_12_method_47_code 19 = .ok (.isub, 1) := by decide +kernel
theorem d140_20 : decode prog_12_method_47_code 20 = .ok (.ireturn, 1) := by decide +kernel
theorem d140_21 : decode prog_12_method_47_code 21 = .ok (.iload_n 2, 1) := by decide +kernel
theorem d140_22 : decode prog_12_method_47_code 22 = .ok (.ireturn, 1) := by decide +kernel
theorem d141_0 : decode prog_14_method_103_code 0 = .ok (.iconst 0, 1) := by decide +kernel
theorem d141_1 : decode prog_14_method_103_code 1 = .ok (.istore_n 2, 1) := by decide +kernel
theorem d141_2 : decode prog_14_method_103_code 2 = .ok (.aload_n 0, 1) := by decide +kernel
theorem d141_3 : decode prog_14_method_103_code 3 = .ok (.arraylength, 1) := by decide +kernel
theorem d141_4 : decode prog_14_method_103_code 4 = .ok (.istore_n 3, 1) := by decide +kernel
theorem d141_5 : decode prog_14_method_103_code 5 = .ok (.iload_n 2, 1) := by decide +kernel
theorem d141_6 : decode prog_14_method_103_code 6 = .ok (.iload_n 3, 1) := by decide +kernel
theorem d141_7 : decode prog_14_method_103_code 7 = .ok (.if_icmp .ge 13, 3) := by decide +kernel
theorem d141_10 : decode prog_14_method_103_code 10 = .ok (.aload_n 0, 1) := by decide +kernel
theorem d141_11 : decode prog_14_method_103_code 11 = .ok (.iload_n 2, 1) := by decide +kernel
theorem d141_12 : decode prog_14_method_103_code 12 = .ok (.iload_n 1, 1) := by decide +kernel
theorem d141_13 : decode prog_14_method_103_code 13 = .ok (.iastore, 1) := by decide +kernel
theorem d141_14 : decode prog_14_method_103_code 14 = .ok (.iinc 2 1, 3) := by decide +kernel
theorem d141_17 : decode prog_14_method_103_code 17 = .ok (.goto (-12), 3) := by decide +kernel
theorem d141_20 : decode prog_14_method_103_code 20 = .ok (.return_, 1) := by decide +kernel
end
section
def pg_tb : List Cond := lw_tbl.filter goodWord
theorem pg_tb_of {w : Cond} (h : w ∈ lw_tbl) (g : goodWord w = true) : w ∈ pg_tb := List.mem_filter.mpr ⟨h, g⟩
theorem pg_tb_good {w : Cond} (h : w ∈ pg_tb) : (w.onTables && w.keeps) = true ∨ ∃ ty, w = .arrayClass ty := good_of_word (List.mem_filter.mp h).2
theorem pg_lmem {α : Type} {i : Nat} {a : α} : ∀ {l : List (Nat × α)}, l.lookup i = some a → (i, a) ∈ l
  | [], h => by simp at h
  | (j, x) :: l, h => by
    rw [List.lookup_cons] at h
    by_cases e : (i == j) = true
    · rw [e] at h
      simp at h e
      subst h
      subst e
      exact List.mem_cons_self
    · simp [e] at h
      exact List.mem_cons_of_mem _ (pg_lmem h)
theorem pg_use {α : Type} {l : List (Nat × α)} {P : Nat × α → Bool} (hc : l.all P = true) {i : Nat} {a : α} (h : l.lookup i = some a) : P (i, a) = true := List.all_eq_true.mp hc _ (pg_lmem h)
def pg_is (p : Nat) (w : Cond) : Bool := decide (lw_tbl[p]? = some w)
theorem pg_is_mem {p : Nat} {w : Cond} (h : pg_is p w = true) : w ∈ lw_tbl := List.mem_of_getElem? (of_decide_eq_true h)
def pg_T (ci : Nat) : u_T := (pg_cl.getD ci ("", fun _ => ("", "", "", false), 0)).2.1
def pg_C (ci : Nat) : String := (pg_cl.getD ci ("", fun _ => ("", "", "", false), 0)).1
def pg_fldp : List (List (Nat × Nat)) := [[(9, 90), (15, 94), (18, 98), (21, 102), (25, 108), (29, 115), (32, 122)], [(9, 172), (15, 175), (18, 177), (21, 178), (24, 182), (27, 183), (31, 186), (34, 188), (37, 117), (48, 100), (51, 96), (64, 111), (75, 104), (104, 125)], [(9, 251), (17, 255), (20, 258), (23, 259), (26, 261), (29, 262), (32, 263), (36, 266), (39, 268), (62, 184), (71, 113), (76, 179), (83, 120), (86, 106), (94, 174), (109, 220), (112, 228), (115, 224)], [(9, 295), (15, 296), (18, 297), (21, 298), (24, 299), (27, 300), (30, 301), (44, 265), (53, 253), (91, 225), (97, 229), (100, 221), (103, 260)], [(9, 215), (15, 216), (18, 218), (23, 222), (26, 226), (29, 230), (33, 173), (42, 176), (51, 92), (56, 112), (65, 119), (68, 105), (76, 180)], [(9, 324), (15, 326), (18, 327), (21, 328), (31, 264), (40, 252), (43, 256), (47, 217), (61, 219), (64, 223), (67, 227)], [(9, 345), (15, 347), (18, 348), (21, 349), (30, 116), (36, 103), (40, 99), (43, 95), (46, 123), (49, 110), (78, 93)], [(9, 149), (15, 150), (18, 151), (21, 152), (25, 153), (44, 114), (49, 121), (52, 97), (55, 101), (58, 107)], [(12, 359), (19, 360), (26, 361), (33, 362), (40, 363), (47, 364), (54, 365), (61, 366), (65, 367), (69, 368), (72, 369), (75, 370), (82, 109), (99, 91), (103, 118), (117, 124), (126, 154), (132, 181), (135, 185), (138, 187), (141, 189), (156, 267), (159, 269), (165, 254), (168, 257), (174, 302), (180, 325), (190, 329), (201, 346)], [(7, 769), (13, 770), (16, 771), (19, 772), (23, 773), (27, 775), (30, 776), (33, 777), (36, 778), (39, 779), (42, 780), (45, 781), (49, 782), (52, 783), (55, 784), (58, 785), (61, 786), (64, 787), (67, 789), (70, 790), (73, 791), (76, 792), (79, 795), (82, 796), (85, 797), (88, 798), (91, 799), (94, 800), (97, 801), (100, 802), (103, 774), (106, 766), (110, 767), (120, 768), (161, 788), (168, 793), (171, 794)], [], [], []]
set_option maxRecDepth 100000 in
theorem pg_kF_0 : ((pg_flds.getD 0 []).all fun e => pg_is (((pg_fldp.getD 0 []).lookup e.1).getD 0) (Cond.fieldLink (pg_cn 0) e.1 (pg_C e.2.1) (pg_T e.2.1 e.2.2).2.1 (pg_T e.2.1 e.2.2).2.2.1) && (decide (e.2.1 < 10) && decide (e.2.2 < pg_nf e.2.1))) = true := by decide +kernel
set_option maxRecDepth 100000 in
theorem pg_kF_1 : ((pg_flds.getD 1 []).all fun e => pg_is (((pg_fldp.getD 1 []).lookup e.1).getD 0) (Cond.fieldLink (pg_cn 1) e.1 (pg_C e.2.1) (pg_T e.2.1 e.2.2).2.1 (pg_T e.2.1 e.2.2).2.2.1) && (decide (e.2.1 < 10) && decide (e.2.2 < pg_nf e.2.1))) = true := by decide +kernel
set_option maxRecDepth 100000 in
theorem pg_kF_2 : ((pg_flds.getD 2 []).all fun e => pg_is (((pg_fldp.getD 2 []).lookup e.1).getD 0) (Cond.fieldLink (pg_cn 2) e.1 (pg_C e.2.1) (pg_T e.2.1 e.2.2).2.1 (pg_T e.2.1 e.2.2).2.2.1) && (decide (e.2.1 < 10) && decide (e.2.2 < pg_nf e.2.1))) = true := by decide +kernel
set_option maxRecDepth 100000 in
theorem pg_kF_3 : ((pg_flds.getD 3 []).all fun e => pg_is (((pg_fldp.getD 3 []).lookup e.1).getD 0) (Cond.fieldLink (pg_cn 3) e.1 (pg_C e.2.1) (pg_T e.2.1 e.2.2).2.1 (pg_T e.2.1 e.2.2).2.2.1) && (decide (e.2.1 < 10) && decide (e.2.2 < pg_nf e.2.1))) = true := by decide +kernel
set_option maxRecDepth 100000 in
theorem pg_kF_4 : ((pg_flds.getD 4 []).all fun e => pg_is (((pg_fldp.getD 4 []).lookup e.1).getD 0) (Cond.fieldLink (pg_cn 4) e.1 (pg_C e.2.1) (pg_T e.2.1 e.2.2).2.1 (pg_T e.2.1 e.2.2).2.2.1) && (decide (e.2.1 < 10) && decide (e.2.2 < pg_nf e.2.1))) = true := by decide +kernel
set_option maxRecDepth 100000 in
theorem pg_kF_5 : ((pg_flds.getD 5 []).all fun e => pg_is (((pg_fldp.getD 5 []).lookup e.1).getD 0) (Cond.fieldLink (pg_cn 5) e.1 (pg_C e.2.1) (pg_T e.2.1 e.2.2).2.1 (pg_T e.2.1 e.2.2).2.2.1) && (decide (e.2.1 < 10) && decide (e.2.2 < pg_nf e.2.1))) = true := by decide +kernel
set_option maxRecDepth 100000 in
theorem pg_kF_6 : ((pg_flds.getD 6 []).all fun e => pg_is (((pg_fldp.getD 6 []).lookup e.1).getD 0) (Cond.fieldLink (pg_cn 6) e.1 (pg_C e.2.1) (pg_T e.2.1 e.2.2).2.1 (pg_T e.2.1 e.2.2).2.2.1) && (decide (e.2.1 < 10) && decide (e.2.2 < pg_nf e.2.1))) = true := by decide +kernel
set_option maxRecDepth 100000 in
theorem pg_kF_7 : ((pg_flds.getD 7 []).all fun e => pg_is (((pg_fldp.getD 7 []).lookup e.1).getD 0) (Cond.fieldLink (pg_cn 7) e.1 (pg_C e.2.1) (pg_T e.2.1 e.2.2).2.1 (pg_T e.2.1 e.2.2).2.2.1) && (decide (e.2.1 < 10) && decide (e.2.2 < pg_nf e.2.1))) = true := by decide +kernel
set_option maxRecDepth 100000 in
theorem pg_kF_8 : ((pg_flds.getD 8 []).all fun e => pg_is (((pg_fldp.getD 8 []).lookup e.1).getD 0) (Cond.fieldLink (pg_cn 8) e.1 (pg_C e.2.1) (pg_T e.2.1 e.2.2).2.1 (pg_T e.2.1 e.2.2).2.2.1) && (decide (e.2.1 < 10) && decide (e.2.2 < pg_nf e.2.1))) = true := by decide +kernel
set_option maxRecDepth 100000 in
theorem pg_kF_9 : ((pg_flds.getD 9 []).all fun e => pg_is (((pg_fldp.getD 9 []).lookup e.1).getD 0) (Cond.fieldLink (pg_cn 9) e.1 (pg_C e.2.1) (pg_T e.2.1 e.2.2).2.1 (pg_T e.2.1 e.2.2).2.2.1) && (decide (e.2.1 < 10) && decide (e.2.2 < pg_nf e.2.1))) = true := by decide +kernel
set_option maxRecDepth 100000 in
theorem pg_kF_10 : ((pg_flds.getD 10 []).all fun e => pg_is (((pg_fldp.getD 10 []).lookup e.1).getD 0) (Cond.fieldLink (pg_cn 10) e.1 (pg_C e.2.1) (pg_T e.2.1 e.2.2).2.1 (pg_T e.2.1 e.2.2).2.2.1) && (decide (e.2.1 < 10) && decide (e.2.2 < pg_nf e.2.1))) = true := by decide +kernel
set_option maxRecDepth 100000 in
theorem pg_kF_11 : ((pg_flds.getD 11 []).all fun e => pg_is (((pg_fldp.getD 11 []).lookup e.1).getD 0) (Cond.fieldLink (pg_cn 11) e.1 (pg_C e.2.1) (pg_T e.2.1 e.2.2).2.1 (pg_T e.2.1 e.2.2).2.2.1) && (decide (e.2.1 < 10) && decide (e.2.2 < pg_nf e.2.1))) = true := by decide +kernel
set_option maxRecDepth 100000 in
theorem pg_kF_12 : ((pg_flds.getD 12 []).all fun e => pg_is (((pg_fldp.getD 12 []).lookup e.1).getD 0) (Cond.fieldLink (pg_cn 12) e.1 (pg_C e.2.1) (pg_T e.2.1 e.2.2).2.1 (pg_T e.2.1 e.2.2).2.2.1) && (decide (e.2.1 < 10) && decide (e.2.2 < pg_nf e.2.1))) = true := by decide +kernel
theorem pg_kF : ∀ o, ((pg_flds.getD o []).all fun e => pg_is (((pg_fldp.getD o []).lookup e.1).getD 0) (Cond.fieldLink (pg_cn o) e.1 (pg_C e.2.1) (pg_T e.2.1 e.2.2).2.1 (pg_T e.2.1 e.2.2).2.2.1) && (decide (e.2.1 < 10) && decide (e.2.2 < pg_nf e.2.1))) = true
  | 0 => pg_kF_0
  | 1 => pg_kF_1
  | 2 => pg_kF_2
  | 3 => pg_kF_3
  | 4 => pg_kF_4
  | 5 => pg_kF_5
  | 6 => pg_kF_6
  | 7 => pg_kF_7
  | 8 => pg_kF_8
  | 9 => pg_kF_9
  | 10 => pg_kF_10
  | 11 => pg_kF_11
  | 12 => pg_kF_12
  | _ + 13 => rfl
def pg_mthp : List (List (Nat × Nat)) := [[(3, 89)], [(3, 171), (42, 497), (54, 501), (60, 502), (67, 513), (71, 527), (79, 506), (83, 510), (89, 517), (95, 522), (98, 523), (101, 531)], [(3, 249), (42, 581), (46, 592), (50, 600), (54, 605), (58, 621), (65, 585), (79, 586), (90, 590), (97, 591), (103, 604), (118, 609), (122, 613), (125, 617), (129, 596)], [(3, 294), (34, 663), (38, 666), (49, 667), (56, 671), (60, 694), (63, 686), (72, 675), (76, 678), (79, 682), (82, 687), (85, 693), (106, 690)], [(3, 212), (38, 568), (45, 564), (59, 565), (72, 569), (79, 573)], [(3, 323), (25, 629), (36, 630), (52, 634), (56, 638)], [(3, 344), (24, 724), (52, 729), (56, 733), (60, 737), (64, 748), (68, 752), (72, 756), (81, 741), (84, 747), (90, 746)], [(3, 148), (28, 474), (32, 463), (36, 466), (40, 477), (62, 470), (68, 481), (74, 486), (78, 490)], [(3, 81), (11, 86), (18, 145), (25, 168), (32, 209), (39, 246), (46, 291), (53, 320), (60, 341), (78, 400), (86, 403), (89, 411), (93, 419), (96, 407), (106, 427), (110, 435), (113, 439), (120, 447), (123, 455), (129, 539), (144, 560), (148, 577), (152, 625), (162, 647), (172, 659), (177, 702), (183, 710), (186, 711), (193, 720), (197, 725), (202, 459), (204, 493)], [(1, 764), (113, 882), (116, 890), (123, 902), (127, 922), (131, 931), (135, 935), (139, 939), (142, 918), (145, 927), (148, 914), (151, 955), (154, 963), (158, 971), (164, 995), (174, 979), (177, 983), (180, 987), (183, 991), (187, 999), (190, 1003), (194, 1007), (199, 1027), (202, 1031), (205, 1051), (209, 1055), (212, 1059), (215, 1063)], [(9, 78), (12, 761), (13, 396), (17, 878), (18, 415), (22, 886), (23, 423), (26, 894), (27, 431), (30, 898), (31, 443), (35, 906), (36, 451), (39, 910), (40, 535), (43, 943), (44, 540), (47, 947), (48, 544), (51, 951), (52, 548), (55, 959), (56, 552), (59, 967), (60, 556), (63, 975), (64, 639), (67, 1010), (68, 643), (71, 1014), (72, 651), (75, 1018), (76, 655), (79, 1022), (80, 698), (83, 1035), (84, 706), (87, 1039), (88, 712), (91, 1043), (92, 716), (95, 1047)], [], []]
set_option maxRecDepth 100000 in
theorem pg_kM_0 : ((pg_mths.getD 0 []).all fun e => decide (e.2 < 142) && (if pg_kd e.2 = 2 then decide (0 = 10) || pg_is (((pg_mthp.getD 0 []).lookup e.1).getD 0) (Cond.methodLinkNest (pg_cn 0) e.1 (pg_name e.2) "LayerDrawing") else pg_is (((pg_mthp.getD 0 []).lookup e.1).getD 0) (Cond.methodLink (pg_cn 0) e.1 (pg_name e.2)))) = true := by decide +kernel
set_option maxRecDepth 100000 in
theorem pg_kM_1 : ((pg_mths.getD 1 []).all fun e => decide (e.2 < 142) && (if pg_kd e.2 = 2 then decide (1 = 10) || pg_is (((pg_mthp.getD 1 []).lookup e.1).getD 0) (Cond.methodLinkNest (pg_cn 1) e.1 (pg_name e.2) "LayerDrawing") else pg_is (((pg_mthp.getD 1 []).lookup e.1).getD 0) (Cond.methodLink (pg_cn 1) e.1 (pg_name e.2)))) = true := by decide +kernel
set_option maxRecDepth 100000 in
theorem pg_kM_2 : ((pg_mths.getD 2 []).all fun e => decide (e.2 < 142) && (if pg_kd e.2 = 2 then decide (2 = 10) || pg_is (((pg_mthp.getD 2 []).lookup e.1).getD 0) (Cond.methodLinkNest (pg_cn 2) e.1 (pg_name e.2) "LayerDrawing") else pg_is (((pg_mthp.getD 2 []).lookup e.1).getD 0) (Cond.methodLink (pg_cn 2) e.1 (pg_name e.2)))) = true := by decide +kernel
set_option maxRecDepth 100000 in
theorem pg_kM_3 : ((pg_mths.getD 3 []).all fun e => decide (e.2 < 142) && (if pg_kd e.2 = 2 then decide (3 = 10) || pg_is (((pg_mthp.getD 3 []).lookup e.1).getD 0) (Cond.methodLinkNest (pg_cn 3) e.1 (pg_name e.2) "LayerDrawing") else pg_is (((pg_mthp.getD 3 []).lookup e.1).getD 0) (Cond.methodLink (pg_cn 3) e.1 (pg_name e.2)))) = true := by decide +kernel
set_option maxRecDepth 100000 in
theorem pg_kM_4 : ((pg_mths.getD 4 []).all fun e => decide (e.2 < 142) && (if pg_kd e.2 = 2 then decide (4 = 10) || pg_is (((pg_mthp.getD 4 []).lookup e.1).getD 0) (Cond.methodLinkNest (pg_cn 4) e.1 (pg_name e.2) "LayerDrawing") else pg_is (((pg_mthp.getD 4 []).lookup e.1).getD 0) (Cond.methodLink (pg_cn 4) e.1 (pg_name e.2)))) = true := by decide +kernel
set_option maxRecDepth 100000 in
theorem pg_kM_5 : ((pg_mths.getD 5 []).all fun e => decide (e.2 < 142) && (if pg_kd e.2 = 2 then decide (5 = 10) || pg_is (((pg_mthp.getD 5 []).lookup e.1).getD 0) (Cond.methodLinkNest (pg_cn 5) e.1 (pg_name e.2) "LayerDrawing") else pg_is (((pg_mthp.getD 5 []).lookup e.1).getD 0) (Cond.methodLink (pg_cn 5) e.1 (pg_name e.2)))) = true := by decide +kernel
set_option maxRecDepth 100000 in
theorem pg_kM_6 : ((pg_mths.getD 6 []).all fun e => decide (e.2 < 142) && (if pg_kd e.2 = 2 then decide (6 = 10) || pg_is (((pg_mthp.getD 6 []).lookup e.1).getD 0) (Cond.methodLinkNest (pg_cn 6) e.1 (pg_name e.2) "LayerDrawing") else pg_is (((pg_mthp.getD 6 []).lookup e.1).getD 0) (Cond.methodLink (pg_cn 6) e.1 (pg_name e.2)))) = true := by decide +kernel
set_option maxRecDepth 100000 in
theorem pg_kM_7 : ((pg_mths.getD 7 []).all fun e => decide (e.2 < 142) && (if pg_kd e.2 = 2 then decide (7 = 10) || pg_is (((pg_mthp.getD 7 []).lookup e.1).getD 0) (Cond.methodLinkNest (pg_cn 7) e.1 (pg_name e.2) "LayerDrawing") else pg_is (((pg_mthp.getD 7 []).lookup e.1).getD 0) (Cond.methodLink (pg_cn 7) e.1 (pg_name e.2)))) = true := by decide +kernel
set_option maxRecDepth 100000 in
theorem pg_kM_8 : ((pg_mths.getD 8 []).all fun e => decide (e.2 < 142) && (if pg_kd e.2 = 2 then decide (8 = 10) || pg_is (((pg_mthp.getD 8 []).lookup e.1).getD 0) (Cond.methodLinkNest (pg_cn 8) e.1 (pg_name e.2) "LayerDrawing") else pg_is (((pg_mthp.getD 8 []).lookup e.1).getD 0) (Cond.methodLink (pg_cn 8) e.1 (pg_name e.2)))) = true := by decide +kernel
set_option maxRecDepth 100000 in
theorem pg_kM_9 : ((pg_mths.getD 9 []).all fun e => decide (e.2 < 142) && (if pg_kd e.2 = 2 then decide (9 = 10) || pg_is (((pg_mthp.getD 9 []).lookup e.1).getD 0) (Cond.methodLinkNest (pg_cn 9) e.1 (pg_name e.2) "LayerDrawing") else pg_is (((pg_mthp.getD 9 []).lookup e.1).getD 0) (Cond.methodLink (pg_cn 9) e.1 (pg_name e.2)))) = true := by decide +kernel
set_option maxRecDepth 100000 in
theorem pg_kM_10 : ((pg_mths.getD 10 []).all fun e => decide (e.2 < 142) && (if pg_kd e.2 = 2 then decide (10 = 10) || pg_is (((pg_mthp.getD 10 []).lookup e.1).getD 0) (Cond.methodLinkNest (pg_cn 10) e.1 (pg_name e.2) "LayerDrawing") else pg_is (((pg_mthp.getD 10 []).lookup e.1).getD 0) (Cond.methodLink (pg_cn 10) e.1 (pg_name e.2)))) = true := by decide +kernel
set_option maxRecDepth 100000 in
theorem pg_kM_11 : ((pg_mths.getD 11 []).all fun e => decide (e.2 < 142) && (if pg_kd e.2 = 2 then decide (11 = 10) || pg_is (((pg_mthp.getD 11 []).lookup e.1).getD 0) (Cond.methodLinkNest (pg_cn 11) e.1 (pg_name e.2) "LayerDrawing") else pg_is (((pg_mthp.getD 11 []).lookup e.1).getD 0) (Cond.methodLink (pg_cn 11) e.1 (pg_name e.2)))) = true := by decide +kernel
set_option maxRecDepth 100000 in
theorem pg_kM_12 : ((pg_mths.getD 12 []).all fun e => decide (e.2 < 142) && (if pg_kd e.2 = 2 then decide (12 = 10) || pg_is (((pg_mthp.getD 12 []).lookup e.1).getD 0) (Cond.methodLinkNest (pg_cn 12) e.1 (pg_name e.2) "LayerDrawing") else pg_is (((pg_mthp.getD 12 []).lookup e.1).getD 0) (Cond.methodLink (pg_cn 12) e.1 (pg_name e.2)))) = true := by decide +kernel
theorem pg_kM : ∀ o, ((pg_mths.getD o []).all fun e => decide (e.2 < 142) && (if pg_kd e.2 = 2 then decide (o = 10) || pg_is (((pg_mthp.getD o []).lookup e.1).getD 0) (Cond.methodLinkNest (pg_cn o) e.1 (pg_name e.2) "LayerDrawing") else pg_is (((pg_mthp.getD o []).lookup e.1).getD 0) (Cond.methodLink (pg_cn o) e.1 (pg_name e.2)))) = true
  | 0 => pg_kM_0
  | 1 => pg_kM_1
  | 2 => pg_kM_2
  | 3 => pg_kM_3
  | 4 => pg_kM_4
  | 5 => pg_kM_5
  | 6 => pg_kM_6
  | 7 => pg_kM_7
  | 8 => pg_kM_8
  | 9 => pg_kM_9
  | 10 => pg_kM_10
  | 11 => pg_kM_11
  | 12 => pg_kM_12
  | _ + 13 => rfl
def pg_newp : List (List (Nat × Nat)) := [[], [], [], [], [], [], [], [], [(9, 84), (16, 143), (23, 166), (30, 207), (37, 244), (44, 289), (51, 318), (58, 339)], [], [(7, 76), (10, 759)], [], []]
set_option maxRecDepth 100000 in
theorem pg_kN_0 : ((pg_news.getD 0 []).all fun e => pg_is (((pg_newp.getD 0 []).lookup e.1).getD 0) (Cond.classLink (pg_cn 0) e.1 (pg_C e.2)) && decide (e.2 < 10)) = true := by decide +kernel
set_option maxRecDepth 100000 in
theorem pg_kN_1 : ((pg_news.getD 1 []).all fun e => pg_is (((pg_newp.getD 1 []).lookup e.1).getD 0) (Cond.classLink (pg_cn 1) e.1 (pg_C e.2)) && decide (e.2 < 10)) = true := by decide +kernel
set_option maxRecDepth 100000 in
theorem pg_kN_2 : ((pg_news.getD 2 []).all fun e => pg_is (((pg_newp.getD 2 []).lookup e.1).getD 0) (Cond.classLink (pg_cn 2) e.1 (pg_C e.2)) && decide (e.2 < 10)) = true := by decide +kernel
set_option maxRecDepth 100000 in
theorem pg_kN_3 : ((pg_news.getD 3 []).all fun e => pg_is (((pg_newp.getD 3 []).lookup e.1).getD 0) (Cond.classLink (pg_cn 3) e.1 (pg_C e.2)) && decide (e.2 < 10)) = true := by decide +kernel
set_option maxRecDepth 100000 in
theorem pg_kN_4 : ((pg_news.getD 4 []).all fun e => pg_is (((pg_newp.getD 4 []).lookup e.1).getD 0) (Cond.classLink (pg_cn 4) e.1 (pg_C e.2)) && decide (e.2 < 10)) = true := by decide +kernel
set_option maxRecDepth 100000 in
theorem pg_kN_5 : ((pg_news.getD 5 []).all fun e => pg_is (((pg_newp.getD 5 []).lookup e.1).getD 0) (Cond.classLink (pg_cn 5) e.1 (pg_C e.2)) && decide (e.2 < 10)) = true := by decide +kernel
set_option maxRecDepth 100000 in
theorem pg_kN_6 : ((pg_news.getD 6 []).all fun e => pg_is (((pg_newp.getD 6 []).lookup e.1).getD 0) (Cond.classLink (pg_cn 6) e.1 (pg_C e.2)) && decide (e.2 < 10)) = true := by decide +kernel
set_option maxRecDepth 100000 in
theorem pg_kN_7 : ((pg_news.getD 7 []).all fun e => pg_is (((pg_newp.getD 7 []).lookup e.1).getD 0) (Cond.classLink (pg_cn 7) e.1 (pg_C e.2)) && decide (e.2 < 10)) = true := by decide +kernel
set_option maxRecDepth 100000 in
theorem pg_kN_8 : ((pg_news.getD 8 []).all fun e => pg_is (((pg_newp.getD 8 []).lookup e.1).getD 0) (Cond.classLink (pg_cn 8) e.1 (pg_C e.2)) && decide (e.2 < 10)) = true := by decide +kernel
set_option maxRecDepth 100000 in
theorem pg_kN_9 : ((pg_news.getD 9 []).all fun e => pg_is (((pg_newp.getD 9 []).lookup e.1).getD 0) (Cond.classLink (pg_cn 9) e.1 (pg_C e.2)) && decide (e.2 < 10)) = true := by decide +kernel
set_option maxRecDepth 100000 in
theorem pg_kN_10 : ((pg_news.getD 10 []).all fun e => pg_is (((pg_newp.getD 10 []).lookup e.1).getD 0) (Cond.classLink (pg_cn 10) e.1 (pg_C e.2)) && decide (e.2 < 10)) = true := by decide +kernel
set_option maxRecDepth 100000 in
theorem pg_kN_11 : ((pg_news.getD 11 []).all fun e => pg_is (((pg_newp.getD 11 []).lookup e.1).getD 0) (Cond.classLink (pg_cn 11) e.1 (pg_C e.2)) && decide (e.2 < 10)) = true := by decide +kernel
set_option maxRecDepth 100000 in
theorem pg_kN_12 : ((pg_news.getD 12 []).all fun e => pg_is (((pg_newp.getD 12 []).lookup e.1).getD 0) (Cond.classLink (pg_cn 12) e.1 (pg_C e.2)) && decide (e.2 < 10)) = true := by decide +kernel
theorem pg_kN : ∀ o, ((pg_news.getD o []).all fun e => pg_is (((pg_newp.getD o []).lookup e.1).getD 0) (Cond.classLink (pg_cn o) e.1 (pg_C e.2)) && decide (e.2 < 10)) = true
  | 0 => pg_kN_0
  | 1 => pg_kN_1
  | 2 => pg_kN_2
  | 3 => pg_kN_3
  | 4 => pg_kN_4
  | 5 => pg_kN_5
  | 6 => pg_kN_6
  | 7 => pg_kN_7
  | 8 => pg_kN_8
  | 9 => pg_kN_9
  | 10 => pg_kN_10
  | 11 => pg_kN_11
  | 12 => pg_kN_12
  | _ + 13 => rfl
def pg_grp : List (List (Nat × Nat)) := [[], [], [(15, 250)], [], [(21, 213)], [], [], [], [], [], [], [], []]
set_option maxRecDepth 100000 in
theorem pg_kG_0 : ((pg_grs.getD 0 []).all fun e => pg_is (((pg_grp.getD 0 []).lookup e.1).getD 0) (Cond.classLink (pg_cn 0) e.1 "[[I")) = true := by decide +kernel
set_option maxRecDepth 100000 in
theorem pg_kG_1 : ((pg_grs.getD 1 []).all fun e => pg_is (((pg_grp.getD 1 []).lookup e.1).getD 0) (Cond.classLink (pg_cn 1) e.1 "[[I")) = true := by decide +kernel
set_option maxRecDepth 100000 in
theorem pg_kG_2 : ((pg_grs.getD 2 []).all fun e => pg_is (((pg_grp.getD 2 []).lookup e.1).getD 0) (Cond.classLink (pg_cn 2) e.1 "[[I")) = true := by decide +kernel
set_option maxRecDepth 100000 in
theorem pg_kG_3 : ((pg_grs.getD 3 []).all fun e => pg_is (((pg_grp.getD 3 []).lookup e.1).getD 0) (Cond.classLink (pg_cn 3) e.1 "[[I")) = true := by decide +kernel
set_option maxRecDepth 100000 in
theorem pg_kG_4 : ((pg_grs.getD 4 []).all fun e => pg_is (((pg_grp.getD 4 []).lookup e.1).getD 0) (Cond.classLink (pg_cn 4) e.1 "[[I")) = true := by decide +kernel
set_option maxRecDepth 100000 in
theorem pg_kG_5 : ((pg_grs.getD 5 []).all fun e => pg_is (((pg_grp.getD 5 []).lookup e.1).getD 0) (Cond.classLink (pg_cn 5) e.1 "[[I")) = true := by decide +kernel
set_option maxRecDepth 100000 in
theorem pg_kG_6 : ((pg_grs.getD 6 []).all fun e => pg_is (((pg_grp.getD 6 []).lookup e.1).getD 0) (Cond.classLink (pg_cn 6) e.1 "[[I")) = true := by decide +kernel
set_option maxRecDepth 100000 in
theorem pg_kG_7 : ((pg_grs.getD 7 []).all fun e => pg_is (((pg_grp.getD 7 []).lookup e.1).getD 0) (Cond.classLink (pg_cn 7) e.1 "[[I")) = true := by decide +kernel
set_option maxRecDepth 100000 in
theorem pg_kG_8 : ((pg_grs.getD 8 []).all fun e => pg_is (((pg_grp.getD 8 []).lookup e.1).getD 0) (Cond.classLink (pg_cn 8) e.1 "[[I")) = true := by decide +kernel
set_option maxRecDepth 100000 in
theorem pg_kG_9 : ((pg_grs.getD 9 []).all fun e => pg_is (((pg_grp.getD 9 []).lookup e.1).getD 0) (Cond.classLink (pg_cn 9) e.1 "[[I")) = true := by decide +kernel
set_option maxRecDepth 100000 in
theorem pg_kG_10 : ((pg_grs.getD 10 []).all fun e => pg_is (((pg_grp.getD 10 []).lookup e.1).getD 0) (Cond.classLink (pg_cn 10) e.1 "[[I")) = true := by decide +kernel
set_option maxRecDepth 100000 in
theorem pg_kG_11 : ((pg_grs.getD 11 []).all fun e => pg_is (((pg_grp.getD 11 []).lookup e.1).getD 0) (Cond.classLink (pg_cn 11) e.1 "[[I")) = true := by decide +kernel
set_option maxRecDepth 100000 in
theorem pg_kG_12 : ((pg_grs.getD 12 []).all fun e => pg_is (((pg_grp.getD 12 []).lookup e.1).getD 0) (Cond.classLink (pg_cn 12) e.1 "[[I")) = true := by decide +kernel
theorem pg_kG : ∀ o, ((pg_grs.getD o []).all fun e => pg_is (((pg_grp.getD o []).lookup e.1).getD 0) (Cond.classLink (pg_cn o) e.1 "[[I")) = true
  | 0 => pg_kG_0
  | 1 => pg_kG_1
  | 2 => pg_kG_2
  | 3 => pg_kG_3
  | 4 => pg_kG_4
  | 5 => pg_kG_5
  | 6 => pg_kG_6
  | 7 => pg_kG_7
  | 8 => pg_kG_8
  | 9 => pg_kG_9
  | 10 => pg_kG_10
  | 11 => pg_kG_11
  | 12 => pg_kG_12
  | _ + 13 => rfl
def pg_ldcp : List (List (Nat × Nat)) := [[], [(94, 521)], [], [(71, 674)], [], [], [(89, 745)], [(43, 473), (73, 485)], [], [(48, 765), (126, 926)], [], [], []]
set_option maxRecDepth 100000 in
theorem pg_kL_0 : ((pg_ldcs.getD 0 []).all fun e => pg_is (((pg_ldcp.getD 0 []).lookup e.1).getD 0) (Cond.constant (pg_cn 0) e.1 e.2)) = true := by decide +kernel
set_option maxRecDepth 100000 in
theorem pg_kL_1 : ((pg_ldcs.getD 1 []).all fun e => pg_is (((pg_ldcp.getD 1 []).lookup e.1).getD 0) (Cond.constant (pg_cn 1) e.1 e.2)) = true := by decide +kernel
set_option maxRecDepth 100000 in
theorem pg_kL_2 : ((pg_ldcs.getD 2 []).all fun e => pg_is (((pg_ldcp.getD 2 []).lookup e.1).getD 0) (Cond.constant (pg_cn 2) e.1 e.2)) = true := by decide +kernel
set_option maxRecDepth 100000 in
theorem pg_kL_3 : ((pg_ldcs.getD 3 []).all fun e => pg_is (((pg_ldcp.getD 3 []).lookup e.1).getD 0) (Cond.constant (pg_cn 3) e.1 e.2)) = true := by decide +kernel
set_option maxRecDepth 100000 in
theorem pg_kL_4 : ((pg_ldcs.getD 4 []).all fun e => pg_is (((pg_ldcp.getD 4 []).lookup e.1).getD 0) (Cond.constant (pg_cn 4) e.1 e.2)) = true := by decide +kernel
set_option maxRecDepth 100000 in
theorem pg_kL_5 : ((pg_ldcs.getD 5 []).all fun e => pg_is (((pg_ldcp.getD 5 []).lookup e.1).getD 0) (Cond.constant (pg_cn 5) e.1 e.2)) = true := by decide +kernel
set_option maxRecDepth 100000 in
theorem pg_kL_6 : ((pg_ldcs.getD 6 []).all fun e => pg_is (((pg_ldcp.getD 6 []).lookup e.1).getD 0) (Cond.constant (pg_cn 6) e.1 e.2)) = true := by decide +kernel
set_option maxRecDepth 100000 in
theorem pg_kL_7 : ((pg_ldcs.getD 7 []).all fun e => pg_is (((pg_ldcp.getD 7 []).lookup e.1).getD 0) (Cond.constant (pg_cn 7) e.1 e.2)) = true := by decide +kernel
set_option maxRecDepth 100000 in
theorem pg_kL_8 : ((pg_ldcs.getD 8 []).all fun e => pg_is (((pg_ldcp.getD 8 []).lookup e.1).getD 0) (Cond.constant (pg_cn 8) e.1 e.2)) = true := by decide +kernel
set_option maxRecDepth 100000 in
theorem pg_kL_9 : ((pg_ldcs.getD 9 []).all fun e => pg_is (((pg_ldcp.getD 9 []).lookup e.1).getD 0) (Cond.constant (pg_cn 9) e.1 e.2)) = true := by decide +kernel
set_option maxRecDepth 100000 in
theorem pg_kL_10 : ((pg_ldcs.getD 10 []).all fun e => pg_is (((pg_ldcp.getD 10 []).lookup e.1).getD 0) (Cond.constant (pg_cn 10) e.1 e.2)) = true := by decide +kernel
set_option maxRecDepth 100000 in
theorem pg_kL_11 : ((pg_ldcs.getD 11 []).all fun e => pg_is (((pg_ldcp.getD 11 []).lookup e.1).getD 0) (Cond.constant (pg_cn 11) e.1 e.2)) = true := by decide +kernel
set_option maxRecDepth 100000 in
theorem pg_kL_12 : ((pg_ldcs.getD 12 []).all fun e => pg_is (((pg_ldcp.getD 12 []).lookup e.1).getD 0) (Cond.constant (pg_cn 12) e.1 e.2)) = true := by decide +kernel
theorem pg_kL : ∀ o, ((pg_ldcs.getD o []).all fun e => pg_is (((pg_ldcp.getD o []).lookup e.1).getD 0) (Cond.constant (pg_cn o) e.1 e.2)) = true
  | 0 => pg_kL_0
  | 1 => pg_kL_1
  | 2 => pg_kL_2
  | 3 => pg_kL_3
  | 4 => pg_kL_4
  | 5 => pg_kL_5
  | 6 => pg_kL_6
  | 7 => pg_kL_7
  | 8 => pg_kL_8
  | 9 => pg_kL_9
  | 10 => pg_kL_10
  | 11 => pg_kL_11
  | 12 => pg_kL_12
  | _ + 13 => rfl
def pg_spn (k : Nat) : MethodName := if k = 1 then Lib.objectInit else if k = 2 then Lib.Math.max.name else if k = 3 then Lib.Math.min.name else arraycopyName
def pg_spp : List (List (Nat × Nat)) := [[(3, 89)], [(3, 171), (42, 497), (54, 501), (60, 502), (67, 513), (71, 527), (79, 506), (83, 510), (89, 517), (95, 522), (98, 523), (101, 531)], [(3, 249), (42, 581), (46, 592), (50, 600), (54, 605), (58, 621), (65, 585), (79, 586), (90, 590), (97, 591), (103, 604), (118, 609), (122, 613), (125, 617), (129, 596)], [(3, 294), (34, 663), (38, 666), (49, 667), (56, 671), (60, 694), (63, 686), (72, 675), (76, 678), (79, 682), (82, 687), (85, 693), (106, 690)], [(3, 212), (38, 568), (45, 564), (59, 565), (72, 569), (79, 573)], [(3, 323), (25, 629), (36, 630), (52, 634), (56, 638)], [(3, 344), (24, 724), (52, 729), (56, 733), (60, 737), (64, 748), (68, 752), (72, 756), (81, 741), (84, 747), (90, 746)], [(3, 148), (28, 474), (32, 463), (36, 466), (40, 477), (62, 470), (68, 481), (74, 486), (78, 490)], [(3, 81), (11, 86), (18, 145), (25, 168), (32, 209), (39, 246), (46, 291), (53, 320), (60, 341), (78, 400), (86, 403), (89, 411), (93, 419), (96, 407), (106, 427), (110, 435), (113, 439), (120, 447), (123, 455), (129, 539), (144, 560), (148, 577), (152, 625), (162, 647), (172, 659), (177, 702), (183, 710), (186, 711), (193, 720), (197, 725), (202, 459), (204, 493)], [(1, 764), (113, 882), (116, 890), (123, 902), (127, 922), (131, 931), (135, 935), (139, 939), (142, 918), (145, 927), (148, 914), (151, 955), (154, 963), (158, 971), (164, 995), (174, 979), (177, 983), (180, 987), (183, 991), (187, 999), (190, 1003), (194, 1007), (199, 1027), (202, 1031), (205, 1051), (209, 1055), (212, 1059), (215, 1063)], [(9, 78), (12, 761), (13, 396), (17, 878), (18, 415), (22, 886), (23, 423), (26, 894), (27, 431), (30, 898), (31, 443), (35, 906), (36, 451), (39, 910), (40, 535), (43, 943), (44, 540), (47, 947), (48, 544), (51, 951), (52, 548), (55, 959), (56, 552), (59, 967), (60, 556), (63, 975), (64, 639), (67, 1010), (68, 643), (71, 1014), (72, 651), (75, 1018), (76, 655), (79, 1022), (80, 698), (83, 1035), (84, 706), (87, 1039), (88, 712), (91, 1043), (92, 716), (95, 1047)], [], []]
set_option maxRecDepth 100000 in
theorem pg_kS_0 : ((pg_sps.getD 0 []).all fun e => pg_is (((pg_spp.getD 0 []).lookup e.1).getD 0) (Cond.methodLink (pg_cn 0) e.1 (pg_spn e.2))) = true := by decide +kernel
set_option maxRecDepth 100000 in
theorem pg_kS_1 : ((pg_sps.getD 1 []).all fun e => pg_is (((pg_spp.getD 1 []).lookup e.1).getD 0) (Cond.methodLink (pg_cn 1) e.1 (pg_spn e.2))) = true := by decide +kernel
set_option maxRecDepth 100000 in
theorem pg_kS_2 : ((pg_sps.getD 2 []).all fun e => pg_is (((pg_spp.getD 2 []).lookup e.1).getD 0) (Cond.methodLink (pg_cn 2) e.1 (pg_spn e.2))) = true := by decide +kernel
set_option maxRecDepth 100000 in
theorem pg_kS_3 : ((pg_sps.getD 3 []).all fun e => pg_is (((pg_spp.getD 3 []).lookup e.1).getD 0) (Cond.methodLink (pg_cn 3) e.1 (pg_spn e.2))) = true := by decide +kernel
set_option maxRecDepth 100000 in
theorem pg_kS_4 : ((pg_sps.getD 4 []).all fun e => pg_is (((pg_spp.getD 4 []).lookup e.1).getD 0) (Cond.methodLink (pg_cn 4) e.1 (pg_spn e.2))) = true := by decide +kernel
set_option maxRecDepth 100000 in
theorem pg_kS_5 : ((pg_sps.getD 5 []).all fun e => pg_is (((pg_spp.getD 5 []).lookup e.1).getD 0) (Cond.methodLink (pg_cn 5) e.1 (pg_spn e.2))) = true := by decide +kernel
set_option maxRecDepth 100000 in
theorem pg_kS_6 : ((pg_sps.getD 6 []).all fun e => pg_is (((pg_spp.getD 6 []).lookup e.1).getD 0) (Cond.methodLink (pg_cn 6) e.1 (pg_spn e.2))) = true := by decide +kernel
set_option maxRecDepth 100000 in
theorem pg_kS_7 : ((pg_sps.getD 7 []).all fun e => pg_is (((pg_spp.getD 7 []).lookup e.1).getD 0) (Cond.methodLink (pg_cn 7) e.1 (pg_spn e.2))) = true := by decide +kernel
set_option maxRecDepth 100000 in
theorem pg_kS_8 : ((pg_sps.getD 8 []).all fun e => pg_is (((pg_spp.getD 8 []).lookup e.1).getD 0) (Cond.methodLink (pg_cn 8) e.1 (pg_spn e.2))) = true := by decide +kernel
set_option maxRecDepth 100000 in
theorem pg_kS_9 : ((pg_sps.getD 9 []).all fun e => pg_is (((pg_spp.getD 9 []).lookup e.1).getD 0) (Cond.methodLink (pg_cn 9) e.1 (pg_spn e.2))) = true := by decide +kernel
set_option maxRecDepth 100000 in
theorem pg_kS_10 : ((pg_sps.getD 10 []).all fun e => pg_is (((pg_spp.getD 10 []).lookup e.1).getD 0) (Cond.methodLink (pg_cn 10) e.1 (pg_spn e.2))) = true := by decide +kernel
set_option maxRecDepth 100000 in
theorem pg_kS_11 : ((pg_sps.getD 11 []).all fun e => pg_is (((pg_spp.getD 11 []).lookup e.1).getD 0) (Cond.methodLink (pg_cn 11) e.1 (pg_spn e.2))) = true := by decide +kernel
set_option maxRecDepth 100000 in
theorem pg_kS_12 : ((pg_sps.getD 12 []).all fun e => pg_is (((pg_spp.getD 12 []).lookup e.1).getD 0) (Cond.methodLink (pg_cn 12) e.1 (pg_spn e.2))) = true := by decide +kernel
theorem pg_kS : ∀ o, ((pg_sps.getD o []).all fun e => pg_is (((pg_spp.getD o []).lookup e.1).getD 0) (Cond.methodLink (pg_cn o) e.1 (pg_spn e.2))) = true
  | 0 => pg_kS_0
  | 1 => pg_kS_1
  | 2 => pg_kS_2
  | 3 => pg_kS_3
  | 4 => pg_kS_4
  | 5 => pg_kS_5
  | 6 => pg_kS_6
  | 7 => pg_kS_7
  | 8 => pg_kS_8
  | 9 => pg_kS_9
  | 10 => pg_kS_10
  | 11 => pg_kS_11
  | 12 => pg_kS_12
  | _ + 13 => rfl
end
section
def pg_zp : List (Nat × Nat × Nat) := [(63, 79, 0), (63, 397, 398), (63, 416, 417), (63, 424, 425), (63, 432, 433), (63, 444, 445), (63, 452, 453), (63, 536, 537), (63, 541, 542), (63, 545, 546), (63, 549, 550), (63, 553, 554), (63, 557, 558), (63, 640, 641), (63, 644, 645), (63, 652, 653), (63, 656, 657), (63, 699, 700), (63, 707, 708), (63, 713, 714), (63, 717, 718), (63, 401, 0), (63, 405, 0), (63, 409, 1), (63, 457, 2), (72, 762, 0), (72, 884, 36), (72, 892, 37), (72, 904, 38), (72, 879, 880), (72, 887, 888), (72, 895, 896), (72, 899, 900), (72, 907, 908), (72, 924, 41), (72, 920, 40), (72, 965, 47), (72, 933, 43), (72, 941, 45), (72, 937, 44), (72, 929, 42), (72, 916, 39), (72, 911, 912), (72, 944, 945), (72, 948, 949), (72, 957, 46), (72, 952, 953), (72, 960, 961), (72, 973, 48), (72, 968, 969), (72, 981, 49), (72, 985, 50), (72, 993, 52), (72, 997, 53), (72, 989, 51), (72, 976, 977), (72, 1005, 55), (72, 1008, 0), (72, 1001, 54), (72, 1011, 1012), (72, 1015, 1016), (72, 1019, 1020), (72, 1023, 1024), (72, 1029, 56), (72, 1033, 57), (72, 1036, 1037), (72, 1040, 1041), (72, 1044, 1045), (72, 1053, 58), (72, 1048, 1049), (72, 1057, 59), (72, 1065, 61), (72, 1061, 60), (64, 87, 0), (64, 420, 421), (64, 436, 437), (64, 412, 413), (64, 428, 429), (64, 440, 441), (64, 448, 449), (66, 169, 0), (66, 532, 533), (66, 494, 495), (66, 504, 7), (66, 508, 8), (66, 515, 9), (66, 519, 10), (66, 525, 11), (66, 529, 12), (68, 247, 0), (68, 648, 649), (68, 578, 579), (68, 583, 14), (68, 588, 15), (68, 602, 18), (68, 607, 19), (68, 611, 20), (68, 615, 21), (68, 619, 22), (68, 623, 23), (68, 594, 16), (68, 598, 17), (69, 292, 0), (69, 660, 661), (69, 664, 0), (69, 672, 0), (69, 696, 29), (69, 669, 26), (69, 680, 27), (69, 684, 28), (69, 676, 0), (69, 688, 0), (69, 691, 0), (67, 210, 0), (67, 703, 704), (67, 574, 575), (67, 561, 562), (67, 571, 13), (70, 321, 0), (70, 626, 627), (70, 632, 24), (70, 636, 25), (71, 342, 0), (71, 721, 722), (71, 726, 727), (71, 731, 30), (71, 735, 31), (71, 754, 35), (71, 739, 32), (71, 743, 33), (71, 750, 34), (65, 146, 0), (65, 498, 499), (65, 460, 461), (65, 475, 0), (65, 464, 0), (65, 468, 3), (65, 479, 4), (65, 483, 5), (65, 488, 6), (74, 757, 0), (73, 471, 0)]
def pg_kZb (z : Nat) : Bool := pg_is (pg_zp.getD z (0, 0, 0)).1 (Cond.initialized (pg_name z).cls) && (decide ((pg_name z).cls = pg_cn (pg_own z)) && (if pg_kd z = 0 then pg_is (pg_zp.getD z (0, 0, 0)).2.1 (Cond.static (pg_name z)) else (pg_is (pg_zp.getD z (0, 0, 0)).2.1 (Cond.instanceMethod (pg_name z)) && (decide (pg_kd z = 2) || pg_is (pg_zp.getD z (0, 0, 0)).2.2 (Cond.selects (pg_cn (pg_own z)) (pg_name z) (pg_name z))))))
set_option maxRecDepth 100000 in
theorem pg_kZ_0 : ((List.range 24).all fun k => pg_kZb (0 + k)) = true := by decide +kernel
set_option maxRecDepth 100000 in
theorem pg_kZ_1 : ((List.range 24).all fun k => pg_kZb (24 + k)) = true := by decide +kernel
set_option maxRecDepth 100000 in
theorem pg_kZ_2 : ((List.range 24).all fun k => pg_kZb (48 + k)) = true := by decide +kernel
set_option maxRecDepth 100000 in
theorem pg_kZ_3 : ((List.range 24).all fun k => pg_kZb (72 + k)) = true := by decide +kernel
set_option maxRecDepth 100000 in
theorem pg_kZ_4 : ((List.range 24).all fun k => pg_kZb (96 + k)) = true := by decide +kernel
set_option maxRecDepth 100000 in
theorem pg_kZ_5 : ((List.range 22).all fun k => pg_kZb (120 + k)) = true := by decide +kernel
theorem pg_kZ {z : Nat} (h : z < 142) : pg_kZb z = true := by
  by_cases h0 : z < 24
  · have := List.all_eq_true.mp pg_kZ_0 (z - 0) (List.mem_range.mpr (by omega))
    rwa [show 0 + (z - 0) = z by omega] at this
  by_cases h1 : z < 48
  · have := List.all_eq_true.mp pg_kZ_1 (z - 24) (List.mem_range.mpr (by omega))
    rwa [show 24 + (z - 24) = z by omega] at this
  by_cases h2 : z < 72
  · have := List.all_eq_true.mp pg_kZ_2 (z - 48) (List.mem_range.mpr (by omega))
    rwa [show 48 + (z - 48) = z by omega] at this
  by_cases h3 : z < 96
  · have := List.all_eq_true.mp pg_kZ_3 (z - 72) (List.mem_range.mpr (by omega))
    rwa [show 72 + (z - 72) = z by omega] at this
  by_cases h4 : z < 120
  · have := List.all_eq_true.mp pg_kZ_4 (z - 96) (List.mem_range.mpr (by omega))
    rwa [show 96 + (z - 96) = z by omega] at this
  by_cases h5 : z < 142
  · have := List.all_eq_true.mp pg_kZ_5 (z - 120) (List.mem_range.mpr (by omega))
    rwa [show 120 + (z - 120) = z by omega] at this
  · omega
def pg_kDb (z : Nat) : Bool := decide ((parseMethodDescriptor (pg_name z).desc).map (fun d => d.parameters.length) = some (if pg_kd z = 0 then pg_na z else pg_na z - 1)) && (decide (0 < pg_na z ∨ pg_kd z = 0) && (decide (pg_na z ≤ pg_maxL z) && decide (pg_maxL z ≤ 21)))
set_option maxRecDepth 100000 in
theorem pg_kD_0 : ((List.range 24).all fun k => pg_kDb (0 + k)) = true := by decide +kernel
set_option maxRecDepth 100000 in
theorem pg_kD_1 : ((List.range 24).all fun k => pg_kDb (24 + k)) = true := by decide +kernel
set_option maxRecDepth 100000 in
theorem pg_kD_2 : ((List.range 24).all fun k => pg_kDb (48 + k)) = true := by decide +kernel
set_option maxRecDepth 100000 in
theorem pg_kD_3 : ((List.range 24).all fun k => pg_kDb (72 + k)) = true := by decide +kernel
set_option maxRecDepth 100000 in
theorem pg_kD_4 : ((List.range 24).all fun k => pg_kDb (96 + k)) = true := by decide +kernel
set_option maxRecDepth 100000 in
theorem pg_kD_5 : ((List.range 22).all fun k => pg_kDb (120 + k)) = true := by decide +kernel
theorem pg_kD {z : Nat} (h : z < 142) : pg_kDb z = true := by
  by_cases h0 : z < 24
  · have := List.all_eq_true.mp pg_kD_0 (z - 0) (List.mem_range.mpr (by omega))
    rwa [show 0 + (z - 0) = z by omega] at this
  by_cases h1 : z < 48
  · have := List.all_eq_true.mp pg_kD_1 (z - 24) (List.mem_range.mpr (by omega))
    rwa [show 24 + (z - 24) = z by omega] at this
  by_cases h2 : z < 72
  · have := List.all_eq_true.mp pg_kD_2 (z - 48) (List.mem_range.mpr (by omega))
    rwa [show 48 + (z - 48) = z by omega] at this
  by_cases h3 : z < 96
  · have := List.all_eq_true.mp pg_kD_3 (z - 72) (List.mem_range.mpr (by omega))
    rwa [show 72 + (z - 72) = z by omega] at this
  by_cases h4 : z < 120
  · have := List.all_eq_true.mp pg_kD_4 (z - 96) (List.mem_range.mpr (by omega))
    rwa [show 96 + (z - 96) = z by omega] at this
  by_cases h5 : z < 142
  · have := List.all_eq_true.mp pg_kD_5 (z - 120) (List.mem_range.mpr (by omega))
    rwa [show 120 + (z - 120) = z by omega] at this
  · omega
def pg_kPb (z : Nat) : Bool := decide (plainFor (pg_name z) = true) && (decide (pg_kd z = 2 → pg_rt z = 9 ∧ (pg_name z).name = "<init>" ∧ pg_na z = 1) && decide (pg_rt z = 9 → (pg_name z).name = "<init>"))
set_option maxRecDepth 100000 in
theorem pg_kP_0 : ((List.range 24).all fun k => pg_kPb (0 + k)) = true := by decide +kernel
set_option maxRecDepth 100000 in
theorem pg_kP_1 : ((List.range 24).all fun k => pg_kPb (24 + k)) = true := by decide +kernel
set_option maxRecDepth 100000 in
theorem pg_kP_2 : ((List.range 24).all fun k => pg_kPb (48 + k)) = true := by decide +kernel
set_option maxRecDepth 100000 in
theorem pg_kP_3 : ((List.range 24).all fun k => pg_kPb (72 + k)) = true := by decide +kernel
set_option maxRecDepth 100000 in
theorem pg_kP_4 : ((List.range 24).all fun k => pg_kPb (96 + k)) = true := by decide +kernel
set_option maxRecDepth 100000 in
theorem pg_kP_5 : ((List.range 22).all fun k => pg_kPb (120 + k)) = true := by decide +kernel
theorem pg_kP {z : Nat} (h : z < 142) : pg_kPb z = true := by
  by_cases h0 : z < 24
  · have := List.all_eq_true.mp pg_kP_0 (z - 0) (List.mem_range.mpr (by omega))
    rwa [show 0 + (z - 0) = z by omega] at this
  by_cases h1 : z < 48
  · have := List.all_eq_true.mp pg_kP_1 (z - 24) (List.mem_range.mpr (by omega))
    rwa [show 24 + (z - 24) = z by omega] at this
  by_cases h2 : z < 72
  · have := List.all_eq_true.mp pg_kP_2 (z - 48) (List.mem_range.mpr (by omega))
    rwa [show 48 + (z - 48) = z by omega] at this
  by_cases h3 : z < 96
  · have := List.all_eq_true.mp pg_kP_3 (z - 72) (List.mem_range.mpr (by omega))
    rwa [show 72 + (z - 72) = z by omega] at this
  by_cases h4 : z < 120
  · have := List.all_eq_true.mp pg_kP_4 (z - 96) (List.mem_range.mpr (by omega))
    rwa [show 96 + (z - 96) = z by omega] at this
  by_cases h5 : z < 142
  · have := List.all_eq_true.mp pg_kP_5 (z - 120) (List.mem_range.mpr (by omega))
    rwa [show 120 + (z - 120) = z by omega] at this
  · omega
def pg_cpl : List Nat := [80, 399, 418, 426, 434, 446, 454, 538, 543, 547, 551, 555, 559, 642, 646, 654, 658, 701, 709, 715, 719, 402, 406, 410, 458, 763, 885, 893, 905, 881, 889, 897, 901, 909, 925, 921, 966, 934, 942, 938, 930, 917, 913, 946, 950, 958, 954, 962, 974, 970, 982, 986, 994, 998, 990, 978, 1006, 1009, 1002, 1013, 1017, 1021, 1025, 1030, 1034, 1038, 1042, 1046, 1054, 1050, 1058, 1066, 1062, 88, 422, 438, 414, 430, 442, 450, 170, 534, 496, 505, 509, 516, 520, 526, 530, 248, 650, 580, 584, 589, 603, 608, 612, 616, 620, 624, 595, 599, 293, 662, 665, 673, 697, 670, 681, 685, 677, 689, 692, 211, 705, 576, 563, 572, 322, 628, 633, 637, 343, 723, 728, 732, 736, 755, 740, 744, 751, 147, 500, 462, 476, 465, 469, 480, 484, 489, 758, 472]
def pg_kCp (z : Nat) : Prop := lw_tbl[pg_cpl.getD z 0]? = some (Cond.code (pg_name z) (pg_code z) (pg_maxL z) (pg_ret z))
set_option maxRecDepth 100000 in
theorem pg_kC_0 : pg_kCp 0 := rfl
set_option maxRecDepth 100000 in
theorem pg_kC_1 : pg_kCp 1 := rfl
set_option maxRecDepth 100000 in
theorem pg_kC_2 : pg_kCp 2 := rfl
set_option maxRecDepth 100000 in
theorem pg_kC_3 : pg_kCp 3 := rfl
set_option maxRecDepth 100000 in
theorem pg_kC_4 : pg_kCp 4 := rfl
set_option maxRecDepth 100000 in
theorem pg_kC_5 : pg_kCp 5 := rfl
set_option maxRecDepth 100000 in
theorem pg_kC_6 : pg_kCp 6 := rfl
set_option maxRecDepth 100000 in
theorem pg_kC_7 : pg_kCp 7 := rfl
set_option maxRecDepth 100000 in
theorem pg_kC_8 : pg_kCp 8 := rfl
set_option maxRecDepth 100000 in
theorem pg_kC_9 : pg_kCp 9 := rfl
set_option maxRecDepth 100000 in
theorem pg_kC_10 : pg_kCp 10 := rfl
set_option maxRecDepth 100000 in
theorem pg_kC_11 : pg_kCp 11 := rfl
set_option maxRecDepth 100000 in
theorem pg_kC_12 : pg_kCp 12 := rfl
set_option maxRecDepth 100000 in
theorem pg_kC_13 : pg_kCp 13 := rfl
set_option maxRecDepth 100000 in
theorem pg_kC_14 : pg_kCp 14 := rfl
set_option maxRecDepth 100000 in
theorem pg_kC_15 : pg_kCp 15 := rfl
set_option maxRecDepth 100000 in
theorem pg_kC_16 : pg_kCp 16 := rfl
set_option maxRecDepth 100000 in
theorem pg_kC_17 : pg_kCp 17 := rfl
set_option maxRecDepth 100000 in
theorem pg_kC_18 : pg_kCp 18 := rfl
set_option maxRecDepth 100000 in
theorem pg_kC_19 : pg_kCp 19 := rfl
set_option maxRecDepth 100000 in
theorem pg_kC_20 : pg_kCp 20 := rfl
set_option maxRecDepth 100000 in
theorem pg_kC_21 : pg_kCp 21 := rfl
set_option maxRecDepth 100000 in
theorem pg_kC_22 : pg_kCp 22 := rfl
set_option maxRecDepth 100000 in
theorem pg_kC_23 : pg_kCp 23 := rfl
set_option maxRecDepth 100000 in
theorem pg_kC_24 : pg_kCp 24 := rfl
set_option maxRecDepth 100000 in
theorem pg_kC_25 : pg_kCp 25 := rfl
set_option maxRecDepth 100000 in
theorem pg_kC_26 : pg_kCp 26 := rfl
set_option maxRecDepth 100000 in
theorem pg_kC_27 : pg_kCp 27 := rfl
set_option maxRecDepth 100000 in
theorem pg_kC_28 : pg_kCp 28 := rfl
set_option maxRecDepth 100000 in
theorem pg_kC_29 : pg_kCp 29 := rfl
set_option maxRecDepth 100000 in
theorem pg_kC_30 : pg_kCp 30 := rfl
set_option maxRecDepth 100000 in
theorem pg_kC_31 : pg_kCp 31 := rfl
set_option maxRecDepth 100000 in
theorem pg_kC_32 : pg_kCp 32 := rfl
set_option maxRecDepth 100000 in
theorem pg_kC_33 : pg_kCp 33 := rfl
set_option maxRecDepth 100000 in
theorem pg_kC_34 : pg_kCp 34 := rfl
set_option maxRecDepth 100000 in
theorem pg_kC_35 : pg_kCp 35 := rfl
set_option maxRecDepth 100000 in
theorem pg_kC_36 : pg_kCp 36 := rfl
set_option maxRecDepth 100000 in
theorem pg_kC_37 : pg_kCp 37 := rfl
set_option maxRecDepth 100000 in
theorem pg_kC_38 : pg_kCp 38 := rfl
set_option maxRecDepth 100000 in
theorem pg_kC_39 : pg_kCp 39 := rfl
set_option maxRecDepth 100000 in
theorem pg_kC_40 : pg_kCp 40 := rfl
set_option maxRecDepth 100000 in
theorem pg_kC_41 : pg_kCp 41 := rfl
set_option maxRecDepth 100000 in
theorem pg_kC_42 : pg_kCp 42 := rfl
set_option maxRecDepth 100000 in
theorem pg_kC_43 : pg_kCp 43 := rfl
set_option maxRecDepth 100000 in
theorem pg_kC_44 : pg_kCp 44 := rfl
set_option maxRecDepth 100000 in
theorem pg_kC_45 : pg_kCp 45 := rfl
set_option maxRecDepth 100000 in
theorem pg_kC_46 : pg_kCp 46 := rfl
set_option maxRecDepth 100000 in
theorem pg_kC_47 : pg_kCp 47 := rfl
set_option maxRecDepth 100000 in
theorem pg_kC_48 : pg_kCp 48 := rfl
set_option maxRecDepth 100000 in
theorem pg_kC_49 : pg_kCp 49 := rfl
set_option maxRecDepth 100000 in
theorem pg_kC_50 : pg_kCp 50 := rfl
set_option maxRecDepth 100000 in
theorem pg_kC_51 : pg_kCp 51 := rfl
set_option maxRecDepth 100000 in
theorem pg_kC_52 : pg_kCp 52 := rfl
set_option maxRecDepth 100000 in
theorem pg_kC_53 : pg_kCp 53 := rfl
set_option maxRecDepth 100000 in
theorem pg_kC_54 : pg_kCp 54 := rfl
set_option maxRecDepth 100000 in
theorem pg_kC_55 : pg_kCp 55 := rfl
set_option maxRecDepth 100000 in
theorem pg_kC_56 : pg_kCp 56 := rfl
set_option maxRecDepth 100000 in
theorem pg_kC_57 : pg_kCp 57 := rfl
set_option maxRecDepth 100000 in
theorem pg_kC_58 : pg_kCp 58 := rfl
set_option maxRecDepth 100000 in
theorem pg_kC_59 : pg_kCp 59 := rfl
set_option maxRecDepth 100000 in
theorem pg_kC_60 : pg_kCp 60 := rfl
set_option maxRecDepth 100000 in
theorem pg_kC_61 : pg_kCp 61 := rfl
set_option maxRecDepth 100000 in
theorem pg_kC_62 : pg_kCp 62 := rfl
set_option maxRecDepth 100000 in
theorem pg_kC_63 : pg_kCp 63 := rfl
set_option maxRecDepth 100000 in
theorem pg_kC_64 : pg_kCp 64 := rfl
set_option maxRecDepth 100000 in
theorem pg_kC_65 : pg_kCp 65 := rfl
set_option maxRecDepth 100000 in
theorem pg_kC_66 : pg_kCp 66 := rfl
set_option maxRecDepth 100000 in
theorem pg_kC_67 : pg_kCp 67 := rfl
set_option maxRecDepth 100000 in
theorem pg_kC_68 : pg_kCp 68 := rfl
set_option maxRecDepth 100000 in
theorem pg_kC_69 : pg_kCp 69 := rfl
set_option maxRecDepth 100000 in
theorem pg_kC_70 : pg_kCp 70 := rfl
set_option maxRecDepth 100000 in
theorem pg_kC_71 : pg_kCp 71 := rfl
set_option maxRecDepth 100000 in
theorem pg_kC_72 : pg_kCp 72 := rfl
set_option maxRecDepth 100000 in
theorem pg_kC_73 : pg_kCp 73 := rfl
set_option maxRecDepth 100000 in
theorem pg_kC_74 : pg_kCp 74 := rfl
set_option maxRecDepth 100000 in
theorem pg_kC_75 : pg_kCp 75 := rfl
set_option maxRecDepth 100000 in
theorem pg_kC_76 : pg_kCp 76 := rfl
set_option maxRecDepth 100000 in
theorem pg_kC_77 : pg_kCp 77 := rfl
set_option maxRecDepth 100000 in
theorem pg_kC_78 : pg_kCp 78 := rfl
set_option maxRecDepth 100000 in
theorem pg_kC_79 : pg_kCp 79 := rfl
set_option maxRecDepth 100000 in
theorem pg_kC_80 : pg_kCp 80 := rfl
set_option maxRecDepth 100000 in
theorem pg_kC_81 : pg_kCp 81 := rfl
set_option maxRecDepth 100000 in
theorem pg_kC_82 : pg_kCp 82 := rfl
set_option maxRecDepth 100000 in
theorem pg_kC_83 : pg_kCp 83 := rfl
set_option maxRecDepth 100000 in
theorem pg_kC_84 : pg_kCp 84 := rfl
set_option maxRecDepth 100000 in
theorem pg_kC_85 : pg_kCp 85 := rfl
set_option maxRecDepth 100000 in
theorem pg_kC_86 : pg_kCp 86 := rfl
set_option maxRecDepth 100000 in
theorem pg_kC_87 : pg_kCp 87 := rfl
set_option maxRecDepth 100000 in
theorem pg_kC_88 : pg_kCp 88 := rfl
set_option maxRecDepth 100000 in
theorem pg_kC_89 : pg_kCp 89 := rfl
set_option maxRecDepth 100000 in
theorem pg_kC_90 : pg_kCp 90 := rfl
set_option maxRecDepth 100000 in
theorem pg_kC_91 : pg_kCp 91 := rfl
set_option maxRecDepth 100000 in
theorem pg_kC_92 : pg_kCp 92 := rfl
set_option maxRecDepth 100000 in
theorem pg_kC_93 : pg_kCp 93 := rfl
set_option maxRecDepth 100000 in
theorem pg_kC_94 : pg_kCp 94 := rfl
set_option maxRecDepth 100000 in
theorem pg_kC_95 : pg_kCp 95 := rfl
set_option maxRecDepth 100000 in
theorem pg_kC_96 : pg_kCp 96 := rfl
set_option maxRecDepth 100000 in
theorem pg_kC_97 : pg_kCp 97 := rfl
set_option maxRecDepth 100000 in
theorem pg_kC_98 : pg_kCp 98 := rfl
set_option maxRecDepth 100000 in
theorem pg_kC_99 : pg_kCp 99 := rfl
set_option maxRecDepth 100000 in
theorem pg_kC_100 : pg_kCp 100 := rfl
set_option maxRecDepth 100000 in
theorem pg_kC_101 : pg_kCp 101 := rfl
set_option maxRecDepth 100000 in
theorem pg_kC_102 : pg_kCp 102 := rfl
set_option maxRecDepth 100000 in
theorem pg_kC_103 : pg_kCp 103 := rfl
set_option maxRecDepth 100000 in
theorem pg_kC_104 : pg_kCp 104 := rfl
set_option maxRecDepth 100000 in
theorem pg_kC_105 : pg_kCp 105 := rfl
set_option maxRecDepth 100000 in
theorem pg_kC_106 : pg_kCp 106 := rfl
set_option maxRecDepth 100000 in
theorem pg_kC_107 : pg_kCp 107 := rfl
set_option maxRecDepth 100000 in
theorem pg_kC_108 : pg_kCp 108 := rfl
set_option maxRecDepth 100000 in
theorem pg_kC_109 : pg_kCp 109 := rfl
set_option maxRecDepth 100000 in
theorem pg_kC_110 : pg_kCp 110 := rfl
set_option maxRecDepth 100000 in
theorem pg_kC_111 : pg_kCp 111 := rfl
set_option maxRecDepth 100000 in
theorem pg_kC_112 : pg_kCp 112 := rfl
set_option maxRecDepth 100000 in
theorem pg_kC_113 : pg_kCp 113 := rfl
set_option maxRecDepth 100000 in
theorem pg_kC_114 : pg_kCp 114 := rfl
set_option maxRecDepth 100000 in
theorem pg_kC_115 : pg_kCp 115 := rfl
set_option maxRecDepth 100000 in
theorem pg_kC_116 : pg_kCp 116 := rfl
set_option maxRecDepth 100000 in
theorem pg_kC_117 : pg_kCp 117 := rfl
set_option maxRecDepth 100000 in
theorem pg_kC_118 : pg_kCp 118 := rfl
set_option maxRecDepth 100000 in
theorem pg_kC_119 : pg_kCp 119 := rfl
set_option maxRecDepth 100000 in
theorem pg_kC_120 : pg_kCp 120 := rfl
set_option maxRecDepth 100000 in
theorem pg_kC_121 : pg_kCp 121 := rfl
set_option maxRecDepth 100000 in
theorem pg_kC_122 : pg_kCp 122 := rfl
set_option maxRecDepth 100000 in
theorem pg_kC_123 : pg_kCp 123 := rfl
set_option maxRecDepth 100000 in
theorem pg_kC_124 : pg_kCp 124 := rfl
set_option maxRecDepth 100000 in
theorem pg_kC_125 : pg_kCp 125 := rfl
set_option maxRecDepth 100000 in
theorem pg_kC_126 : pg_kCp 126 := rfl
set_option maxRecDepth 100000 in
theorem pg_kC_127 : pg_kCp 127 := rfl
set_option maxRecDepth 100000 in
theorem pg_kC_128 : pg_kCp 128 := rfl
set_option maxRecDepth 100000 in
theorem pg_kC_129 : pg_kCp 129 := rfl
set_option maxRecDepth 100000 in
theorem pg_kC_130 : pg_kCp 130 := rfl
set_option maxRecDepth 100000 in
theorem pg_kC_131 : pg_kCp 131 := rfl
set_option maxRecDepth 100000 in
theorem pg_kC_132 : pg_kCp 132 := rfl
set_option maxRecDepth 100000 in
theorem pg_kC_133 : pg_kCp 133 := rfl
set_option maxRecDepth 100000 in
theorem pg_kC_134 : pg_kCp 134 := rfl
set_option maxRecDepth 100000 in
theorem pg_kC_135 : pg_kCp 135 := rfl
set_option maxRecDepth 100000 in
theorem pg_kC_136 : pg_kCp 136 := rfl
set_option maxRecDepth 100000 in
theorem pg_kC_137 : pg_kCp 137 := rfl
set_option maxRecDepth 100000 in
theorem pg_kC_138 : pg_kCp 138 := rfl
set_option maxRecDepth 100000 in
theorem pg_kC_139 : pg_kCp 139 := rfl
set_option maxRecDepth 100000 in
theorem pg_kC_140 : pg_kCp 140 := rfl
set_option maxRecDepth 100000 in
theorem pg_kC_141 : pg_kCp 141 := rfl
theorem pg_kC : ∀ z, z < 142 → pg_kCp z
  | 0, _ => pg_kC_0
  | 1, _ => pg_kC_1
  | 2, _ => pg_kC_2
  | 3, _ => pg_kC_3
  | 4, _ => pg_kC_4
  | 5, _ => pg_kC_5
  | 6, _ => pg_kC_6
  | 7, _ => pg_kC_7
  | 8, _ => pg_kC_8
  | 9, _ => pg_kC_9
  | 10, _ => pg_kC_10
  | 11, _ => pg_kC_11
  | 12, _ => pg_kC_12
  | 13, _ => pg_kC_13
  | 14, _ => pg_kC_14
  | 15, _ => pg_kC_15
  | 16, _ => pg_kC_16
  | 17, _ => pg_kC_17
  | 18, _ => pg_kC_18
  | 19, _ => pg_kC_19
  | 20, _ => pg_kC_20
  | 21, _ => pg_kC_21
  | 22, _ => pg_kC_22
  | 23, _ => pg_kC_23
  | 24, _ => pg_kC_24
  | 25, _ => pg_kC_25
  | 26, _ => pg_kC_26
  | 27, _ => pg_kC_27
  | 28, _ => pg_kC_28
  | 29, _ => pg_kC_29
  | 30, _ => pg_kC_30
  | 31, _ => pg_kC_31
  | 32, _ => pg_kC_32
  | 33, _ => pg_kC_33
  | 34, _ => pg_kC_34
  | 35, _ => pg_kC_35
  | 36, _ => pg_kC_36
  | 37, _ => pg_kC_37
  | 38, _ => pg_kC_38
  | 39, _ => pg_kC_39
  | 40, _ => pg_kC_40
  | 41, _ => pg_kC_41
  | 42, _ => pg_kC_42
  | 43, _ => pg_kC_43
  | 44, _ => pg_kC_44
  | 45, _ => pg_kC_45
  | 46, _ => pg_kC_46
  | 47, _ => pg_kC_47
  | 48, _ => pg_kC_48
  | 49, _ => pg_kC_49
  | 50, _ => pg_kC_50
  | 51, _ => pg_kC_51
  | 52, _ => pg_kC_52
  | 53, _ => pg_kC_53
  | 54, _ => pg_kC_54
  | 55, _ => pg_kC_55
  | 56, _ => pg_kC_56
  | 57, _ => pg_kC_57
  | 58, _ => pg_kC_58
  | 59, _ => pg_kC_59
  | 60, _ => pg_kC_60
  | 61, _ => pg_kC_61
  | 62, _ => pg_kC_62
  | 63, _ => pg_kC_63
  | 64, _ => pg_kC_64
  | 65, _ => pg_kC_65
  | 66, _ => pg_kC_66
  | 67, _ => pg_kC_67
  | 68, _ => pg_kC_68
  | 69, _ => pg_kC_69
  | 70, _ => pg_kC_70
  | 71, _ => pg_kC_71
  | 72, _ => pg_kC_72
  | 73, _ => pg_kC_73
  | 74, _ => pg_kC_74
  | 75, _ => pg_kC_75
  | 76, _ => pg_kC_76
  | 77, _ => pg_kC_77
  | 78, _ => pg_kC_78
  | 79, _ => pg_kC_79
  | 80, _ => pg_kC_80
  | 81, _ => pg_kC_81
  | 82, _ => pg_kC_82
  | 83, _ => pg_kC_83
  | 84, _ => pg_kC_84
  | 85, _ => pg_kC_85
  | 86, _ => pg_kC_86
  | 87, _ => pg_kC_87
  | 88, _ => pg_kC_88
  | 89, _ => pg_kC_89
  | 90, _ => pg_kC_90
  | 91, _ => pg_kC_91
  | 92, _ => pg_kC_92
  | 93, _ => pg_kC_93
  | 94, _ => pg_kC_94
  | 95, _ => pg_kC_95
  | 96, _ => pg_kC_96
  | 97, _ => pg_kC_97
  | 98, _ => pg_kC_98
  | 99, _ => pg_kC_99
  | 100, _ => pg_kC_100
  | 101, _ => pg_kC_101
  | 102, _ => pg_kC_102
  | 103, _ => pg_kC_103
  | 104, _ => pg_kC_104
  | 105, _ => pg_kC_105
  | 106, _ => pg_kC_106
  | 107, _ => pg_kC_107
  | 108, _ => pg_kC_108
  | 109, _ => pg_kC_109
  | 110, _ => pg_kC_110
  | 111, _ => pg_kC_111
  | 112, _ => pg_kC_112
  | 113, _ => pg_kC_113
  | 114, _ => pg_kC_114
  | 115, _ => pg_kC_115
  | 116, _ => pg_kC_116
  | 117, _ => pg_kC_117
  | 118, _ => pg_kC_118
  | 119, _ => pg_kC_119
  | 120, _ => pg_kC_120
  | 121, _ => pg_kC_121
  | 122, _ => pg_kC_122
  | 123, _ => pg_kC_123
  | 124, _ => pg_kC_124
  | 125, _ => pg_kC_125
  | 126, _ => pg_kC_126
  | 127, _ => pg_kC_127
  | 128, _ => pg_kC_128
  | 129, _ => pg_kC_129
  | 130, _ => pg_kC_130
  | 131, _ => pg_kC_131
  | 132, _ => pg_kC_132
  | 133, _ => pg_kC_133
  | 134, _ => pg_kC_134
  | 135, _ => pg_kC_135
  | 136, _ => pg_kC_136
  | 137, _ => pg_kC_137
  | 138, _ => pg_kC_138
  | 139, _ => pg_kC_139
  | 140, _ => pg_kC_140
  | 141, _ => pg_kC_141
  | _ + 142, h => absurd h (by omega)
end
section
def pg_xp : List (Nat × Nat × List Nat) := [(85, 64, [126, 128, 130, 132, 134, 136, 138]), (167, 66, [190, 192, 194, 196, 198, 200, 202, 204]), (245, 68, [270, 272, 274, 276, 278, 280, 282, 284, 286]), (290, 69, [303, 305, 307, 309, 311, 313, 315]), (208, 67, [231, 233, 235, 237, 239, 241]), (319, 70, [330, 332, 334, 336]), (340, 71, [350, 352, 354, 356]), (144, 65, [155, 157, 159, 161, 163]), (77, 63, [371, 373, 375, 377, 379, 381, 383, 385, 387, 389, 391, 393]), (760, 72, [803, 805, 807, 809, 811, 813, 815, 817, 819, 821, 823, 825, 827, 829, 831, 833, 835, 837, 839, 841, 843, 845, 847, 849, 851, 853, 855, 857, 859, 861, 863, 865, 867, 869, 871, 873, 875])]
set_option maxRecDepth 100000 in
theorem pg_kX_0 : (pg_is (pg_xp.getD 0 (0, 0, [])).1 (Cond.instantiable (pg_C 0) (pg_nf 0)) && (pg_is (pg_xp.getD 0 (0, 0, [])).2.1 (Cond.initialized (pg_C 0)) && ((List.range (pg_nf 0)).all fun k => pg_is ((pg_xp.getD 0 (0, 0, [])).2.2.getD k 0) (u_lay (pg_C 0) (pg_T 0) k)))) = true := by decide +kernel
set_option maxRecDepth 100000 in
theorem pg_kT_0 : ((List.range (pg_nf 0)).all fun k => decide (parseFieldDescriptor (pg_T 0 k).2.2.1 = some (pg_ty 0 k)) && (decide ((pg_T 0 k).1 = pg_C 0) && (decide ((pg_T 0 k).2.2.2 = pg_fin 0 k) && ((List.range (pg_nf 0)).all fun j => decide (j = k) || decide ((pg_T 0 j).2.1 ≠ (pg_T 0 k).2.1))))) = true := by decide +kernel
set_option maxRecDepth 100000 in
theorem pg_kX_1 : (pg_is (pg_xp.getD 1 (0, 0, [])).1 (Cond.instantiable (pg_C 1) (pg_nf 1)) && (pg_is (pg_xp.getD 1 (0, 0, [])).2.1 (Cond.initialized (pg_C 1)) && ((List.range (pg_nf 1)).all fun k => pg_is ((pg_xp.getD 1 (0, 0, [])).2.2.getD k 0) (u_lay (pg_C 1) (pg_T 1) k)))) = true := by decide +kernel
set_option maxRecDepth 100000 in
theorem pg_kT_1 : ((List.range (pg_nf 1)).all fun k => decide (parseFieldDescriptor (pg_T 1 k).2.2.1 = some (pg_ty 1 k)) && (decide ((pg_T 1 k).1 = pg_C 1) && (decide ((pg_T 1 k).2.2.2 = pg_fin 1 k) && ((List.range (pg_nf 1)).all fun j => decide (j = k) || decide ((pg_T 1 j).2.1 ≠ (pg_T 1 k).2.1))))) = true := by decide +kernel
set_option maxRecDepth 100000 in
theorem pg_kX_2 : (pg_is (pg_xp.getD 2 (0, 0, [])).1 (Cond.instantiable (pg_C 2) (pg_nf 2)) && (pg_is (pg_xp.getD 2 (0, 0, [])).2.1 (Cond.initialized (pg_C 2)) && ((List.range (pg_nf 2)).all fun k => pg_is ((pg_xp.getD 2 (0, 0, [])).2.2.getD k 0) (u_lay (pg_C 2) (pg_T 2) k)))) = true := by decide +kernel
set_option maxRecDepth 100000 in
theorem pg_kT_2 : ((List.range (pg_nf 2)).all fun k => decide (parseFieldDescriptor (pg_T 2 k).2.2.1 = some (pg_ty 2 k)) && (decide ((pg_T 2 k).1 = pg_C 2) && (decide ((pg_T 2 k).2.2.2 = pg_fin 2 k) && ((List.range (pg_nf 2)).all fun j => decide (j = k) || decide ((pg_T 2 j).2.1 ≠ (pg_T 2 k).2.1))))) = true := by decide +kernel
set_option maxRecDepth 100000 in
theorem pg_kX_3 : (pg_is (pg_xp.getD 3 (0, 0, [])).1 (Cond.instantiable (pg_C 3) (pg_nf 3)) && (pg_is (pg_xp.getD 3 (0, 0, [])).2.1 (Cond.initialized (pg_C 3)) && ((List.range (pg_nf 3)).all fun k => pg_is ((pg_xp.getD 3 (0, 0, [])).2.2.getD k 0) (u_lay (pg_C 3) (pg_T 3) k)))) = true := by decide +kernel
set_option maxRecDepth 100000 in
theorem pg_kT_3 : ((List.range (pg_nf 3)).all fun k => decide (parseFieldDescriptor (pg_T 3 k).2.2.1 = some (pg_ty 3 k)) && (decide ((pg_T 3 k).1 = pg_C 3) && (decide ((pg_T 3 k).2.2.2 = pg_fin 3 k) && ((List.range (pg_nf 3)).all fun j => decide (j = k) || decide ((pg_T 3 j).2.1 ≠ (pg_T 3 k).2.1))))) = true := by decide +kernel
set_option maxRecDepth 100000 in
theorem pg_kX_4 : (pg_is (pg_xp.getD 4 (0, 0, [])).1 (Cond.instantiable (pg_C 4) (pg_nf 4)) && (pg_is (pg_xp.getD 4 (0, 0, [])).2.1 (Cond.initialized (pg_C 4)) && ((List.range (pg_nf 4)).all fun k => pg_is ((pg_xp.getD 4 (0, 0, [])).2.2.getD k 0) (u_lay (pg_C 4) (pg_T 4) k)))) = true := by decide +kernel
set_option maxRecDepth 100000 in
theorem pg_kT_4 : ((List.range (pg_nf 4)).all fun k => decide (parseFieldDescriptor (pg_T 4 k).2.2.1 = some (pg_ty 4 k)) && (decide ((pg_T 4 k).1 = pg_C 4) && (decide ((pg_T 4 k).2.2.2 = pg_fin 4 k) && ((List.range (pg_nf 4)).all fun j => decide (j = k) || decide ((pg_T 4 j).2.1 ≠ (pg_T 4 k).2.1))))) = true := by decide +kernel
set_option maxRecDepth 100000 in
theorem pg_kX_5 : (pg_is (pg_xp.getD 5 (0, 0, [])).1 (Cond.instantiable (pg_C 5) (pg_nf 5)) && (pg_is (pg_xp.getD 5 (0, 0, [])).2.1 (Cond.initialized (pg_C 5)) && ((List.range (pg_nf 5)).all fun k => pg_is ((pg_xp.getD 5 (0, 0, [])).2.2.getD k 0) (u_lay (pg_C 5) (pg_T 5) k)))) = true := by decide +kernel
set_option maxRecDepth 100000 in
theorem pg_kT_5 : ((List.range (pg_nf 5)).all fun k => decide (parseFieldDescriptor (pg_T 5 k).2.2.1 = some (pg_ty 5 k)) && (decide ((pg_T 5 k).1 = pg_C 5) && (decide ((pg_T 5 k).2.2.2 = pg_fin 5 k) && ((List.range (pg_nf 5)).all fun j => decide (j = k) || decide ((pg_T 5 j).2.1 ≠ (pg_T 5 k).2.1))))) = true := by decide +kernel
set_option maxRecDepth 100000 in
theorem pg_kX_6 : (pg_is (pg_xp.getD 6 (0, 0, [])).1 (Cond.instantiable (pg_C 6) (pg_nf 6)) && (pg_is (pg_xp.getD 6 (0, 0, [])).2.1 (Cond.initialized (pg_C 6)) && ((List.range (pg_nf 6)).all fun k => pg_is ((pg_xp.getD 6 (0, 0, [])).2.2.getD k 0) (u_lay (pg_C 6) (pg_T 6) k)))) = true := by decide +kernel
set_option maxRecDepth 100000 in
theorem pg_kT_6 : ((List.range (pg_nf 6)).all fun k => decide (parseFieldDescriptor (pg_T 6 k).2.2.1 = some (pg_ty 6 k)) && (decide ((pg_T 6 k).1 = pg_C 6) && (decide ((pg_T 6 k).2.2.2 = pg_fin 6 k) && ((List.range (pg_nf 6)).all fun j => decide (j = k) || decide ((pg_T 6 j).2.1 ≠ (pg_T 6 k).2.1))))) = true := by decide +kernel
set_option maxRecDepth 100000 in
theorem pg_kX_7 : (pg_is (pg_xp.getD 7 (0, 0, [])).1 (Cond.instantiable (pg_C 7) (pg_nf 7)) && (pg_is (pg_xp.getD 7 (0, 0, [])).2.1 (Cond.initialized (pg_C 7)) && ((List.range (pg_nf 7)).all fun k => pg_is ((pg_xp.getD 7 (0, 0, [])).2.2.getD k 0) (u_lay (pg_C 7) (pg_T 7) k)))) = true := by decide +kernel
set_option maxRecDepth 100000 in
theorem pg_kT_7 : ((List.range (pg_nf 7)).all fun k => decide (parseFieldDescriptor (pg_T 7 k).2.2.1 = some (pg_ty 7 k)) && (decide ((pg_T 7 k).1 = pg_C 7) && (decide ((pg_T 7 k).2.2.2 = pg_fin 7 k) && ((List.range (pg_nf 7)).all fun j => decide (j = k) || decide ((pg_T 7 j).2.1 ≠ (pg_T 7 k).2.1))))) = true := by decide +kernel
set_option maxRecDepth 100000 in
theorem pg_kX_8 : (pg_is (pg_xp.getD 8 (0, 0, [])).1 (Cond.instantiable (pg_C 8) (pg_nf 8)) && (pg_is (pg_xp.getD 8 (0, 0, [])).2.1 (Cond.initialized (pg_C 8)) && ((List.range (pg_nf 8)).all fun k => pg_is ((pg_xp.getD 8 (0, 0, [])).2.2.getD k 0) (u_lay (pg_C 8) (pg_T 8) k)))) = true := by decide +kernel
set_option maxRecDepth 100000 in
theorem pg_kT_8 : ((List.range (pg_nf 8)).all fun k => decide (parseFieldDescriptor (pg_T 8 k).2.2.1 = some (pg_ty 8 k)) && (decide ((pg_T 8 k).1 = pg_C 8) && (decide ((pg_T 8 k).2.2.2 = pg_fin 8 k) && ((List.range (pg_nf 8)).all fun j => decide (j = k) || decide ((pg_T 8 j).2.1 ≠ (pg_T 8 k).2.1))))) = true := by decide +kernel
set_option maxRecDepth 100000 in
theorem pg_kX_9 : (pg_is (pg_xp.getD 9 (0, 0, [])).1 (Cond.instantiable (pg_C 9) (pg_nf 9)) && (pg_is (pg_xp.getD 9 (0, 0, [])).2.1 (Cond.initialized (pg_C 9)) && ((List.range (pg_nf 9)).all fun k => pg_is ((pg_xp.getD 9 (0, 0, [])).2.2.getD k 0) (u_lay (pg_C 9) (pg_T 9) k)))) = true := by decide +kernel
set_option maxRecDepth 100000 in
theorem pg_kT_9 : ((List.range (pg_nf 9)).all fun k => decide (parseFieldDescriptor (pg_T 9 k).2.2.1 = some (pg_ty 9 k)) && (decide ((pg_T 9 k).1 = pg_C 9) && (decide ((pg_T 9 k).2.2.2 = pg_fin 9 k) && ((List.range (pg_nf 9)).all fun j => decide (j = k) || decide ((pg_T 9 j).2.1 ≠ (pg_T 9 k).2.1))))) = true := by decide +kernel
set_option maxRecDepth 100000 in
theorem pg_w0 : pg_is 82 (Cond.instanceMethod Lib.objectInit) = true := by decide +kernel
set_option maxRecDepth 100000 in
theorem pg_w1 : pg_is 511 (Cond.static Lib.Math.max.name) = true := by decide +kernel
set_option maxRecDepth 100000 in
theorem pg_w2 : pg_is 491 (Cond.static Lib.Math.min.name) = true := by decide +kernel
set_option maxRecDepth 100000 in
theorem pg_w3 : pg_is 566 (Cond.static arraycopyName) = true := by decide +kernel
set_option maxRecDepth 100000 in
theorem pg_w4 : pg_is 567 (Cond.native arraycopyName) = true := by decide +kernel
set_option maxRecDepth 100000 in
theorem pg_w5 : pg_is 74 (Cond.initialized "java/lang/Math") = true := by decide +kernel
set_option maxRecDepth 100000 in
theorem pg_w6 : pg_is 75 (Cond.initialized "java/lang/System") = true := by decide +kernel
set_option maxRecDepth 100000 in
theorem pg_w7 : pg_is 141 (Cond.arrayClass .int) = true := by decide +kernel
set_option maxRecDepth 100000 in
theorem pg_w8 : pg_is 142 (Cond.arrayClass .boolean) = true := by decide +kernel
set_option maxRecDepth 100000 in
theorem pg_w9 : pg_is 214 (Cond.arrayOver (.array .int)) = true := by decide +kernel
set_option maxRecDepth 100000 in
theorem pg_w10 : pg_is 1026 (Cond.constantLong (pg_cn 9) 197 5000) = true := by decide +kernel
set_option maxRecDepth 100000 in
theorem pg_u0 : pg_is 83 (Cond.code Lib.objectInit ⟨#[0xb1]⟩ 1 none) = true := by decide +kernel
set_option maxRecDepth 100000 in
theorem pg_u1 : pg_is 512 (Cond.code Lib.Math.max.name Lib.Math.max.code 2 (some .int)) = true := by decide +kernel
set_option maxRecDepth 100000 in
theorem pg_u2 : pg_is 492 (Cond.code Lib.Math.min.name Lib.Math.min.code 2 (some .int)) = true := by decide +kernel
end
section
/-- an int; a reference (none: null); a long -/
abbrev mj_V : Type := Int32 ⊕ Option Nat ⊕ Int64
abbrev mj_L : Type := List (Option mj_V)
/-- how many cells; their kinds ((0, ci) an object of kind ci; (1, n) int[n]; (2, n) boolean[n]; (3, n) int[n][]); their ints; their references -/
abbrev mj_H : Type := Nat × (Nat → Nat × Nat) × (Nat → Nat → Int32) × (Nat → Nat → Option Nat)
abbrev mj_P : Type := Nat → mj_L → List mj_V → mj_H → Nat → Nat → Prop
abbrev mj_G : Type := Nat → List mj_V → mj_H → (Option mj_V → mj_H → Prop) → Prop
def mj_ca : mj_V → Nat
  | .inl _ => 1
  | .inr (.inl _) => 1
  | .inr (.inr _) => 2
def mj_ct : List mj_V → Nat
  | [] => 0
  | v :: st => mj_ca v + mj_ct st
/-- no long stands just before place i -/
def mj_ok (lv : mj_L) : Nat → Bool
  | 0 => true
  | j + 1 => match lv[j]? with
    | some (some (.inr (.inr _))) => false
    | _ => true
def mj_u2 {α : Type} (f : Nat → Nat → α) (c k : Nat) (v : α) : Nat → Nat → α := va_up f c (va_up (f c) k v)
def mr_iconst (b : ByteArray) (o rt mc ms : Nat) (P : mj_P) : Prop := ∀ (pc : Nat) (lv : mj_L) (st : List mj_V) (h : mj_H) (uc : Nat) (us : Nat) (i : Int) (v : Int32), decode b pc = .ok (.iconst i, 1) → Int32.ofInt i = v → P (pc + 1) lv (.inl v :: st) h uc us → P pc lv (st) h uc us
def mr_bipush (b : ByteArray) (o rt mc ms : Nat) (P : mj_P) : Prop := ∀ (pc : Nat) (lv : mj_L) (st : List mj_V) (h : mj_H) (uc : Nat) (us : Nat) (i : Int) (v : Int32), decode b pc = .ok (.bipush i, 2) → (Int8.ofInt i).toInt32 = v → P (pc + 2) lv (.inl v :: st) h uc us → P pc lv (st) h uc us
def mr_sipush (b : ByteArray) (o rt mc ms : Nat) (P : mj_P) : Prop := ∀ (pc : Nat) (lv : mj_L) (st : List mj_V) (h : mj_H) (uc : Nat) (us : Nat) (i : Int) (v : Int32), decode b pc = .ok (.sipush i, 3) → (Int16.ofInt i).toInt32 = v → P (pc + 3) lv (.inl v :: st) h uc us → P pc lv (st) h uc us
def mr_iadd (b : ByteArray) (o rt mc ms : Nat) (P : mj_P) : Prop := ∀ (pc : Nat) (lv : mj_L) (st : List mj_V) (h : mj_H) (uc : Nat) (us : Nat) (x z : Int32), decode b pc = .ok (.iadd, 1) → P (pc + 1) lv (.inl (x + z) :: st) h uc us → P pc lv (.inl z :: .inl x :: st) h uc us
def mr_isub (b : ByteArray) (o rt mc ms : Nat) (P : mj_P) : Prop := ∀ (pc : Nat) (lv : mj_L) (st : List mj_V) (h : mj_H) (uc : Nat) (us : Nat) (x z : Int32), decode b pc = .ok (.isub, 1) → P (pc + 1) lv (.inl (x - z) :: st) h uc us → P pc lv (.inl z :: .inl x :: st) h uc us
def mr_imul (b : ByteArray) (o rt mc ms : Nat) (P : mj_P) : Prop := ∀ (pc : Nat) (lv : mj_L) (st : List mj_V) (h : mj_H) (uc : Nat) (us : Nat) (x z : Int32), decode b pc = .ok (.imul, 1) → P (pc + 1) lv (.inl (x * z) :: st) h uc us → P pc lv (.inl z :: .inl x :: st) h uc us
def mr_iand (b : ByteArray) (o rt mc ms : Nat) (P : mj_P) : Prop := ∀ (pc : Nat) (lv : mj_L) (st : List mj_V) (h : mj_H) (uc : Nat) (us : Nat) (x z : Int32), decode b pc = .ok (.iand, 1) → P (pc + 1) lv (.inl (x &&& z) :: st) h uc us → P pc lv (.inl z :: .inl x :: st) h uc us
def mr_ior (b : ByteArray) (o rt mc ms : Nat) (P : mj_P) : Prop := ∀ (pc : Nat) (lv : mj_L) (st : List mj_V) (h : mj_H) (uc : Nat) (us : Nat) (x z : Int32), decode b pc = .ok (.ior, 1) → P (pc + 1) lv (.inl (x ||| z) :: st) h uc us → P pc lv (.inl z :: .inl x :: st) h uc us
def mr_ixor (b : ByteArray) (o rt mc ms : Nat) (P : mj_P) : Prop := ∀ (pc : Nat) (lv : mj_L) (st : List mj_V) (h : mj_H) (uc : Nat) (us : Nat) (x z : Int32), decode b pc = .ok (.ixor, 1) → P (pc + 1) lv (.inl (x ^^^ z) :: st) h uc us → P pc lv (.inl z :: .inl x :: st) h uc us
def mr_ishl (b : ByteArray) (o rt mc ms : Nat) (P : mj_P) : Prop := ∀ (pc : Nat) (lv : mj_L) (st : List mj_V) (h : mj_H) (uc : Nat) (us : Nat) (x z : Int32), decode b pc = .ok (.ishl, 1) → P (pc + 1) lv (.inl (x <<< (z &&& 31)) :: st) h uc us → P pc lv (.inl z :: .inl x :: st) h uc us
def mr_ishr (b : ByteArray) (o rt mc ms : Nat) (P : mj_P) : Prop := ∀ (pc : Nat) (lv : mj_L) (st : List mj_V) (h : mj_H) (uc : Nat) (us : Nat) (x z : Int32), decode b pc = .ok (.ishr, 1) → P (pc + 1) lv (.inl (x >>> (z &&& 31)) :: st) h uc us → P pc lv (.inl z :: .inl x :: st) h uc us
def mr_iushr (b : ByteArray) (o rt mc ms : Nat) (P : mj_P) : Prop := ∀ (pc : Nat) (lv : mj_L) (st : List mj_V) (h : mj_H) (uc : Nat) (us : Nat) (x z : Int32), decode b pc = .ok (.iushr, 1) → P (pc + 1) lv (.inl ((x.toUInt32 >>> (z.toUInt32 &&& Int32.toUInt32 31)).toInt32) :: st) h uc us → P pc lv (.inl z :: .inl x :: st) h uc us
def mr_idiv (b : ByteArray) (o rt mc ms : Nat) (P : mj_P) : Prop := ∀ (pc : Nat) (lv : mj_L) (st : List mj_V) (h : mj_H) (uc : Nat) (us : Nat) (x z : Int32), decode b pc = .ok (.idiv, 1) → ¬ z = 0 → P (pc + 1) lv (.inl (x / z) :: st) h uc us → P pc lv (.inl z :: .inl x :: st) h uc us
def mr_irem (b : ByteArray) (o rt mc ms : Nat) (P : mj_P) : Prop := ∀ (pc : Nat) (lv : mj_L) (st : List mj_V) (h : mj_H) (uc : Nat) (us : Nat) (x z : Int32), decode b pc = .ok (.irem, 1) → ¬ z = 0 → P (pc + 1) lv (.inl (x - x / z * z) :: st) h uc us → P pc lv (.inl z :: .inl x :: st) h uc us
def mr_ineg (b : ByteArray) (o rt mc ms : Nat) (P : mj_P) : Prop := ∀ (pc : Nat) (lv : mj_L) (st : List mj_V) (h : mj_H) (uc : Nat) (us : Nat) (x : Int32), decode b pc = .ok (.ineg, 1) → P (pc + 1) lv (.inl (-x) :: st) h uc us → P pc lv (.inl x :: st) h uc us
def mr_dup (b : ByteArray) (o rt mc ms : Nat) (P : mj_P) : Prop := ∀ (pc : Nat) (lv : mj_L) (st : List mj_V) (h : mj_H) (uc : Nat) (us : Nat) (v : mj_V), decode b pc = .ok (.dup, 1) → mj_ca v = 1 → P (pc + 1) lv (v :: v :: st) h uc us → P pc lv (v :: st) h uc us
def mr_pop (b : ByteArray) (o rt mc ms : Nat) (P : mj_P) : Prop := ∀ (pc : Nat) (lv : mj_L) (st : List mj_V) (h : mj_H) (uc : Nat) (us : Nat) (v : mj_V), decode b pc = .ok (.pop, 1) → mj_ca v = 1 → P (pc + 1) lv (st) h uc us → P pc lv (v :: st) h uc us
def mr_dup2 (b : ByteArray) (o rt mc ms : Nat) (P : mj_P) : Prop := ∀ (pc : Nat) (lv : mj_L) (st : List mj_V) (h : mj_H) (uc : Nat) (us : Nat) (v w : mj_V), decode b pc = .ok (.dup2, 1) → mj_ca v = 1 → mj_ca w = 1 → P (pc + 1) lv (v :: w :: v :: w :: st) h uc us → P pc lv (v :: w :: st) h uc us
def mr_dup_x1 (b : ByteArray) (o rt mc ms : Nat) (P : mj_P) : Prop := ∀ (pc : Nat) (lv : mj_L) (st : List mj_V) (h : mj_H) (uc : Nat) (us : Nat) (v w : mj_V), decode b pc = .ok (.dup_x1, 1) → mj_ca v = 1 → mj_ca w = 1 → P (pc + 1) lv (v :: w :: v :: st) h uc us → P pc lv (v :: w :: st) h uc us
def mr_lconst (b : ByteArray) (o rt mc ms : Nat) (P : mj_P) : Prop := ∀ (pc : Nat) (lv : mj_L) (st : List mj_V) (h : mj_H) (uc : Nat) (us : Nat) (f : Fin 2) (v : Int64), decode b pc = .ok (.lconst f, 1) → Int64.ofNat (f : Nat) = v → P (pc + 1) lv (.inr (.inr v) :: st) h uc us → P pc lv (st) h uc us
def mr_lmul (b : ByteArray) (o rt mc ms : Nat) (P : mj_P) : Prop := ∀ (pc : Nat) (lv : mj_L) (st : List mj_V) (h : mj_H) (uc : Nat) (us : Nat) (x z : Int64), decode b pc = .ok (.lmul, 1) → P (pc + 1) lv (.inr (.inr (x * z)) :: st) h uc us → P pc lv (.inr (.inr z) :: .inr (.inr x) :: st) h uc us
def mr_lcmp (b : ByteArray) (o rt mc ms : Nat) (P : mj_P) : Prop := ∀ (pc : Nat) (lv : mj_L) (st : List mj_V) (h : mj_H) (uc : Nat) (us : Nat) (x z : Int64), decode b pc = .ok (.lcmp, 1) → P (pc + 1) lv (.inl (lg_cmp x z) :: st) h uc us → P pc lv (.inr (.inr z) :: .inr (.inr x) :: st) h uc us
def mr_i2l (b : ByteArray) (o rt mc ms : Nat) (P : mj_P) : Prop := ∀ (pc : Nat) (lv : mj_L) (st : List mj_V) (h : mj_H) (uc : Nat) (us : Nat) (x : Int32), decode b pc = .ok (.i2l, 1) → P (pc + 1) lv (.inr (.inr x.toInt64) :: st) h uc us → P pc lv (.inl x :: st) h uc us
def mr_icmp_eq (b : ByteArray) (o rt mc ms : Nat) (P : mj_P) : Prop := ∀ (pc : Nat) (lv : mj_L) (st : List mj_V) (h : mj_H) (uc : Nat) (us : Nat) (x z : Int32) (off : Int) (tgt : Nat), decode b pc = .ok (.if_icmp .eq off, 3) → (pc : Int) + off = (tgt : Int) → (x = z → P tgt lv st h uc us) → (¬ x = z → P (pc + 3) lv st h uc us) → P pc lv (.inl z :: .inl x :: st) h uc us
def mr_icmp_ne (b : ByteArray) (o rt mc ms : Nat) (P : mj_P) : Prop := ∀ (pc : Nat) (lv : mj_L) (st : List mj_V) (h : mj_H) (uc : Nat) (us : Nat) (x z : Int32) (off : Int) (tgt : Nat), decode b pc = .ok (.if_icmp .ne off, 3) → (pc : Int) + off = (tgt : Int) → (¬ x = z → P tgt lv st h uc us) → (x = z → P (pc + 3) lv st h uc us) → P pc lv (.inl z :: .inl x :: st) h uc us
def mr_icmp_lt (b : ByteArray) (o rt mc ms : Nat) (P : mj_P) : Prop := ∀ (pc : Nat) (lv : mj_L) (st : List mj_V) (h : mj_H) (uc : Nat) (us : Nat) (x z : Int32) (off : Int) (tgt : Nat), decode b pc = .ok (.if_icmp .lt off, 3) → (pc : Int) + off = (tgt : Int) → (x < z → P tgt lv st h uc us) → (¬ x < z → P (pc + 3) lv st h uc us) → P pc lv (.inl z :: .inl x :: st) h uc us
def mr_icmp_ge (b : ByteArray) (o rt mc ms : Nat) (P : mj_P) : Prop := ∀ (pc : Nat) (lv : mj_L) (st : List mj_V) (h : mj_H) (uc : Nat) (us : Nat) (x z : Int32) (off : Int) (tgt : Nat), decode b pc = .ok (.if_icmp .ge off, 3) → (pc : Int) + off = (tgt : Int) → (z ≤ x → P tgt lv st h uc us) → (¬ z ≤ x → P (pc + 3) lv st h uc us) → P pc lv (.inl z :: .inl x :: st) h uc us
def mr_icmp_gt (b : ByteArray) (o rt mc ms : Nat) (P : mj_P) : Prop := ∀ (pc : Nat) (lv : mj_L) (st : List mj_V) (h : mj_H) (uc : Nat) (us : Nat) (x z : Int32) (off : Int) (tgt : Nat), decode b pc = .ok (.if_icmp .gt off, 3) → (pc : Int) + off = (tgt : Int) → (z < x → P tgt lv st h uc us) → (¬ z < x → P (pc + 3) lv st h uc us) → P pc lv (.inl z :: .inl x :: st) h uc us
def mr_icmp_le (b : ByteArray) (o rt mc ms : Nat) (P : mj_P) : Prop := ∀ (pc : Nat) (lv : mj_L) (st : List mj_V) (h : mj_H) (uc : Nat) (us : Nat) (x z : Int32) (off : Int) (tgt : Nat), decode b pc = .ok (.if_icmp .le off, 3) → (pc : Int) + off = (tgt : Int) → (x ≤ z → P tgt lv st h uc us) → (¬ x ≤ z → P (pc + 3) lv st h uc us) → P pc lv (.inl z :: .inl x :: st) h uc us
def mr_if_eq (b : ByteArray) (o rt mc ms : Nat) (P : mj_P) : Prop := ∀ (pc : Nat) (lv : mj_L) (st : List mj_V) (h : mj_H) (uc : Nat) (us : Nat) (x : Int32) (off : Int) (tgt : Nat), decode b pc = .ok (.ifCond .eq off, 3) → (pc : Int) + off = (tgt : Int) → (x = 0 → P tgt lv st h uc us) → (¬ x = 0 → P (pc + 3) lv st h uc us) → P pc lv (.inl x :: st) h uc us
def mr_if_ne (b : ByteArray) (o rt mc ms : Nat) (P : mj_P) : Prop := ∀ (pc : Nat) (lv : mj_L) (st : List mj_V) (h : mj_H) (uc : Nat) (us : Nat) (x : Int32) (off : Int) (tgt : Nat), decode b pc = .ok (.ifCond .ne off, 3) → (pc : Int) + off = (tgt : Int) → (¬ x = 0 → P tgt lv st h uc us) → (x = 0 → P (pc + 3) lv st h uc us) → P pc lv (.inl x :: st) h uc us
def mr_if_lt (b : ByteArray) (o rt mc ms : Nat) (P : mj_P) : Prop := ∀ (pc : Nat) (lv : mj_L) (st : List mj_V) (h : mj_H) (uc : Nat) (us : Nat) (x : Int32) (off : Int) (tgt : Nat), decode b pc = .ok (.ifCond .lt off, 3) → (pc : Int) + off = (tgt : Int) → (x < 0 → P tgt lv st h uc us) → (¬ x < 0 → P (pc + 3) lv st h uc us) → P pc lv (.inl x :: st) h uc us
def mr_if_ge (b : ByteArray) (o rt mc ms : Nat) (P : mj_P) : Prop := ∀ (pc : Nat) (lv : mj_L) (st : List mj_V) (h : mj_H) (uc : Nat) (us : Nat) (x : Int32) (off : Int) (tgt : Nat), decode b pc = .ok (.ifCond .ge off, 3) → (pc : Int) + off = (tgt : Int) → (0 ≤ x → P tgt lv st h uc us) → (¬ 0 ≤ x → P (pc + 3) lv st h uc us) → P pc lv (.inl x :: st) h uc us
def mr_if_gt (b : ByteArray) (o rt mc ms : Nat) (P : mj_P) : Prop := ∀ (pc : Nat) (lv : mj_L) (st : List mj_V) (h : mj_H) (uc : Nat) (us : Nat) (x : Int32) (off : Int) (tgt : Nat), decode b pc = .ok (.ifCond .gt off, 3) → (pc : Int) + off = (tgt : Int) → (0 < x → P tgt lv st h uc us) → (¬ 0 < x → P (pc + 3) lv st h uc us) → P pc lv (.inl x :: st) h uc us
def mr_if_le (b : ByteArray) (o rt mc ms : Nat) (P : mj_P) : Prop := ∀ (pc : Nat) (lv : mj_L) (st : List mj_V) (h : mj_H) (uc : Nat) (us : Nat) (x : Int32) (off : Int) (tgt : Nat), decode b pc = .ok (.ifCond .le off, 3) → (pc : Int) + off = (tgt : Int) → (x ≤ 0 → P tgt lv st h uc us) → (¬ x ≤ 0 → P (pc + 3) lv st h uc us) → P pc lv (.inl x :: st) h uc us
def mr_goto (b : ByteArray) (o rt mc ms : Nat) (P : mj_P) : Prop := ∀ (pc : Nat) (lv : mj_L) (st : List mj_V) (h : mj_H) (uc : Nat) (us : Nat) (off : Int) (tgt : Nat), decode b pc = .ok (.goto off, 3) → (pc : Int) + off = (tgt : Int) → P tgt lv st h uc us → P pc lv (st) h uc us
def mr_iload (b : ByteArray) (o rt mc ms : Nat) (P : mj_P) : Prop := ∀ (pc : Nat) (lv : mj_L) (st : List mj_V) (h : mj_H) (uc : Nat) (us : Nat) (i : Nat) (x : Int32), decode b pc = .ok (.iload i, 2) → lv[i]? = some (some (.inl x)) → P (pc + 2) lv (.inl x :: st) h uc us → P pc lv (st) h uc us
def mr_iload_n (b : ByteArray) (o rt mc ms : Nat) (P : mj_P) : Prop := ∀ (pc : Nat) (lv : mj_L) (st : List mj_V) (h : mj_H) (uc : Nat) (us : Nat) (f : Fin 4) (i : Nat) (x : Int32), decode b pc = .ok (.iload_n f, 1) → (f : Nat) = i → lv[i]? = some (some (.inl x)) → P (pc + 1) lv (.inl x :: st) h uc us → P pc lv (st) h uc us
def mr_aload (b : ByteArray) (o rt mc ms : Nat) (P : mj_P) : Prop := ∀ (pc : Nat) (lv : mj_L) (st : List mj_V) (h : mj_H) (uc : Nat) (us : Nat) (i : Nat) (x : Nat), decode b pc = .ok (.aload i, 2) → lv[i]? = some (some (.inr (.inl (some x)))) → P (pc + 2) lv (.inr (.inl (some x)) :: st) h uc us → P pc lv (st) h uc us
def mr_aload_n (b : ByteArray) (o rt mc ms : Nat) (P : mj_P) : Prop := ∀ (pc : Nat) (lv : mj_L) (st : List mj_V) (h : mj_H) (uc : Nat) (us : Nat) (f : Fin 4) (i : Nat) (x : Nat), decode b pc = .ok (.aload_n f, 1) → (f : Nat) = i → lv[i]? = some (some (.inr (.inl (some x)))) → P (pc + 1) lv (.inr (.inl (some x)) :: st) h uc us → P pc lv (st) h uc us
def mr_istore (b : ByteArray) (o rt mc ms : Nat) (P : mj_P) : Prop := ∀ (pc : Nat) (lv : mj_L) (st : List mj_V) (h : mj_H) (uc : Nat) (us : Nat) (i : Nat) (x : Int32), decode b pc = .ok (.istore i, 2) → i < lv.length → mj_ok lv i = true → P (pc + 2) (lv.set i (some (.inl x))) st h uc us → P pc lv (.inl x :: st) h uc us
def mr_istore_n (b : ByteArray) (o rt mc ms : Nat) (P : mj_P) : Prop := ∀ (pc : Nat) (lv : mj_L) (st : List mj_V) (h : mj_H) (uc : Nat) (us : Nat) (f : Fin 4) (i : Nat) (x : Int32), decode b pc = .ok (.istore_n f, 1) → (f : Nat) = i → i < lv.length → mj_ok lv i = true → P (pc + 1) (lv.set i (some (.inl x))) st h uc us → P pc lv (.inl x :: st) h uc us
def mr_astore (b : ByteArray) (o rt mc ms : Nat) (P : mj_P) : Prop := ∀ (pc : Nat) (lv : mj_L) (st : List mj_V) (h : mj_H) (uc : Nat) (us : Nat) (i : Nat) (x : Nat), decode b pc = .ok (.astore i, 2) → i < lv.length → mj_ok lv i = true → P (pc + 2) (lv.set i (some (.inr (.inl (some x))))) st h uc us → P pc lv (.inr (.inl (some x)) :: st) h uc us
def mr_astore_n (b : ByteArray) (o rt mc ms : Nat) (P : mj_P) : Prop := ∀ (pc : Nat) (lv : mj_L) (st : List mj_V) (h : mj_H) (uc : Nat) (us : Nat) (f : Fin 4) (i : Nat) (x : Nat), decode b pc = .ok (.astore_n f, 1) → (f : Nat) = i → i < lv.length → mj_ok lv i = true → P (pc + 1) (lv.set i (some (.inr (.inl (some x))))) st h uc us → P pc lv (.inr (.inl (some x)) :: st) h uc us
def mr_iinc (b : ByteArray) (o rt mc ms : Nat) (P : mj_P) : Prop := ∀ (pc : Nat) (lv : mj_L) (st : List mj_V) (h : mj_H) (uc : Nat) (us : Nat) (i : Nat) (k : Int) (x v : Int32), decode b pc = .ok (.iinc i k, 3) → lv[i]? = some (some (.inl x)) → x + Int32.ofInt k = v → mj_ok lv i = true → P (pc + 3) (lv.set i (some (.inl v))) st h uc us → P pc lv (st) h uc us
def mr_lload_n (b : ByteArray) (o rt mc ms : Nat) (P : mj_P) : Prop := ∀ (pc : Nat) (lv : mj_L) (st : List mj_V) (h : mj_H) (uc : Nat) (us : Nat) (f : Fin 4) (i : Nat) (x : Int64), decode b pc = .ok (.lload_n f, 1) → (f : Nat) = i → lv[i]? = some (some (.inr (.inr x))) → P (pc + 1) lv (.inr (.inr x) :: st) h uc us → P pc lv (st) h uc us
def mr_lstore_n (b : ByteArray) (o rt mc ms : Nat) (P : mj_P) : Prop := ∀ (pc : Nat) (lv : mj_L) (st : List mj_V) (h : mj_H) (uc : Nat) (us : Nat) (f : Fin 4) (i : Nat) (x : Int64), decode b pc = .ok (.lstore_n f, 1) → (f : Nat) = i → i + 1 < lv.length → mj_ok lv i = true → P (pc + 1) ((lv.set i (some (.inr (.inr x)))).set (i + 1) none) st h uc us → P pc lv (.inr (.inr x) :: st) h uc us
def mr_ldc2 (b : ByteArray) (o rt mc ms : Nat) (P : mj_P) : Prop := ∀ (pc : Nat) (lv : mj_L) (st : List mj_V) (h : mj_H) (uc : Nat) (us : Nat) (i : Nat) (v : Int64), decode b pc = .ok (.ldc2_w i, 3) → pg_ldl o i = some v → P (pc + 3) lv (.inr (.inr v) :: st) h uc us → P pc lv (st) h uc us
def mr_ldc (b : ByteArray) (o rt mc ms : Nat) (P : mj_P) : Prop := ∀ (pc : Nat) (lv : mj_L) (st : List mj_V) (h : mj_H) (uc : Nat) (us : Nat) (i : Nat) (v : Int32), decode b pc = .ok (.ldc i, 2) → pg_ldc o i = some v → P (pc + 2) lv (.inl v :: st) h uc us → P pc lv (st) h uc us
def mr_getI (b : ByteArray) (o rt mc ms : Nat) (P : mj_P) : Prop := ∀ (pc : Nat) (lv : mj_L) (st : List mj_V) (h : mj_H) (uc : Nat) (us : Nat) (i ci k c : Nat), decode b pc = .ok (.getfield i, 3) → pg_fld o i = some (ci, k) → pg_fr ci k = false → (c < h.1 ∧ h.2.1 c = (0, ci)) → P (pc + 3) lv (.inl (h.2.2.1 c k) :: st) h uc us → P pc lv (.inr (.inl (some c)) :: st) h uc us
def mr_getR (b : ByteArray) (o rt mc ms : Nat) (P : mj_P) : Prop := ∀ (pc : Nat) (lv : mj_L) (st : List mj_V) (h : mj_H) (uc : Nat) (us : Nat) (i ci k c : Nat) (r : Option Nat), decode b pc = .ok (.getfield i, 3) → pg_fld o i = some (ci, k) → pg_fr ci k = true → (c < h.1 ∧ h.2.1 c = (0, ci)) → h.2.2.2 c k = r → P (pc + 3) lv (.inr (.inl r) :: st) h uc us → P pc lv (.inr (.inl (some c)) :: st) h uc us
def mr_putI (b : ByteArray) (o rt mc ms : Nat) (P : mj_P) : Prop := ∀ (pc : Nat) (lv : mj_L) (st : List mj_V) (h : mj_H) (uc : Nat) (us : Nat) (i ci k c : Nat) (x : Int32), decode b pc = .ok (.putfield i, 3) → pg_fld o i = some (ci, k) → pg_fr ci k = false → pg_fin ci k = false → (narrow (pg_ty ci k) (.int x) = .int x ∧ fits (pg_ty ci k) (.int x) = true) → (c < h.1 ∧ h.2.1 c = (0, ci)) → P (pc + 3) lv st (h.1, h.2.1, mj_u2 h.2.2.1 c k x, h.2.2.2) uc us → P pc lv (.inl x :: .inr (.inl (some c)) :: st) h uc us
def mr_putF (b : ByteArray) (o rt mc ms : Nat) (P : mj_P) : Prop := ∀ (pc : Nat) (lv : mj_L) (st : List mj_V) (h : mj_H) (uc : Nat) (us : Nat) (i ci k c x : Nat), rt = 9 → decode b pc = .ok (.putfield i, 3) → pg_fld o i = some (ci, k) → pg_fr ci k = true → pg_fin ci k = true → o = ci → (c < h.1 ∧ h.2.1 c = (0, ci)) → P (pc + 3) lv st (h.1, h.2.1, h.2.2.1, mj_u2 h.2.2.2 c k (some x)) uc us → P pc lv (.inr (.inl (some x)) :: .inr (.inl (some c)) :: st) h uc us
def mr_iald (b : ByteArray) (o rt mc ms : Nat) (P : mj_P) : Prop := ∀ (pc : Nat) (lv : mj_L) (st : List mj_V) (h : mj_H) (uc : Nat) (us : Nat) (c n : Nat) (i : Int32), decode b pc = .ok (.iaload, 1) → (c < h.1 ∧ h.2.1 c = (1, n)) → vp_in i n → P (pc + 1) lv (.inl (h.2.2.1 c i.toNatClampNeg) :: st) h uc us → P pc lv (.inl i :: .inr (.inl (some c)) :: st) h uc us
def mr_zald (b : ByteArray) (o rt mc ms : Nat) (P : mj_P) : Prop := ∀ (pc : Nat) (lv : mj_L) (st : List mj_V) (h : mj_H) (uc : Nat) (us : Nat) (c n : Nat) (i : Int32), decode b pc = .ok (.baload, 1) → (c < h.1 ∧ h.2.1 c = (2, n)) → vp_in i n → P (pc + 1) lv (.inl (h.2.2.1 c i.toNatClampNeg) :: st) h uc us → P pc lv (.inl i :: .inr (.inl (some c)) :: st) h uc us
def mr_iast (b : ByteArray) (o rt mc ms : Nat) (P : mj_P) : Prop := ∀ (pc : Nat) (lv : mj_L) (st : List mj_V) (h : mj_H) (uc : Nat) (us : Nat) (c n : Nat) (i x : Int32), decode b pc = .ok (.iastore, 1) → (c < h.1 ∧ h.2.1 c = (1, n)) → vp_in i n → P (pc + 1) lv st (h.1, h.2.1, mj_u2 h.2.2.1 c i.toNatClampNeg x, h.2.2.2) uc us → P pc lv (.inl x :: .inl i :: .inr (.inl (some c)) :: st) h uc us
def mr_zast (b : ByteArray) (o rt mc ms : Nat) (P : mj_P) : Prop := ∀ (pc : Nat) (lv : mj_L) (st : List mj_V) (h : mj_H) (uc : Nat) (us : Nat) (c n : Nat) (i x : Int32), decode b pc = .ok (.bastore, 1) → (c < h.1 ∧ h.2.1 c = (2, n)) → vp_in i n → narrow .boolean (.int x) = .int x → P (pc + 1) lv st (h.1, h.2.1, mj_u2 h.2.2.1 c i.toNatClampNeg x, h.2.2.2) uc us → P pc lv (.inl x :: .inl i :: .inr (.inl (some c)) :: st) h uc us
def mr_aald (b : ByteArray) (o rt mc ms : Nat) (P : mj_P) : Prop := ∀ (pc : Nat) (lv : mj_L) (st : List mj_V) (h : mj_H) (uc : Nat) (us : Nat) (c n : Nat) (i : Int32) (r : Option Nat), decode b pc = .ok (.aaload, 1) → (c < h.1 ∧ h.2.1 c = (3, n)) → vp_in i n → h.2.2.2 c i.toNatClampNeg = r → P (pc + 1) lv (.inr (.inl r) :: st) h uc us → P pc lv (.inl i :: .inr (.inl (some c)) :: st) h uc us
def mr_alen (b : ByteArray) (o rt mc ms : Nat) (P : mj_P) : Prop := ∀ (pc : Nat) (lv : mj_L) (st : List mj_V) (h : mj_H) (uc : Nat) (us : Nat) (c t n : Nat), decode b pc = .ok (.arraylength, 1) → (c < h.1 ∧ h.2.1 c = (t, n)) → (0 < t ∧ t < 4) → P (pc + 1) lv (.inl (Int32.ofNat n) :: st) h uc us → P pc lv (.inr (.inl (some c)) :: st) h uc us
def mr_new (b : ByteArray) (o rt mc ms : Nat) (P : mj_P) : Prop := ∀ (pc : Nat) (lv : mj_L) (st : List mj_V) (h : mj_H) (uc : Nat) (us : Nat) (i ci : Nat), decode b pc = .ok (.new i, 3) → pg_new o i = some ci → uc + 1 ≤ mc → us + pg_nf ci ≤ ms → P (pc + 3) lv (.inr (.inl (some h.1)) :: st) (h.1 + 1, va_up h.2.1 h.1 (0, ci), va_up h.2.2.1 h.1 (fun _ => 0), va_up h.2.2.2 h.1 (fun _ => none)) (uc + 1) (us + pg_nf ci) → P pc lv (st) h uc us
def mr_newi (b : ByteArray) (o rt mc ms : Nat) (P : mj_P) : Prop := ∀ (pc : Nat) (lv : mj_L) (st : List mj_V) (h : mj_H) (uc : Nat) (us : Nat) (x : Int32) (n : Nat), decode b pc = .ok (.newarray .int, 2) → ¬ x < 0 → x.toNatClampNeg = n → n ≤ 100000 → uc + 1 ≤ mc → us + n ≤ ms → P (pc + 2) lv (.inr (.inl (some h.1)) :: st) (h.1 + 1, va_up h.2.1 h.1 (1, n), va_up h.2.2.1 h.1 (fun _ => 0), va_up h.2.2.2 h.1 (fun _ => none)) (uc + 1) (us + n) → P pc lv (.inl x :: st) h uc us
def mr_newz (b : ByteArray) (o rt mc ms : Nat) (P : mj_P) : Prop := ∀ (pc : Nat) (lv : mj_L) (st : List mj_V) (h : mj_H) (uc : Nat) (us : Nat) (x : Int32) (n : Nat), decode b pc = .ok (.newarray .boolean, 2) → ¬ x < 0 → x.toNatClampNeg = n → n ≤ 100000 → uc + 1 ≤ mc → us + n ≤ ms → P (pc + 2) lv (.inr (.inl (some h.1)) :: st) (h.1 + 1, va_up h.2.1 h.1 (2, n), va_up h.2.2.1 h.1 (fun _ => 0), va_up h.2.2.2 h.1 (fun _ => none)) (uc + 1) (us + n) → P pc lv (.inl x :: st) h uc us
def mr_newm (b : ByteArray) (o rt mc ms : Nat) (P : mj_P) : Prop := ∀ (pc : Nat) (lv : mj_L) (st : List mj_V) (h : mj_H) (uc : Nat) (us : Nat) (i : Nat) (x z : Int32) (n k : Nat), decode b pc = .ok (.multianewarray i 2, 4) → pg_gr o i = some 1 → ¬ x < 0 → ¬ z < 0 → x.toNatClampNeg = n → z.toNatClampNeg = k → n ≤ 100000 → k ≤ 100000 → uc + (1 + n) ≤ mc → us + (n + n * k) ≤ ms → P (pc + 4) lv (.inr (.inl (some h.1)) :: st) (h.1 + 1 + n, (fun c => if c = h.1 then (3, n) else if h.1 < c ∧ c ≤ h.1 + n then (1, k) else h.2.1 c), (fun c => if h.1 ≤ c ∧ c ≤ h.1 + n then (fun _ => 0) else h.2.2.1 c), (fun c => if c = h.1 then (fun j => if j < n then some (h.1 + 1 + j) else none) else h.2.2.2 c)) (uc + 1 + n) (us + n + n * k) → P pc lv (.inl z :: .inl x :: st) h uc us
def mr_objI (b : ByteArray) (o rt mc ms : Nat) (P : mj_P) : Prop := ∀ (pc : Nat) (lv : mj_L) (st : List mj_V) (h : mj_H) (uc : Nat) (us : Nat) (i c : Nat), decode b pc = .ok (.invokespecial i, 3) → pg_sp o i = some 1 → Nat.ble (mj_ct st) 8 = true → P (pc + 3) lv st h uc us → P pc lv (.inr (.inl (some c)) :: st) h uc us
def mr_max (b : ByteArray) (o rt mc ms : Nat) (P : mj_P) : Prop := ∀ (pc : Nat) (lv : mj_L) (st : List mj_V) (h : mj_H) (uc : Nat) (us : Nat) (i : Nat) (x z : Int32), decode b pc = .ok (.invokestatic i, 3) → pg_sp o i = some 2 → Nat.ble (mj_ct st) 8 = true → P (pc + 3) lv (.inl (if x < z then z else x) :: st) h uc us → P pc lv (.inl z :: .inl x :: st) h uc us
def mr_min (b : ByteArray) (o rt mc ms : Nat) (P : mj_P) : Prop := ∀ (pc : Nat) (lv : mj_L) (st : List mj_V) (h : mj_H) (uc : Nat) (us : Nat) (i : Nat) (x z : Int32), decode b pc = .ok (.invokestatic i, 3) → pg_sp o i = some 3 → Nat.ble (mj_ct st) 8 = true → P (pc + 3) lv (.inl (if z < x then z else x) :: st) h uc us → P pc lv (.inl z :: .inl x :: st) h uc us
def mr_copy (b : ByteArray) (o rt mc ms : Nat) (P : mj_P) : Prop := ∀ (pc : Nat) (lv : mj_L) (st : List mj_V) (h : mj_H) (uc : Nat) (us : Nat) (i a0 a1 n0 n1 : Nat) (sp dp n : Int32), decode b pc = .ok (.invokestatic i, 3) → pg_sp o i = some 4 → (a0 < h.1 ∧ h.2.1 a0 = (1, n0)) → (a1 < h.1 ∧ h.2.1 a1 = (1, n1)) → ¬ sp < 0 → ¬ dp < 0 → ¬ n < 0 → sp.toNatClampNeg + n.toNatClampNeg ≤ n0 → dp.toNatClampNeg + n.toNatClampNeg ≤ n1 → Nat.ble (mj_ct st) 8 = true → P (pc + 3) lv st (h.1, h.2.1, va_up h.2.2.1 a1 (va_cpy (h.2.2.1 a0) (h.2.2.1 a1) sp.toNatClampNeg dp.toNatClampNeg n.toNatClampNeg), h.2.2.2) uc us → P pc lv (.inl n :: .inl dp :: .inr (.inl (some a1)) :: .inl sp :: .inr (.inl (some a0)) :: st) h uc us
def mj_rule (k : Nat) (b : ByteArray) (o rt mc ms : Nat) (P : mj_P) : Prop := match k with
  | 0 => mr_iconst b o rt mc ms P
  | 1 => mr_bipush b o rt mc ms P
  | 2 => mr_sipush b o rt mc ms P
  | 3 => mr_iadd b o rt mc ms P
  | 4 => mr_isub b o rt mc ms P
  | 5 => mr_imul b o rt mc ms P
  | 6 => mr_iand b o rt mc ms P
  | 7 => mr_ior b o rt mc ms P
  | 8 => mr_ixor b o rt mc ms P
  | 9 => mr_ishl b o rt mc ms P
  | 10 => mr_ishr b o rt mc ms P
  | 11 => mr_iushr b o rt mc ms P
  | 12 => mr_idiv b o rt mc ms P
  | 13 => mr_irem b o rt mc ms P
  | 14 => mr_ineg b o rt mc ms P
  | 15 => mr_dup b o rt mc ms P
  | 16 => mr_pop b o rt mc ms P
  | 17 => mr_dup2 b o rt mc ms P
  | 18 => mr_dup_x1 b o rt mc ms P
  | 19 => mr_lconst b o rt mc ms P
  | 20 => mr_lmul b o rt mc ms P
  | 21 => mr_lcmp b o rt mc ms P
  | 22 => mr_i2l b o rt mc ms P
  | 23 => mr_icmp_eq b o rt mc ms P
  | 24 => mr_icmp_ne b o rt mc ms P
  | 25 => mr_icmp_lt b o rt mc ms P
  | 26 => mr_icmp_ge b o rt mc ms P
  | 27 => mr_icmp_gt b o rt mc ms P
  | 28 => mr_icmp_le b o rt mc ms P
  | 29 => mr_if_eq b o rt mc ms P
  | 30 => mr_if_ne b o rt mc ms P
  | 31 => mr_if_lt b o rt mc ms P
  | 32 => mr_if_ge b o rt mc ms P
  | 33 => mr_if_gt b o rt mc ms P
  | 34 => mr_if_le b o rt mc ms P
  | 35 => mr_goto b o rt mc ms P
  | 36 => mr_iload b o rt mc ms P
  | 37 => mr_iload_n b o rt mc ms P
  | 38 => mr_aload b o rt mc ms P
  | 39 => mr_aload_n b o rt mc ms P
  | 40 => mr_istore b o rt mc ms P
  | 41 => mr_istore_n b o rt mc ms P
  | 42 => mr_astore b o rt mc ms P
  | 43 => mr_astore_n b o rt mc ms P
  | 44 => mr_iinc b o rt mc ms P
  | 45 => mr_lload_n b o rt mc ms P
  | 46 => mr_lstore_n b o rt mc ms P
  | 47 => mr_ldc2 b o rt mc ms P
  | 48 => mr_ldc b o rt mc ms P
  | 49 => mr_getI b o rt mc ms P
  | 50 => mr_getR b o rt mc ms P
  | 51 => mr_putI b o rt mc ms P
  | 52 => mr_putF b o rt mc ms P
  | 53 => mr_iald b o rt mc ms P
  | 54 => mr_zald b o rt mc ms P
  | 55 => mr_iast b o rt mc ms P
  | 56 => mr_zast b o rt mc ms P
  | 57 => mr_aald b o rt mc ms P
  | 58 => mr_alen b o rt mc ms P
  | 59 => mr_new b o rt mc ms P
  | 60 => mr_newi b o rt mc ms P
  | 61 => mr_newz b o rt mc ms P
  | 62 => mr_newm b o rt mc ms P
  | 63 => mr_objI b o rt mc ms P
  | 64 => mr_max b o rt mc ms P
  | 65 => mr_min b o rt mc ms P
  | 66 => mr_copy b o rt mc ms P
  | _ => True
def mr_reti (b : ByteArray) (rt : Nat) (post : Option mj_V → mj_H → Prop) (P : mj_P) : Prop := ∀ (pc : Nat) (lv : mj_L) (h : mj_H) (uc : Nat) (us : Nat) (x : Int32), decode b pc = .ok (.ireturn, 1) → (rt = 1 ∨ (rt = 2 ∧ narrow .boolean (.int x) = .int x)) → post (some (.inl x)) h → P pc lv ([.inl x]) h uc us
def mr_retv (b : ByteArray) (rt : Nat) (post : Option mj_V → mj_H → Prop) (P : mj_P) : Prop := ∀ (pc : Nat) (lv : mj_L) (h : mj_H) (uc : Nat) (us : Nat) , decode b pc = .ok (.return_, 1) → (rt = 0 ∨ rt = 9) → post none h → P pc lv ([]) h uc us
def mr_callS (call : mj_G) (b : ByteArray) (o mc ms : Nat) (P : mj_P) : Prop := ∀ (pc : Nat) (lv : mj_L) (st : List mj_V) (h : mj_H) (uc : Nat) (us : Nat) (i z : Nat) (as : List mj_V), decode b pc = .ok (.invokestatic i, 3) → pg_mth o i = some z → pg_kd z = 0 → (as.length = pg_na z ∧ mj_ct as = pg_na z) → Nat.ble (mj_ct st) 8 = true → uc + pg_mc z ≤ mc → us + pg_ms z ≤ ms → call z as h (fun r h2 => P (pc + 3) lv (r.toList ++ st) h2 (uc + pg_mc z) (us + pg_ms z)) → P pc lv (as.reverse ++ st) h uc us
def mr_callV (call : mj_G) (b : ByteArray) (o mc ms : Nat) (P : mj_P) : Prop := ∀ (pc : Nat) (lv : mj_L) (st : List mj_V) (h : mj_H) (uc : Nat) (us : Nat) (i z : Nat) (as : List mj_V), decode b pc = .ok (.invokevirtual i, 3) → pg_mth o i = some z → pg_kd z = 1 → (as.length = pg_na z ∧ mj_ct as = pg_na z) → Nat.ble (mj_ct st) 8 = true → uc + pg_mc z ≤ mc → us + pg_ms z ≤ ms → (∃ c, as.head? = some (.inr (.inl (some c))) ∧ c < h.1 ∧ h.2.1 c = (0, pg_own z)) → call z as h (fun r h2 => P (pc + 3) lv (r.toList ++ st) h2 (uc + pg_mc z) (us + pg_ms z)) → P pc lv (as.reverse ++ st) h uc us
def mr_callI (call : mj_G) (b : ByteArray) (o mc ms : Nat) (P : mj_P) : Prop := ∀ (pc : Nat) (lv : mj_L) (st : List mj_V) (h : mj_H) (uc : Nat) (us : Nat) (i z : Nat) (as : List mj_V), decode b pc = .ok (.invokespecial i, 3) → pg_mth o i = some z → pg_kd z = 2 → (as.length = pg_na z ∧ mj_ct as = pg_na z) → Nat.ble (mj_ct st) 8 = true → uc + pg_mc z ≤ mc → us + pg_ms z ≤ ms → (∃ c, as.head? = some (.inr (.inl (some c)))) → call z as h (fun r h2 => P (pc + 3) lv (r.toList ++ st) h2 (uc + pg_mc z) (us + pg_ms z)) → P pc lv (as.reverse ++ st) h uc us
def mj_C (call : mj_G) (b : ByteArray) (o rt mc ms : Nat) (post : Option mj_V → mj_H → Prop) (P : mj_P) : Prop := (∀ k, mj_rule k b o rt mc ms P) ∧ (mr_callS call b o mc ms P ∧ mr_callV call b o mc ms P ∧ mr_callI call b o mc ms P) ∧ mr_reti b rt post P ∧ mr_retv b rt post P
/-- the small machine comes to a return with post: the least predicate that its rules allow -/
def mj_W (call : mj_G) (b : ByteArray) (o rt mc ms : Nat) (post : Option mj_V → mj_H → Prop) : mj_P := fun pc lv st h uc us => ∀ P : mj_P, mj_C call b o rt mc ms post P → P pc lv st h uc us
theorem mj_W.mono {call : mj_G} {b : ByteArray} {o rt mc ms : Nat} {post post2 : Option mj_V → mj_H → Prop} {pc : Nat} {lv : mj_L} {st : List mj_V} {h : mj_H} {uc us : Nat} (hp : ∀ r h, post r h → post2 r h) (hw : mj_W call b o rt mc ms post pc lv st h uc us) : mj_W call b o rt mc ms post2 pc lv st h uc us :=
  fun P hc => hw P ⟨hc.1, hc.2.1, fun pc lv h uc us x d1 d2 d3 => hc.2.2.1 pc lv h uc us x d1 d2 (hp _ _ d3), fun pc lv h uc us d1 d2 d3 => hc.2.2.2 pc lv h uc us d1 d2 (hp _ _ d3)⟩
def mj_entry (n : Nat) (as : List mj_V) : mj_L := as.map some ++ List.replicate (n - as.length) none
def mj_lv : Nat → mj_G
  | 0 => fun _ _ _ _ => False
  | d + 1 => fun y as h post => mj_W (mj_lv d) (pg_code y) (pg_own y) (pg_rt y) (pg_mc y) (pg_ms y) post 0 (mj_entry (pg_maxL y) as) [] h 0 0
theorem mj_lv_mono : ∀ (d y : Nat) (as : List mj_V) (h : mj_H) (post post2 : Option mj_V → mj_H → Prop), (∀ r h, post r h → post2 r h) → mj_lv d y as h post → mj_lv d y as h post2
  | 0, _, _, _, _, _, _, hw => hw
  | _ + 1, _, _, _, _, _, hp, hw => mj_W.mono hp hw
section mj_rows
variable {d : Nat} {b : ByteArray} {o rt mc ms : Nat} {post : Option mj_V → mj_H → Prop} {pc : Nat} {lv : mj_L} {st : List mj_V} {h : mj_H} {uc us : Nat}
theorem mj_iconst {i : Int} {v : Int32} (e0 : decode b pc = .ok (.iconst i, 1)) (e1 : Int32.ofInt i = v) (k0 : mj_W (mj_lv d) b o rt mc ms post (pc + 1) lv (.inl v :: st) h uc us) : mj_W (mj_lv d) b o rt mc ms post pc lv (st) h uc us :=
  fun P hc => (show mr_iconst b o rt mc ms P from hc.1 0) pc lv st h uc us i v e0 e1 (k0 P hc)
theorem mj_bipush {i : Int} {v : Int32} (e0 : decode b pc = .ok (.bipush i, 2)) (e1 : (Int8.ofInt i).toInt32 = v) (k0 : mj_W (mj_lv d) b o rt mc ms post (pc + 2) lv (.inl v :: st) h uc us) : mj_W (mj_lv d) b o rt mc ms post pc lv (st) h uc us :=
  fun P hc => (show mr_bipush b o rt mc ms P from hc.1 1) pc lv st h uc us i v e0 e1 (k0 P hc)
theorem mj_sipush {i : Int} {v : Int32} (e0 : decode b pc = .ok (.sipush i, 3)) (e1 : (Int16.ofInt i).toInt32 = v) (k0 : mj_W (mj_lv d) b o rt mc ms post (pc + 3) lv (.inl v :: st) h uc us) : mj_W (mj_lv d) b o rt mc ms post pc lv (st) h uc us :=
  fun P hc => (show mr_sipush b o rt mc ms P from hc.1 2) pc lv st h uc us i v e0 e1 (k0 P hc)
theorem mj_iadd {x z : Int32} (e0 : decode b pc = .ok (.iadd, 1)) (k0 : mj_W (mj_lv d) b o rt mc ms post (pc + 1) lv (.inl (x + z) :: st) h uc us) : mj_W (mj_lv d) b o rt mc ms post pc lv (.inl z :: .inl x :: st) h uc us :=
  fun P hc => (show mr_iadd b o rt mc ms P from hc.1 3) pc lv st h uc us x z e0 (k0 P hc)
theorem mj_isub {x z : Int32} (e0 : decode b pc = .ok (.isub, 1)) (k0 : mj_W (mj_lv d) b o rt mc ms post (pc + 1) lv (.inl (x - z) :: st) h uc us) : mj_W (mj_lv d) b o rt mc ms post pc lv (.inl z :: .inl x :: st) h uc us :=
  fun P hc => (show mr_isub b o rt mc ms P from hc.1 4) pc lv st h uc us x z e0 (k0 P hc)
theorem mj_imul {x z : Int32} (e0 : decode b pc = .ok (.imul, 1)) (k0 : mj_W (mj_lv d) b o rt mc ms post (pc + 1) lv (.inl (x * z) :: st) h uc us) : mj_W (mj_lv d) b o rt mc ms post pc lv (.inl z :: .inl x :: st) h uc us :=
  fun P hc => (show mr_imul b o rt mc ms P from hc.1 5) pc lv st h uc us x z e0 (k0 P hc)
theorem mj_iand {x z : Int32} (e0 : decode b pc = .ok (.iand, 1)) (k0 : mj_W (mj_lv d) b o rt mc ms post (pc + 1) lv (.inl (x &&& z) :: st) h uc us) : mj_W (mj_lv d) b o rt mc ms post pc lv (.inl z :: .inl x :: st) h uc us :=
  fun P hc => (show mr_iand b o rt mc ms P from hc.1 6) pc lv st h uc us x z e0 (k0 P hc)
theorem mj_ior {x z : Int32} (e0 : decode b pc = .ok (.ior, 1)) (k0 : mj_W (mj_lv d) b o rt mc ms post (pc + 1) lv (.inl (x ||| z) :: st) h uc us) : mj_W (mj_lv d) b o rt mc ms post pc lv (.inl z :: .inl x :: st) h uc us :=
  fun P hc => (show mr_ior b o rt mc ms P from hc.1 7) pc lv st h uc us x z e0 (k0 P hc)
theorem mj_ixor {x z : Int32} (e0 : decode b pc = .ok (.ixor, 1)) (k0 : mj_W (mj_lv d) b o rt mc ms post (pc + 1) lv (.inl (x ^^^ z) :: st) h uc us) : mj_W (mj_lv d) b o rt mc ms post pc lv (.inl z :: .inl x :: st) h uc us :=
  fun P hc => (show mr_ixor b o rt mc ms P from hc.1 8) pc lv st h uc us x z e0 (k0 P hc)
theorem mj_ishl {x z : Int32} (e0 : decode b pc = .ok (.ishl, 1)) (k0 : mj_W (mj_lv d) b o rt mc ms post (pc + 1) lv (.inl (x <<< (z &&& 31)) :: st) h uc us) : mj_W (mj_lv d) b o rt mc ms post pc lv (.inl z :: .inl x :: st) h uc us :=
  fun P hc => (show mr_ishl b o rt mc ms P from hc.1 9) pc lv st h uc us x z e0 (k0 P hc)
theorem mj_ishr {x z : Int32} (e0 : decode b pc = .ok (.ishr, 1)) (k0 : mj_W (mj_lv d) b o rt mc ms post (pc + 1) lv (.inl (x >>> (z &&& 31)) :: st) h uc us) : mj_W (mj_lv d) b o rt mc ms post pc lv (.inl z :: .inl x :: st) h uc us :=
  fun P hc => (show mr_ishr b o rt mc ms P from hc.1 10) pc lv st h uc us x z e0 (k0 P hc)
theorem mj_iushr {x z : Int32} (e0 : decode b pc = .ok (.iushr, 1)) (k0 : mj_W (mj_lv d) b o rt mc ms post (pc + 1) lv (.inl ((x.toUInt32 >>> (z.toUInt32 &&& Int32.toUInt32 31)).toInt32) :: st) h uc us) : mj_W (mj_lv d) b o rt mc ms post pc lv (.inl z :: .inl x :: st) h uc us :=
  fun P hc => (show mr_iushr b o rt mc ms P from hc.1 11) pc lv st h uc us x z e0 (k0 P hc)
theorem mj_idiv {x z : Int32} (e0 : decode b pc = .ok (.idiv, 1)) (e1 : ¬ z = 0) (k0 : mj_W (mj_lv d) b o rt mc ms post (pc + 1) lv (.inl (x / z) :: st) h uc us) : mj_W (mj_lv d) b o rt mc ms post pc lv (.inl z :: .inl x :: st) h uc us :=
  fun P hc => (show mr_idiv b o rt mc ms P from hc.1 12) pc lv st h uc us x z e0 e1 (k0 P hc)
theorem mj_irem {x z : Int32} (e0 : decode b pc = .ok (.irem, 1)) (e1 : ¬ z = 0) (k0 : mj_W (mj_lv d) b o rt mc ms post (pc + 1) lv (.inl (x - x / z * z) :: st) h uc us) : mj_W (mj_lv d) b o rt mc ms post pc lv (.inl z :: .inl x :: st) h uc us :=
  fun P hc => (show mr_irem b o rt mc ms P from hc.1 13) pc lv st h uc us x z e0 e1 (k0 P hc)
theorem mj_ineg {x : Int32} (e0 : decode b pc = .ok (.ineg, 1)) (k0 : mj_W (mj_lv d) b o rt mc ms post (pc + 1) lv (.inl (-x) :: st) h uc us) : mj_W (mj_lv d) b o rt mc ms post pc lv (.inl x :: st) h uc us :=
  fun P hc => (show mr_ineg b o rt mc ms P from hc.1 14) pc lv st h uc us x e0 (k0 P hc)
theorem mj_dup {v : mj_V} (e0 : decode b pc = .ok (.dup, 1)) (e1 : mj_ca v = 1) (k0 : mj_W (mj_lv d) b o rt mc ms post (pc + 1) lv (v :: v :: st) h uc us) : mj_W (mj_lv d) b o rt mc ms post pc lv (v :: st) h uc us :=
  fun P hc => (show mr_dup b o rt mc ms P from hc.1 15) pc lv st h uc us v e0 e1 (k0 P hc)
theorem mj_pop {v : mj_V} (e0 : decode b pc = .ok (.pop, 1)) (e1 : mj_ca v = 1) (k0 : mj_W (mj_lv d) b o rt mc ms post (pc + 1) lv (st) h uc us) : mj_W (mj_lv d) b o rt mc ms post pc lv (v :: st) h uc us :=
  fun P hc => (show mr_pop b o rt mc ms P from hc.1 16) pc lv st h uc us v e0 e1 (k0 P hc)
theorem mj_dup2 {v w : mj_V} (e0 : decode b pc = .ok (.dup2, 1)) (e1 : mj_ca v = 1) (e2 : mj_ca w = 1) (k0 : mj_W (mj_lv d) b o rt mc ms post (pc + 1) lv (v :: w :: v :: w :: st) h uc us) : mj_W (mj_lv d) b o rt mc ms post pc lv (v :: w :: st) h uc us :=
  fun P hc => (show mr_dup2 b o rt mc ms P from hc.1 17) pc lv st h uc us v w e0 e1 e2 (k0 P hc)
theorem mj_dup_x1 {v w : mj_V} (e0 : decode b pc = .ok (.dup_x1, 1)) (e1 : mj_ca v = 1) (e2 : mj_ca w = 1) (k0 : mj_W (mj_lv d) b o rt mc ms post (pc + 1) lv (v :: w :: v :: st) h uc us) : mj_W (mj_lv d) b o rt mc ms post pc lv (v :: w :: st) h uc us :=
  fun P hc => (show mr_dup_x1 b o rt mc ms P from hc.1 18) pc lv st h uc us v w e0 e1 e2 (k0 P hc)
theorem mj_lconst {f : Fin 2} {v : Int64} (e0 : decode b pc = .ok (.lconst f, 1)) (e1 : Int64.ofNat (f : Nat) = v) (k0 : mj_W (mj_lv d) b o rt mc ms post (pc + 1) lv (.inr (.inr v) :: st) h uc us) : mj_W (mj_lv d) b o rt mc ms post pc lv (st) h uc us :=
  fun P hc => (show mr_lconst b o rt mc ms P from hc.1 19) pc lv st h uc us f v e0 e1 (k0 P hc)
theorem mj_lmul {x z : Int64} (e0 : decode b pc = .ok (.lmul, 1)) (k0 : mj_W (mj_lv d) b o rt mc ms post (pc + 1) lv (.inr (.inr (x * z)) :: st) h uc us) : mj_W (mj_lv d) b o rt mc ms post pc lv (.inr (.inr z) :: .inr (.inr x) :: st) h uc us :=
  fun P hc => (show mr_lmul b o rt mc ms P from hc.1 20) pc lv st h uc us x z e0 (k0 P hc)
theorem mj_lcmp {x z : Int64} (e0 : decode b pc = .ok (.lcmp, 1)) (k0 : mj_W (mj_lv d) b o rt mc ms post (pc + 1) lv (.inl (lg_cmp x z) :: st) h uc us) : mj_W (mj_lv d) b o rt mc ms post pc lv (.inr (.inr z) :: .inr (.inr x) :: st) h uc us :=
  fun P hc => (show mr_lcmp b o rt mc ms P from hc.1 21) pc lv st h uc us x z e0 (k0 P hc)
theorem mj_i2l {x : Int32} (e0 : decode b pc = .ok (.i2l, 1)) (k0 : mj_W (mj_lv d) b o rt mc ms post (pc + 1) lv (.inr (.inr x.toInt64) :: st) h uc us) : mj_W (mj_lv d) b o rt mc ms post pc lv (.inl x :: st) h uc us :=
  fun P hc => (show mr_i2l b o rt mc ms P from hc.1 22) pc lv st h uc us x e0 (k0 P hc)
theorem mj_icmp_eq {x z : Int32} {off : Int} {tgt : Nat} (e0 : decode b pc = .ok (.if_icmp .eq off, 3)) (e1 : (pc : Int) + off = (tgt : Int)) (k0 : (x = z → mj_W (mj_lv d) b o rt mc ms post tgt lv st h uc us)) (k1 : (¬ x = z → mj_W (mj_lv d) b o rt mc ms post (pc + 3) lv st h uc us)) : mj_W (mj_lv d) b o rt mc ms post pc lv (.inl z :: .inl x :: st) h uc us :=
  fun P hc => (show mr_icmp_eq b o rt mc ms P from hc.1 23) pc lv st h uc us x z off tgt e0 e1 (fun g => k0 g P hc) (fun g => k1 g P hc)
theorem mj_icmp_ne {x z : Int32} {off : Int} {tgt : Nat} (e0 : decode b pc = .ok (.if_icmp .ne off, 3)) (e1 : (pc : Int) + off = (tgt : Int)) (k0 : (¬ x = z → mj_W (mj_lv d) b o rt mc ms post tgt lv st h uc us)) (k1 : (x = z → mj_W (mj_lv d) b o rt mc ms post (pc + 3) lv st h uc us)) : mj_W (mj_lv d) b o rt mc ms post pc lv (.inl z :: .inl x :: st) h uc us :=
  fun P hc => (show mr_icmp_ne b o rt mc ms P from hc.1 24) pc lv st h uc us x z off tgt e0 e1 (fun g => k0 g P hc) (fun g => k1 g P hc)
theorem mj_icmp_lt {x z : Int32} {off : Int} {tgt : Nat} (e0 : decode b pc = .ok (.if_icmp .lt off, 3)) (e1 : (pc : Int) + off = (tgt : Int)) (k0 : (x < z → mj_W (mj_lv d) b o rt mc ms post tgt lv st h uc us)) (k1 : (¬ x < z → mj_W (mj_lv d) b o rt mc ms post (pc + 3) lv st h uc us)) : mj_W (mj_lv d) b o rt mc ms post pc lv (.inl z :: .inl x :: st) h uc us :=
  fun P hc => (show mr_icmp_lt b o rt mc ms P from hc.1 25) pc lv st h uc us x z off tgt e0 e1 (fun g => k0 g P hc) (fun g => k1 g P hc)
theorem mj_icmp_ge {x z : Int32} {off : Int} {tgt : Nat} (e0 : decode b pc = .ok (.if_icmp .ge off, 3)) (e1 : (pc : Int) + off = (tgt : Int)) (k0 : (z ≤ x → mj_W (mj_lv d) b o rt mc ms post tgt lv st h uc us)) (k1 : (¬ z ≤ x → mj_W (mj_lv d) b o rt mc ms post (pc + 3) lv st h uc us)) : mj_W (mj_lv d) b o rt mc ms post pc lv (.inl z :: .inl x :: st) h uc us :=
  fun P hc => (show mr_icmp_ge b o rt mc ms P from hc.1 26) pc lv st h uc us x z off tgt e0 e1 (fun g => k0 g P hc) (fun g => k1 g P hc)
theorem mj_icmp_gt {x z : Int32} {off : Int} {tgt : Nat} (e0 : decode b pc = .ok (.if_icmp .gt off, 3)) (e1 : (pc : Int) + off = (tgt : Int)) (k0 : (z < x → mj_W (mj_lv d) b o rt mc ms post tgt lv st h uc us)) (k1 : (¬ z < x → mj_W (mj_lv d) b o rt mc ms post (pc + 3) lv st h uc us)) : mj_W (mj_lv d) b o rt mc ms post pc lv (.inl z :: .inl x :: st) h uc us :=
  fun P hc => (show mr_icmp_gt b o rt mc ms P from hc.1 27) pc lv st h uc us x z off tgt e0 e1 (fun g => k0 g P hc) (fun g => k1 g P hc)
theorem mj_icmp_le {x z : Int32} {off : Int} {tgt : Nat} (e0 : decode b pc = .ok (.if_icmp .le off, 3)) (e1 : (pc : Int) + off = (tgt : Int)) (k0 : (x ≤ z → mj_W (mj_lv d) b o rt mc ms post tgt lv st h uc us)) (k1 : (¬ x ≤ z → mj_W (mj_lv d) b o rt mc ms post (pc + 3) lv st h uc us)) : mj_W (mj_lv d) b o rt mc ms post pc lv (.inl z :: .inl x :: st) h uc us :=
  fun P hc => (show mr_icmp_le b o rt mc ms P from hc.1 28) pc lv st h uc us x z off tgt e0 e1 (fun g => k0 g P hc) (fun g => k1 g P hc)
theorem mj_if_eq {x : Int32} {off : Int} {tgt : Nat} (e0 : decode b pc = .ok (.ifCond .eq off, 3)) (e1 : (pc : Int) + off = (tgt : Int)) (k0 : (x = 0 → mj_W (mj_lv d) b o rt mc ms post tgt lv st h uc us)) (k1 : (¬ x = 0 → mj_W (mj_lv d) b o rt mc ms post (pc + 3) lv st h uc us)) : mj_W (mj_lv d) b o rt mc ms post pc lv (.inl x :: st) h uc us :=
  fun P hc => (show mr_if_eq b o rt mc ms P from hc.1 29) pc lv st h uc us x off tgt e0 e1 (fun g => k0 g P hc) (fun g => k1 g P hc)
theorem mj_if_ne {x : Int32} {off : Int} {tgt : Nat} (e0 : decode b pc = .ok (.ifCond .ne off, 3)) (e1 : (pc : Int) + off = (tgt : Int)) (k0 : (¬ x = 0 → mj_W (mj_lv d) b o rt mc ms post tgt lv st h uc us)) (k1 : (x = 0 → mj_W (mj_lv d) b o rt mc ms post (pc + 3) lv st h uc us)) : mj_W (mj_lv d) b o rt mc ms post pc lv (.inl x :: st) h uc us :=
  fun P hc => (show mr_if_ne b o rt mc ms P from hc.1 30) pc lv st h uc us x off tgt e0 e1 (fun g => k0 g P hc) (fun g => k1 g P hc)
theorem mj_if_lt {x : Int32} {off : Int} {tgt : Nat} (e0 : decode b pc = .ok (.ifCond .lt off, 3)) (e1 : (pc : Int) + off = (tgt : Int)) (k0 : (x < 0 → mj_W (mj_lv d) b o rt mc ms post tgt lv st h uc us)) (k1 : (¬ x < 0 → mj_W (mj_lv d) b o rt mc ms post (pc + 3) lv st h uc us)) : mj_W (mj_lv d) b o rt mc ms post pc lv (.inl x :: st) h uc us :=
  fun P hc => (show mr_if_lt b o rt mc ms P from hc.1 31) pc lv st h uc us x off tgt e0 e1 (fun g => k0 g P hc) (fun g => k1 g P hc)
theorem mj_if_ge {x : Int32} {off : Int} {tgt : Nat} (e0 : decode b pc = .ok (.ifCond .ge off, 3)) (e1 : (pc : Int) + off = (tgt : Int)) (k0 : (0 ≤ x → mj_W (mj_lv d) b o rt mc ms post tgt lv st h uc us)) (k1 : (¬ 0 ≤ x → mj_W (mj_lv d) b o rt mc ms post (pc + 3) lv st h uc us)) : mj_W (mj_lv d) b o rt mc ms post pc lv (.inl x :: st) h uc us :=
  fun P hc => (show mr_if_ge b o rt mc ms P from hc.1 32) pc lv st h uc us x off tgt e0 e1 (fun g => k0 g P hc) (fun g => k1 g P hc)
theorem mj_if_gt {x : Int32} {off : Int} {tgt : Nat} (e0 : decode b pc = .ok (.ifCond .gt off, 3)) (e1 : (pc : Int) + off = (tgt : Int)) (k0 : (0 < x → mj_W (mj_lv d) b o rt mc ms post tgt lv st h uc us)) (k1 : (¬ 0 < x → mj_W (mj_lv d) b o rt mc ms post (pc + 3) lv st h uc us)) : mj_W (mj_lv d) b o rt mc ms post pc lv (.inl x :: st) h uc us :=
  fun P hc => (show mr_if_gt b o rt mc ms P from hc.1 33) pc lv st h uc us x off tgt e0 e1 (fun g => k0 g P hc) (fun g => k1 g P hc)
theorem mj_if_le {x : Int32} {off : Int} {tgt : Nat} (e0 : decode b pc = .ok (.ifCond .le off, 3)) (e1 : (pc : Int) + off = (tgt : Int)) (k0 : (x ≤ 0 → mj_W (mj_lv d) b o rt mc ms post tgt lv st h uc us)) (k1 : (¬ x ≤ 0 → mj_W (mj_lv d) b o rt mc ms post (pc + 3) lv st h uc us)) : mj_W (mj_lv d) b o rt mc ms post pc lv (.inl x :: st) h uc us :=
  fun P hc => (show mr_if_le b o rt mc ms P from hc.1 34) pc lv st h uc us x off tgt e0 e1 (fun g => k0 g P hc) (fun g => k1 g P hc)
theorem mj_goto {off : Int} {tgt : Nat} (e0 : decode b pc = .ok (.goto off, 3)) (e1 : (pc : Int) + off = (tgt : Int)) (k0 : mj_W (mj_lv d) b o rt mc ms post tgt lv st h uc us) : mj_W (mj_lv d) b o rt mc ms post pc lv (st) h uc us :=
  fun P hc => (show mr_goto b o rt mc ms P from hc.1 35) pc lv st h uc us off tgt e0 e1 (k0 P hc)
theorem mj_iload {i : Nat} {x : Int32} (e0 : decode b pc = .ok (.iload i, 2)) (e1 : lv[i]? = some (some (.inl x))) (k0 : mj_W (mj_lv d) b o rt mc ms post (pc + 2) lv (.inl x :: st) h uc us) : mj_W (mj_lv d) b o rt mc ms post pc lv (st) h uc us :=
  fun P hc => (show mr_iload b o rt mc ms P from hc.1 36) pc lv st h uc us i x e0 e1 (k0 P hc)
theorem mj_iload_n {f : Fin 4} {i : Nat} {x : Int32} (e0 : decode b pc = .ok (.iload_n f, 1)) (e1 : (f : Nat) = i) (e2 : lv[i]? = some (some (.inl x))) (k0 : mj_W (mj_lv d) b o rt mc ms post (pc + 1) lv (.inl x :: st) h uc us) : mj_W (mj_lv d) b o rt mc ms post pc lv (st) h uc us :=
  fun P hc => (show mr_iload_n b o rt mc ms P from hc.1 37) pc lv st h uc us f i x e0 e1 e2 (k0 P hc)
theorem mj_aload {i : Nat} {x : Nat} (e0 : decode b pc = .ok (.aload i, 2)) (e1 : lv[i]? = some (some (.inr (.inl (some x))))) (k0 : mj_W (mj_lv d) b o rt mc ms post (pc + 2) lv (.inr (.inl (some x)) :: st) h uc us) : mj_W (mj_lv d) b o rt mc ms post pc lv (st) h uc us :=
  fun P hc => (show mr_aload b o rt mc ms P from hc.1 38) pc lv st h uc us i x e0 e1 (k0 P hc)
theorem mj_aload_n {f : Fin 4} {i : Nat} {x : Nat} (e0 : decode b pc = .ok (.aload_n f, 1)) (e1 : (f : Nat) = i) (e2 : lv[i]? = some (some (.inr (.inl (some x))))) (k0 : mj_W (mj_lv d) b o rt mc ms post (pc + 1) lv (.inr (.inl (some x)) :: st) h uc us) : mj_W (mj_lv d) b o rt mc ms post pc lv (st) h uc us :=
  fun P hc => (show mr_aload_n b o rt mc ms P from hc.1 39) pc lv st h uc us f i x e0 e1 e2 (k0 P hc)
theorem mj_istore {i : Nat} {x : Int32} (e0 : decode b pc = .ok (.istore i, 2)) (e1 : i < lv.length) (e2 : mj_ok lv i = true) (k0 : mj_W (mj_lv d) b o rt mc ms post (pc + 2) (lv.set i (some (.inl x))) st h uc us) : mj_W (mj_lv d) b o rt mc ms post pc lv (.inl x :: st) h uc us :=
  fun P hc => (show mr_istore b o rt mc ms P from hc.1 40) pc lv st h uc us i x e0 e1 e2 (k0 P hc)
theorem mj_istore_n {f : Fin 4} {i : Nat} {x : Int32} (e0 : decode b pc = .ok (.istore_n f, 1)) (e1 : (f : Nat) = i) (e2 : i < lv.length) (e3 : mj_ok lv i = true) (k0 : mj_W (mj_lv d) b o rt mc ms post (pc + 1) (lv.set i (some (.inl x))) st h uc us) : mj_W (mj_lv d) b o rt mc ms post pc lv (.inl x :: st) h uc us :=
  fun P hc => (show mr_istore_n b o rt mc ms P from hc.1 41) pc lv st h uc us f i x e0 e1 e2 e3 (k0 P hc)
theorem mj_astore {i : Nat} {x : Nat} (e0 : decode b pc = .ok (.astore i, 2)) (e1 : i < lv.length) (e2 : mj_ok lv i = true) (k0 : mj_W (mj_lv d) b o rt mc ms post (pc + 2) (lv.set i (some (.inr (.inl (some x))))) st h uc us) : mj_W (mj_lv d) b o rt mc ms post pc lv (.inr (.inl (some x)) :: st) h uc us :=
  fun P hc => (show mr_astore b o rt mc ms P from hc.1 42) pc lv st h uc us i x e0 e1 e2 (k0 P hc)
theorem mj_astore_n {f : Fin 4} {i : Nat} {x : Nat} (e0 : decode b pc = .ok (.astore_n f, 1)) (e1 : (f : Nat) = i) (e2 : i < lv.length) (e3 : mj_ok lv i = true) (k0 : mj_W (mj_lv d) b o rt mc ms post (pc + 1) (lv.set i (some (.inr (.inl (some x))))) st h uc us) : mj_W (mj_lv d) b o rt mc ms post pc lv (.inr (.inl (some x)) :: st) h uc us :=
  fun P hc => (show mr_astore_n b o rt mc ms P from hc.1 43) pc lv st h uc us f i x e0 e1 e2 e3 (k0 P hc)
theorem mj_iinc {i : Nat} {k : Int} {x v : Int32} (e0 : decode b pc = .ok (.iinc i k, 3)) (e1 : lv[i]? = some (some (.inl x))) (e2 : x + Int32.ofInt k = v) (e3 : mj_ok lv i = true) (k0 : mj_W (mj_lv d) b o rt mc ms post (pc + 3) (lv.set i (some (.inl v))) st h uc us) : mj_W (mj_lv d) b o rt mc ms post pc lv (st) h uc us :=
  fun P hc => (show mr_iinc b o rt mc ms P from hc.1 44) pc lv st h uc us i k x v e0 e1 e2 e3 (k0 P hc)
theorem mj_lload_n {f : Fin 4} {i : Nat} {x : Int64} (e0 : decode b pc = .ok (.lload_n f, 1)) (e1 : (f : Nat) = i) (e2 : lv[i]? = some (some (.inr (.inr x)))) (k0 : mj_W (mj_lv d) b o rt mc ms post (pc + 1) lv (.inr (.inr x) :: st) h uc us) : mj_W (mj_lv d) b o rt mc ms post pc lv (st) h uc us :=
  fun P hc => (show mr_lload_n b o rt mc ms P from hc.1 45) pc lv st h uc us f i x e0 e1 e2 (k0 P hc)
theorem mj_lstore_n {f : Fin 4} {i : Nat} {x : Int64} (e0 : decode b pc = .ok (.lstore_n f, 1)) (e1 : (f : Nat) = i) (e2 : i + 1 < lv.length) (e3 : mj_ok lv i = true) (k0 : mj_W (mj_lv d) b o rt mc ms post (pc + 1) ((lv.set i (some (.inr (.inr x)))).set (i + 1) none) st h uc us) : mj_W (mj_lv d) b o rt mc ms post pc lv (.inr (.inr x) :: st) h uc us :=
  fun P hc => (show mr_lstore_n b o rt mc ms P from hc.1 46) pc lv st h uc us f i x e0 e1 e2 e3 (k0 P hc)
theorem mj_ldc2 {i : Nat} {v : Int64} (e0 : decode b pc = .ok (.ldc2_w i, 3)) (e1 : pg_ldl o i = some v) (k0 : mj_W (mj_lv d) b o rt mc ms post (pc + 3) lv (.inr (.inr v) :: st) h uc us) : mj_W (mj_lv d) b o rt mc ms post pc lv (st) h uc us :=
  fun P hc => (show mr_ldc2 b o rt mc ms P from hc.1 47) pc lv st h uc us i v e0 e1 (k0 P hc)
theorem mj_ldc {i : Nat} {v : Int32} (e0 : decode b pc = .ok (.ldc i, 2)) (e1 : pg_ldc o i = some v) (k0 : mj_W (mj_lv d) b o rt mc ms post (pc + 2) lv (.inl v :: st) h uc us) : mj_W (mj_lv d) b o rt mc ms post pc lv (st) h uc us :=
  fun P hc => (show mr_ldc b o rt mc ms P from hc.1 48) pc lv st h uc us i v e0 e1 (k0 P hc)
theorem mj_getI {i ci k c : Nat} (e0 : decode b pc = .ok (.getfield i, 3)) (e1 : pg_fld o i = some (ci, k)) (e2 : pg_fr ci k = false) (e3 : (c < h.1 ∧ h.2.1 c = (0, ci))) (k0 : mj_W (mj_lv d) b o rt mc ms post (pc + 3) lv (.inl (h.2.2.1 c k) :: st) h uc us) : mj_W (mj_lv d) b o rt mc ms post pc lv (.inr (.inl (some c)) :: st) h uc us :=
  fun P hc => (show mr_getI b o rt mc ms P from hc.1 49) pc lv st h uc us i ci k c e0 e1 e2 e3 (k0 P hc)
theorem mj_getR {i ci k c : Nat} {r : Option Nat} (e0 : decode b pc = .ok (.getfield i, 3)) (e1 : pg_fld o i = some (ci, k)) (e2 : pg_fr ci k = true) (e3 : (c < h.1 ∧ h.2.1 c = (0, ci))) (e4 : h.2.2.2 c k = r) (k0 : mj_W (mj_lv d) b o rt mc ms post (pc + 3) lv (.inr (.inl r) :: st) h uc us) : mj_W (mj_lv d) b o rt mc ms post pc lv (.inr (.inl (some c)) :: st) h uc us :=
  fun P hc => (show mr_getR b o rt mc ms P from hc.1 50) pc lv st h uc us i ci k c r e0 e1 e2 e3 e4 (k0 P hc)
theorem mj_putI {i ci k c : Nat} {x : Int32} (e0 : decode b pc = .ok (.putfield i, 3)) (e1 : pg_fld o i = some (ci, k)) (e2 : pg_fr ci k = false) (e3 : pg_fin ci k = false) (e4 : (narrow (pg_ty ci k) (.int x) = .int x ∧ fits (pg_ty ci k) (.int x) = true)) (e5 : (c < h.1 ∧ h.2.1 c = (0, ci))) (k0 : mj_W (mj_lv d) b o rt mc ms post (pc + 3) lv st (h.1, h.2.1, mj_u2 h.2.2.1 c k x, h.2.2.2) uc us) : mj_W (mj_lv d) b o rt mc ms post pc lv (.inl x :: .inr (.inl (some c)) :: st) h uc us :=
  fun P hc => (show mr_putI b o rt mc ms P from hc.1 51) pc lv st h uc us i ci k c x e0 e1 e2 e3 e4 e5 (k0 P hc)
theorem mj_putF {i ci k c x : Nat} (e0 : rt = 9) (e1 : decode b pc = .ok (.putfield i, 3)) (e2 : pg_fld o i = some (ci, k)) (e3 : pg_fr ci k = true) (e4 : pg_fin ci k = true) (e5 : o = ci) (e6 : (c < h.1 ∧ h.2.1 c = (0, ci))) (k0 : mj_W (mj_lv d) b o rt mc ms post (pc + 3) lv st (h.1, h.2.1, h.2.2.1, mj_u2 h.2.2.2 c k (some x)) uc us) : mj_W (mj_lv d) b o rt mc ms post pc lv (.inr (.inl (some x)) :: .inr (.inl (some c)) :: st) h uc us :=
  fun P hc => (show mr_putF b o rt mc ms P from hc.1 52) pc lv st h uc us i ci k c x e0 e1 e2 e3 e4 e5 e6 (k0 P hc)
theorem mj_iald {c n : Nat} {i : Int32} (e0 : decode b pc = .ok (.iaload, 1)) (e1 : (c < h.1 ∧ h.2.1 c = (1, n))) (e2 : vp_in i n) (k0 : mj_W (mj_lv d) b o rt mc ms post (pc + 1) lv (.inl (h.2.2.1 c i.toNatClampNeg) :: st) h uc us) : mj_W (mj_lv d) b o rt mc ms post pc lv (.inl i :: .inr (.inl (some c)) :: st) h uc us :=
  fun P hc => (show mr_iald b o rt mc ms P from hc.1 53) pc lv st h uc us c n i e0 e1 e2 (k0 P hc)
theorem mj_zald {c n : Nat} {i : Int32} (e0 : decode b pc = .ok (.baload, 1)) (e1 : (c < h.1 ∧ h.2.1 c = (2, n))) (e2 : vp_in i n) (k0 : mj_W (mj_lv d) b o rt mc ms post (pc + 1) lv (.inl (h.2.2.1 c i.toNatClampNeg) :: st) h uc us) : mj_W (mj_lv d) b o rt mc ms post pc lv (.inl i :: .inr (.inl (some c)) :: st) h uc us :=
  fun P hc => (show mr_zald b o rt mc ms P from hc.1 54) pc lv st h uc us c n i e0 e1 e2 (k0 P hc)
theorem mj_iast {c n : Nat} {i x : Int32} (e0 : decode b pc = .ok (.iastore, 1)) (e1 : (c < h.1 ∧ h.2.1 c = (1, n))) (e2 : vp_in i n) (k0 : mj_W (mj_lv d) b o rt mc ms post (pc + 1) lv st (h.1, h.2.1, mj_u2 h.2.2.1 c i.toNatClampNeg x, h.2.2.2) uc us) : mj_W (mj_lv d) b o rt mc ms post pc lv (.inl x :: .inl i :: .inr (.inl (some c)) :: st) h uc us :=
  fun P hc => (show mr_iast b o rt mc ms P from hc.1 55) pc lv st h uc us c n i x e0 e1 e2 (k0 P hc)
theorem mj_zast {c n : Nat} {i x : Int32} (e0 : decode b pc = .ok (.bastore, 1)) (e1 : (c < h.1 ∧ h.2.1 c = (2, n))) (e2 : vp_in i n) (e3 : narrow .boolean (.int x) = .int x) (k0 : mj_W (mj_lv d) b o rt mc ms post (pc + 1) lv st (h.1, h.2.1, mj_u2 h.2.2.1 c i.toNatClampNeg x, h.2.2.2) uc us) : mj_W (mj_lv d) b o rt mc ms post pc lv (.inl x :: .inl i :: .inr (.inl (some c)) :: st) h uc us :=
  fun P hc => (show mr_zast b o rt mc ms P from hc.1 56) pc lv st h uc us c n i x e0 e1 e2 e3 (k0 P hc)
theorem mj_aald {c n : Nat} {i : Int32} {r : Option Nat} (e0 : decode b pc = .ok (.aaload, 1)) (e1 : (c < h.1 ∧ h.2.1 c = (3, n))) (e2 : vp_in i n) (e3 : h.2.2.2 c i.toNatClampNeg = r) (k0 : mj_W (mj_lv d) b o rt mc ms post (pc + 1) lv (.inr (.inl r) :: st) h uc us) : mj_W (mj_lv d) b o rt mc ms post pc lv (.inl i :: .inr (.inl (some c)) :: st) h uc us :=
  fun P hc => (show mr_aald b o rt mc ms P from hc.1 57) pc lv st h uc us c n i r e0 e1 e2 e3 (k0 P hc)
theorem mj_alen {c t n : Nat} (e0 : decode b pc = .ok (.arraylength, 1)) (e1 : (c < h.1 ∧ h.2.1 c = (t, n))) (e2 : (0 < t ∧ t < 4)) (k0 : mj_W (mj_lv d) b o rt mc ms post (pc + 1) lv (.inl (Int32.ofNat n) :: st) h uc us) : mj_W (mj_lv d) b o rt mc ms post pc lv (.inr (.inl (some c)) :: st) h uc us :=
  fun P hc => (show mr_alen b o rt mc ms P from hc.1 58) pc lv st h uc us c t n e0 e1 e2 (k0 P hc)
theorem mj_new {i ci : Nat} (e0 : decode b pc = .ok (.new i, 3)) (e1 : pg_new o i = some ci) (e2 : uc + 1 ≤ mc) (e3 : us + pg_nf ci ≤ ms) (k0 : mj_W (mj_lv d) b o rt mc ms post (pc + 3) lv (.inr (.inl (some h.1)) :: st) (h.1 + 1, va_up h.2.1 h.1 (0, ci), va_up h.2.2.1 h.1 (fun _ => 0), va_up h.2.2.2 h.1 (fun _ => none)) (uc + 1) (us + pg_nf ci)) : mj_W (mj_lv d) b o rt mc ms post pc lv (st) h uc us :=
  fun P hc => (show mr_new b o rt mc ms P from hc.1 59) pc lv st h uc us i ci e0 e1 e2 e3 (k0 P hc)
theorem mj_newi {x : Int32} {n : Nat} (e0 : decode b pc = .ok (.newarray .int, 2)) (e1 : ¬ x < 0) (e2 : x.toNatClampNeg = n) (e3 : n ≤ 100000) (e4 : uc + 1 ≤ mc) (e5 : us + n ≤ ms) (k0 : mj_W (mj_lv d) b o rt mc ms post (pc + 2) lv (.inr (.inl (some h.1)) :: st) (h.1 + 1, va_up h.2.1 h.1 (1, n), va_up h.2.2.1 h.1 (fun _ => 0), va_up h.2.2.2 h.1 (fun _ => none)) (uc + 1) (us + n)) : mj_W (mj_lv d) b o rt mc ms post pc lv (.inl x :: st) h uc us :=
  fun P hc => (show mr_newi b o rt mc ms P from hc.1 60) pc lv st h uc us x n e0 e1 e2 e3 e4 e5 (k0 P hc)
theorem mj_newz {x : Int32} {n : Nat} (e0 : decode b pc = .ok (.newarray .boolean, 2)) (e1 : ¬ x < 0) (e2 : x.toNatClampNeg = n) (e3 : n ≤ 100000) (e4 : uc + 1 ≤ mc) (e5 : us + n ≤ ms) (k0 : mj_W (mj_lv d) b o rt mc ms post (pc + 2) lv (.inr (.inl (some h.1)) :: st) (h.1 + 1, va_up h.2.1 h.1 (2, n), va_up h.2.2.1 h.1 (fun _ => 0), va_up h.2.2.2 h.1 (fun _ => none)) (uc + 1) (us + n)) : mj_W (mj_lv d) b o rt mc ms post pc lv (.inl x :: st) h uc us :=
  fun P hc => (show mr_newz b o rt mc ms P from hc.1 61) pc lv st h uc us x n e0 e1 e2 e3 e4 e5 (k0 P hc)
theorem mj_newm {i : Nat} {x z : Int32} {n k : Nat} (e0 : decode b pc = .ok (.multianewarray i 2, 4)) (e1 : pg_gr o i = some 1) (e2 : ¬ x < 0) (e3 : ¬ z < 0) (e4 : x.toNatClampNeg = n) (e5 : z.toNatClampNeg = k) (e6 : n ≤ 100000) (e7 : k ≤ 100000) (e8 : uc + (1 + n) ≤ mc) (e9 : us + (n + n * k) ≤ ms) (k0 : mj_W (mj_lv d) b o rt mc ms post (pc + 4) lv (.inr (.inl (some h.1)) :: st) (h.1 + 1 + n, (fun c => if c = h.1 then (3, n) else if h.1 < c ∧ c ≤ h.1 + n then (1, k) else h.2.1 c), (fun c => if h.1 ≤ c ∧ c ≤ h.1 + n then (fun _ => 0) else h.2.2.1 c), (fun c => if c = h.1 then (fun j => if j < n then some (h.1 + 1 + j) else none) else h.2.2.2 c)) (uc + 1 + n) (us + n + n * k)) : mj_W (mj_lv d) b o rt mc ms post pc lv (.inl z :: .inl x :: st) h uc us :=
  fun P hc => (show mr_newm b o rt mc ms P from hc.1 62) pc lv st h uc us i x z n k e0 e1 e2 e3 e4 e5 e6 e7 e8 e9 (k0 P hc)
theorem mj_objI {i c : Nat} (e0 : decode b pc = .ok (.invokespecial i, 3)) (e1 : pg_sp o i = some 1) (e2 : Nat.ble (mj_ct st) 8 = true) (k0 : mj_W (mj_lv d) b o rt mc ms post (pc + 3) lv st h uc us) : mj_W (mj_lv d) b o rt mc ms post pc lv (.inr (.inl (some c)) :: st) h uc us :=
  fun P hc => (show mr_objI b o rt mc ms P from hc.1 63) pc lv st h uc us i c e0 e1 e2 (k0 P hc)
theorem mj_max {i : Nat} {x z : Int32} (e0 : decode b pc = .ok (.invokestatic i, 3)) (e1 : pg_sp o i = some 2) (e2 : Nat.ble (mj_ct st) 8 = true) (k0 : mj_W (mj_lv d) b o rt mc ms post (pc + 3) lv (.inl (if x < z then z else x) :: st) h uc us) : mj_W (mj_lv d) b o rt mc ms post pc lv (.inl z :: .inl x :: st) h uc us :=
  fun P hc => (show mr_max b o rt mc ms P from hc.1 64) pc lv st h uc us i x z e0 e1 e2 (k0 P hc)
theorem mj_min {i : Nat} {x z : Int32} (e0 : decode b pc = .ok (.invokestatic i, 3)) (e1 : pg_sp o i = some 3) (e2 : Nat.ble (mj_ct st) 8 = true) (k0 : mj_W (mj_lv d) b o rt mc ms post (pc + 3) lv (.inl (if z < x then z else x) :: st) h uc us) : mj_W (mj_lv d) b o rt mc ms post pc lv (.inl z :: .inl x :: st) h uc us :=
  fun P hc => (show mr_min b o rt mc ms P from hc.1 65) pc lv st h uc us i x z e0 e1 e2 (k0 P hc)
theorem mj_copy {i a0 a1 n0 n1 : Nat} {sp dp n : Int32} (e0 : decode b pc = .ok (.invokestatic i, 3)) (e1 : pg_sp o i = some 4) (e2 : (a0 < h.1 ∧ h.2.1 a0 = (1, n0))) (e3 : (a1 < h.1 ∧ h.2.1 a1 = (1, n1))) (e4 : ¬ sp < 0) (e5 : ¬ dp < 0) (e6 : ¬ n < 0) (e7 : sp.toNatClampNeg + n.toNatClampNeg ≤ n0) (e8 : dp.toNatClampNeg + n.toNatClampNeg ≤ n1) (e9 : Nat.ble (mj_ct st) 8 = true) (k0 : mj_W (mj_lv d) b o rt mc ms post (pc + 3) lv st (h.1, h.2.1, va_up h.2.2.1 a1 (va_cpy (h.2.2.1 a0) (h.2.2.1 a1) sp.toNatClampNeg dp.toNatClampNeg n.toNatClampNeg), h.2.2.2) uc us) : mj_W (mj_lv d) b o rt mc ms post pc lv (.inl n :: .inl dp :: .inr (.inl (some a1)) :: .inl sp :: .inr (.inl (some a0)) :: st) h uc us :=
  fun P hc => (show mr_copy b o rt mc ms P from hc.1 66) pc lv st h uc us i a0 a1 n0 n1 sp dp n e0 e1 e2 e3 e4 e5 e6 e7 e8 e9 (k0 P hc)
theorem mj_reti {x : Int32} (e0 : decode b pc = .ok (.ireturn, 1)) (e1 : (rt = 1 ∨ (rt = 2 ∧ narrow .boolean (.int x) = .int x))) (e2 : post (some (.inl x)) h) : mj_W (mj_lv d) b o rt mc ms post pc lv ([.inl x]) h uc us :=
  fun P hc => hc.2.2.1 pc lv h uc us x e0 e1 e2
theorem mj_retv  (e0 : decode b pc = .ok (.return_, 1)) (e1 : (rt = 0 ∨ rt = 9)) (e2 : post none h) : mj_W (mj_lv d) b o rt mc ms post pc lv ([]) h uc us :=
  fun P hc => hc.2.2.2 pc lv h uc us  e0 e1 e2
theorem mj_callS {i z : Nat} (as : List mj_V) (e0 : decode b pc = .ok (.invokestatic i, 3)) (e1 : pg_mth o i = some z) (e2 : pg_kd z = 0) (e3 : (as.length = pg_na z ∧ mj_ct as = pg_na z)) (e4 : Nat.ble (mj_ct st) 8 = true) (e5 : uc + pg_mc z ≤ mc) (e6 : us + pg_ms z ≤ ms) (k : mj_lv d z as h (fun r h2 => mj_W (mj_lv d) b o rt mc ms post (pc + 3) lv (r.toList ++ st) h2 (uc + pg_mc z) (us + pg_ms z))) : mj_W (mj_lv d) b o rt mc ms post pc lv (as.reverse ++ st) h uc us :=
  fun P hc => hc.2.1.1 pc lv st h uc us i z as e0 e1 e2 e3 e4 e5 e6 (mj_lv_mono d z as h _ _ (fun _ _ hw => hw P hc) k)
theorem mj_callV {i z : Nat} (as : List mj_V) (e0 : decode b pc = .ok (.invokevirtual i, 3)) (e1 : pg_mth o i = some z) (e2 : pg_kd z = 1) (e3 : (as.length = pg_na z ∧ mj_ct as = pg_na z)) (e4 : Nat.ble (mj_ct st) 8 = true) (e5 : uc + pg_mc z ≤ mc) (e6 : us + pg_ms z ≤ ms) (e7 : (∃ c, as.head? = some (.inr (.inl (some c))) ∧ c < h.1 ∧ h.2.1 c = (0, pg_own z))) (k : mj_lv d z as h (fun r h2 => mj_W (mj_lv d) b o rt mc ms post (pc + 3) lv (r.toList ++ st) h2 (uc + pg_mc z) (us + pg_ms z))) : mj_W (mj_lv d) b o rt mc ms post pc lv (as.reverse ++ st) h uc us :=
  fun P hc => hc.2.1.2.1 pc lv st h uc us i z as e0 e1 e2 e3 e4 e5 e6 e7 (mj_lv_mono d z as h _ _ (fun _ _ hw => hw P hc) k)
theorem mj_callI {i z : Nat} (as : List mj_V) (e0 : decode b pc = .ok (.invokespecial i, 3)) (e1 : pg_mth o i = some z) (e2 : pg_kd z = 2) (e3 : (as.length = pg_na z ∧ mj_ct as = pg_na z)) (e4 : Nat.ble (mj_ct st) 8 = true) (e5 : uc + pg_mc z ≤ mc) (e6 : us + pg_ms z ≤ ms) (e7 : (∃ c, as.head? = some (.inr (.inl (some c))))) (k : mj_lv d z as h (fun r h2 => mj_W (mj_lv d) b o rt mc ms post (pc + 3) lv (r.toList ++ st) h2 (uc + pg_mc z) (us + pg_ms z))) : mj_W (mj_lv d) b o rt mc ms post pc lv (as.reverse ++ st) h uc us :=
  fun P hc => hc.2.1.2.2 pc lv st h uc us i z as e0 e1 e2 e3 e4 e5 e6 e7 (mj_lv_mono d z as h _ _ (fun _ _ hw => hw P hc) k)
end mj_rows
end
section
def mj_v (B : Nat) : mj_V → Value
  | .inl i => .int i
  | .inr (.inl r) => va_rf (r.map (B + ·))
  | .inr (.inr w) => .long w
theorem mj_cat {B : Nat} {v : mj_V} (h : mj_ca v = 1) : (mj_v B v).category = 1 := by
  rcases v with i | (_ | r) | w
  · rfl
  · rfl
  · rfl
  · simp [mj_ca] at h
theorem mj_cats (B : Nat) : ∀ st : List mj_V, ((st.map (mj_v B)).map fun v => v.category).sum = mj_ct st
  | [] => rfl
  | v :: st => by
    have ih := mj_cats B st
    have e : (mj_v B v).category = mj_ca v := by rcases v with i | (_ | r) | w <;> rfl
    show ((mj_v B v).category :: ((st.map (mj_v B)).map fun v => v.category)).sum = mj_ca v + mj_ct st
    rw [List.sum_cons, ih, e]
def mj_pr (B : Nat) (lv : mj_L) : List (Nat × Value) := lv.zipIdx.filterMap (fun q => q.1.map (fun v => (q.2, mj_v B v)))
theorem mj_pr_mem {B : Nat} {lv : mj_L} {j : Nat} {w : Value} : (j, w) ∈ mj_pr B lv ↔ ∃ v, lv[j]? = some (some v) ∧ w = mj_v B v := by
  unfold mj_pr
  rw [List.mem_filterMap]
  constructor
  · rintro ⟨⟨ov, k⟩, h1, h2⟩
    rw [List.mk_mem_zipIdx_iff_getElem?] at h1
    cases ov with
    | none => simp at h2
    | some v =>
      simp at h2
      obtain ⟨rfl, rfl⟩ := h2
      exact ⟨v, h1, rfl⟩
  · rintro ⟨v, h1, rfl⟩
    exact ⟨(some v, j), List.mk_mem_zipIdx_iff_getElem?.mpr h1, rfl⟩
def mj_LS (B : Nat) (ls : Array Slot) (nL : Nat) (lv : mj_L) : Prop := lv.length = nL ∧ lv_has ls nL (mj_pr B lv)
theorem mj_LS.get {B : Nat} {ls : Array Slot} {nL : Nat} {lv : mj_L} (h : mj_LS B ls nL lv) {i : Nat} {v : mj_V} (e : lv[i]? = some (some v)) : ls[i]? = some (.val (mj_v B v)) := h.2.2.2 (i, mj_v B v) (mj_pr_mem.mpr ⟨v, e, rfl⟩)
theorem mj_ok_cat {B : Nat} {lv : mj_L} {j : Nat} {v : mj_V} (h : mj_ok lv (j + 1) = true) (e : lv[j]? = some (some v)) : (mj_v B v).category = 1 := by
  rcases v with i | (_ | r) | w
  · rfl
  · rfl
  · rfl
  · simp [mj_ok, e] at h
theorem mj_LS.after1 {B : Nat} {ls' : Array Slot} {nL : Nat} {lv : mj_L} {i : Nat} {v : mj_V} (hl : lv.length = nL) (hok : mj_ok lv i = true) (h : lv_has ls' nL ((i, mj_v B v) :: (mj_pr B lv).filter (fun q => !(q.1 == i) && !(q.1 + 1 == i && q.2.category == 2)))) : mj_LS B ls' nL (lv.set i (some v)) := by
  refine ⟨by simp [hl], h.1, h.2.1, ?_⟩
  rintro ⟨j, w⟩ hq
  obtain ⟨v', e, rfl⟩ := mj_pr_mem.mp hq
  by_cases hj : j = i
  · subst hj
    have hlt : j < lv.length := by
      have := (List.getElem?_eq_some_iff.mp e).1
      simpa using this
    rw [List.getElem?_set_self hlt] at e
    cases e
    exact h.2.2 _ List.mem_cons_self
  · rw [List.getElem?_set_ne (Ne.symm hj)] at e
    refine h.2.2 _ (List.mem_cons_of_mem _ (List.mem_filter.mpr ⟨mj_pr_mem.mpr ⟨v', e, rfl⟩, ?_⟩))
    by_cases h2 : j + 1 = i
    · subst h2
      have := mj_ok_cat (B := B) hok e
      simp [this]
    · simp [hj, h2]
theorem mj_LS.after2 {B : Nat} {ls' : Array Slot} {nL : Nat} {lv : mj_L} {i : Nat} {v : mj_V} (hl : lv.length = nL) (hok : mj_ok lv i = true) (h : lv_has ls' nL ((i, mj_v B v) :: (mj_pr B lv).filter (fun q => !(q.1 == i) && (!(q.1 == i + 1) && !(q.1 + 1 == i && q.2.category == 2))))) : mj_LS B ls' nL ((lv.set i (some v)).set (i + 1) none) := by
  refine ⟨by simp [hl], h.1, h.2.1, ?_⟩
  rintro ⟨j, w⟩ hq
  obtain ⟨v', e, rfl⟩ := mj_pr_mem.mp hq
  have hj1 : j ≠ i + 1 := by
    intro q
    subst q
    have hlt := (List.getElem?_eq_some_iff.mp e).1
    rw [List.getElem?_set_self (by simpa using hlt)] at e
    cases e
  rw [List.getElem?_set_ne (Ne.symm hj1)] at e
  by_cases hj : j = i
  · subst hj
    have hlt : j < lv.length := by
      have := (List.getElem?_eq_some_iff.mp e).1
      simpa using this
    rw [List.getElem?_set_self hlt] at e
    cases e
    exact h.2.2 _ List.mem_cons_self
  · rw [List.getElem?_set_ne (Ne.symm hj)] at e
    refine h.2.2 _ (List.mem_cons_of_mem _ (List.mem_filter.mpr ⟨mj_pr_mem.mpr ⟨v', e, rfl⟩, ?_⟩))
    by_cases h2 : j + 1 = i
    · subst h2
      have := mj_ok_cat (B := B) hok e
      simp [this]
      omega
    · simp [hj, h2, hj1]
/-- the fields of an object of kind ci -/
def mj_fs (B : Nat) (h : mj_H) (ci a : Nat) : List Value := (List.range (pg_nf ci)).map (fun k => if pg_fr ci k = true then va_rf ((h.2.2.2 a k).map (B + ·)) else .int (h.2.2.1 a k))
def mj_E (cA : Nat → ClassId) (B : Nat) (h : mj_H) (a : Nat) : va_E :=
  if (h.2.1 a).1 = 0 then .inr ((h.2.1 a).2, mj_fs B h (h.2.1 a).2 a) else if (h.2.1 a).1 = 3 then .inl (cA 3, (h.2.1 a).2, .inr (.inr (.inr (.inr (fun k => (h.2.2.2 a k).map (B + ·)))))) else .inl (cA (h.2.1 a).1, (h.2.1 a).2, .inl (h.2.2.1 a))
/-- the heap H holds the cells h from B on -/
def mj_S0 (D : va_G) (cA : Nat → ClassId) (B : Nat) (h : mj_H) (H : Heap) : Prop := H.size = B + h.1 ∧ ∀ a, a < h.1 → va_at D pg_cl (B + a, mj_E cA B h a) H
def mj_S (D : va_G) (cA : Nat → ClassId) (B : Nat) (H0 : Heap) (h : mj_H) (H : Heap) (locs : List Loc) : Prop := mj_S0 D cA B h H ∧ (∀ q, q < B → H[q]? = H0[q]?) ∧ ∀ x ∈ locs, B ≤ x.base
abbrev mj_ty (cA : Nat → ClassId) : List (ClassId × FieldType) := [(cA 1, .int), (cA 2, .boolean), (cA 3, .array .int)]
section mj_heap
variable {D : va_G} {cA : Nat → ClassId} {B : Nat} {H0 H H1 : Heap} {h h2 : mj_H} {locs L : List Loc} {a ci n : Nat}
theorem mj_S.obj (hS : mj_S D cA B H0 h H locs) (ha : a < h.1 ∧ h.2.1 a = (0, ci)) : va_at D pg_cl (B + a, .inr (ci, mj_fs B h ci a)) H := by
  have := hS.1.2 a ha.1
  rw [mj_E, ha.2] at this
  simpa using this
theorem mj_S.ints (hS : mj_S D cA B H0 h H locs) (ha : a < h.1 ∧ h.2.1 a = (1, n)) : va_at D pg_cl (B + a, .inl (cA 1, n, .inl (h.2.2.1 a))) H := by
  have := hS.1.2 a ha.1
  rw [mj_E, ha.2] at this
  simpa using this
theorem mj_S.bools (hS : mj_S D cA B H0 h H locs) (ha : a < h.1 ∧ h.2.1 a = (2, n)) : va_at D pg_cl (B + a, .inl (cA 2, n, .inl (h.2.2.1 a))) H := by
  have := hS.1.2 a ha.1
  rw [mj_E, ha.2] at this
  simpa using this
theorem mj_S.rows (hS : mj_S D cA B H0 h H locs) (ha : a < h.1 ∧ h.2.1 a = (3, n)) : va_at D pg_cl (B + a, .inl (cA 3, n, .inr (.inr (.inr (.inr (fun k => (h.2.2.2 a k).map (B + ·))))))) H := by
  have := hS.1.2 a ha.1
  rw [mj_E, ha.2] at this
  simpa using this
theorem mj_one {cl : List vw_C} {q : Nat × va_E} (h : va_at D cl q H) : va_P D cl [q] H := fun k x hx => by
  have hz : k < 1 := (List.getElem?_eq_some_iff.mp hx).1
  rw [show k = 0 by omega] at hx
  cases hx
  exact h
theorem mj_S.put (hS : mj_S D cA B H0 h H locs) (hn : h2.1 = h.1) (ha : a < h.1) (z : H1.size = H.size) (oq : ∀ q, q ≠ B + a → H1[q]? = H[q]?) (he : va_at D pg_cl (B + a, mj_E cA B h2 a) H1) (ho : ∀ x, x ≠ a → mj_E cA B h2 x = mj_E cA B h x) (hL : ∀ x ∈ L, B ≤ x.base) : mj_S D cA B H0 h2 H1 (locs ++ L) := by
  refine ⟨⟨by rw [z, hn]; exact hS.1.1, fun x hx => ?_⟩, fun q hq => ?_, fun x hx => ?_⟩
  · by_cases e : x = a
    · subst e
      exact he
    · rw [ho x e]
      exact (hS.1.2 x (by omega)).kept (oq _ (by show B + x ≠ B + a; omega))
  · rw [oq q (by omega)]
    exact hS.2.1 q hq
  · rcases List.mem_append.mp hx with g | g
    · exact hS.2.2 x g
    · exact hL x g
theorem mj_S.grow (hS : mj_S D cA B H0 h H locs) (hn : h2.1 = h.1 + 1) (z : H1.size = H.size + 1) (o1 : ∀ q, q < H.size → H1[q]? = H[q]?) (he : va_at D pg_cl (B + h.1, mj_E cA B h2 h.1) H1) (ho : ∀ x, x < h.1 → mj_E cA B h2 x = mj_E cA B h x) : mj_S D cA B H0 h2 H1 locs := by
  have hz := hS.1.1
  refine ⟨⟨by rw [z, hn, hz]; omega, fun x hx => ?_⟩, fun q hq => ?_, hS.2.2⟩
  · by_cases e : x = h.1
    · subst e
      exact he
    · have hx' : x < h.1 := by omega
      rw [ho x hx']
      exact (hS.1.2 x hx').kept (o1 _ (by show B + x < H.size; omega))
  · rw [o1 q (by omega)]
    exact hS.2.1 q hq
theorem mj_E_off {σ : Nat → Nat → Int32} {ρ : Nat → Nat → Option Nat} {x : Nat} (h1 : σ x = h.2.2.1 x) (h3 : ρ x = h.2.2.2 x) : mj_E cA B (h.1, h.2.1, σ, ρ) x = mj_E cA B h x := by
  unfold mj_E mj_fs
  dsimp only
  rw [h1, h3]
end mj_heap
/-- words that are no plain ones: the nest's links, the arrays over int[] -/
def mj_Ex (s : State) : Prop := (∀ (own : String) (i : Nat) (y : MethodName) (host : String), Cond.methodLinkNest own i y host ∈ lw_tbl → va_Nw (.methodLinkNest own i y host) s) ∧ va_Nw (.arrayOver (.array .int)) s
/-- what stands while a method runs -/
def mj_Cx (D : va_G) (cA : Nat → ClassId) (B : Nat) (p : Program) (R : Room) (s : State) (m : MethodId) (args : Array Value) (meth : Method) (c : Code) (b : ByteArray) (o rt nL mc ms d : Nat) : Prop :=
  p.tables.exec = Jvm.exec ∧ c.code = b ∧ c.maxLocals = nL ∧ s.vm.findClass (pg_cn o) = some m.cls ∧ (∀ w ∈ pg_tb, w.before args s = true) ∧ va_K D pg_cl (mj_ty cA) s ∧ B ≤ s.heap.size ∧ (d + 1 ≤ R.frames ∧ 40 * (d + 1) ≤ R.locals ∧ mc ≤ R.cells ∧ ms ≤ R.slots) ∧ mj_Ex s ∧ (rt = 9 → meth.name = "<init>")
def mj_X (p : Program) (l : Launch) (e : Env) (R : Room) (s : State) (m : MethodId) (args : Array Value) (below : List Frame) (meth : Method) (c : Code) (Q : State → Prop) (D : va_G) (cA : Nat → ClassId) (B nL mc ms : Nat) : mj_P := fun pc lv st h uc us => uc ≤ mc → us ≤ ms → ∀ (H : Heap) (locs : List Loc) (ls : Array Slot), mj_S D cA B s.heap h H locs → mj_LS B ls nL lv → W p l e R s m args below meth c H locs uc us Q (F0 m pc ls (st.map (mj_v B)))
section mj_sim
variable {p : Program} {l : Launch} {e : Env} {R : Room} {s : State} {m : MethodId} {args : Array Value} {below : List Frame} {meth : Method} {c : Code} {Q : State → Prop} {D : va_G} {cA : Nat → ClassId} {B nL mc ms d : Nat} {b : ByteArray} {o rt : Nat}
theorem ms_iconst (C : mj_Cx D cA B p R s m args meth c b o rt nL mc ms d) : mr_iconst b o rt mc ms (mj_X p l e R s m args below meth c Q D cA B nL mc ms) := by
  obtain ⟨hx, hb, -⟩ := C
  intro pc lv st h uc us i v hd hv kk u1 u2 H locs ls hS hL
  have k := kk u1 u2 H locs ls hS hL
  exact lv_iconst hx hb hd hv k
theorem ms_bipush (C : mj_Cx D cA B p R s m args meth c b o rt nL mc ms d) : mr_bipush b o rt mc ms (mj_X p l e R s m args below meth c Q D cA B nL mc ms) := by
  obtain ⟨hx, hb, -⟩ := C
  intro pc lv st h uc us i v hd hv kk u1 u2 H locs ls hS hL
  have k := kk u1 u2 H locs ls hS hL
  exact lv_bipush hx hb hd hv k
theorem ms_sipush (C : mj_Cx D cA B p R s m args meth c b o rt nL mc ms d) : mr_sipush b o rt mc ms (mj_X p l e R s m args below meth c Q D cA B nL mc ms) := by
  obtain ⟨hx, hb, -⟩ := C
  intro pc lv st h uc us i v hd hv kk u1 u2 H locs ls hS hL
  have k := kk u1 u2 H locs ls hS hL
  exact lv_sipush hx hb hd hv k
theorem ms_iadd (C : mj_Cx D cA B p R s m args meth c b o rt nL mc ms d) : mr_iadd b o rt mc ms (mj_X p l e R s m args below meth c Q D cA B nL mc ms) := by
  obtain ⟨hx, hb, -⟩ := C
  intro pc lv st h uc us x z hd  kk u1 u2 H locs ls hS hL
  have k := kk u1 u2 H locs ls hS hL
  exact lv_iadd hx hb hd k
theorem ms_isub (C : mj_Cx D cA B p R s m args meth c b o rt nL mc ms d) : mr_isub b o rt mc ms (mj_X p l e R s m args below meth c Q D cA B nL mc ms) := by
  obtain ⟨hx, hb, -⟩ := C
  intro pc lv st h uc us x z hd  kk u1 u2 H locs ls hS hL
  have k := kk u1 u2 H locs ls hS hL
  exact lv_isub hx hb hd k
theorem ms_imul (C : mj_Cx D cA B p R s m args meth c b o rt nL mc ms d) : mr_imul b o rt mc ms (mj_X p l e R s m args below meth c Q D cA B nL mc ms) := by
  obtain ⟨hx, hb, -⟩ := C
  intro pc lv st h uc us x z hd  kk u1 u2 H locs ls hS hL
  have k := kk u1 u2 H locs ls hS hL
  exact lv_imul hx hb hd k
theorem ms_iand (C : mj_Cx D cA B p R s m args meth c b o rt nL mc ms d) : mr_iand b o rt mc ms (mj_X p l e R s m args below meth c Q D cA B nL mc ms) := by
  obtain ⟨hx, hb, -⟩ := C
  intro pc lv st h uc us x z hd  kk u1 u2 H locs ls hS hL
  have k := kk u1 u2 H locs ls hS hL
  exact lv_iand hx hb hd k
theorem ms_ior (C : mj_Cx D cA B p R s m args meth c b o rt nL mc ms d) : mr_ior b o rt mc ms (mj_X p l e R s m args below meth c Q D cA B nL mc ms) := by
  obtain ⟨hx, hb, -⟩ := C
  intro pc lv st h uc us x z hd  kk u1 u2 H locs ls hS hL
  have k := kk u1 u2 H locs ls hS hL
  exact lv_ior hx hb hd k
theorem ms_ixor (C : mj_Cx D cA B p R s m args meth c b o rt nL mc ms d) : mr_ixor b o rt mc ms (mj_X p l e R s m args below meth c Q D cA B nL mc ms) := by
  obtain ⟨hx, hb, -⟩ := C
  intro pc lv st h uc us x z hd  kk u1 u2 H locs ls hS hL
  have k := kk u1 u2 H locs ls hS hL
  exact lv_ixor hx hb hd k
theorem ms_ishl (C : mj_Cx D cA B p R s m args meth c b o rt nL mc ms d) : mr_ishl b o rt mc ms (mj_X p l e R s m args below meth c Q D cA B nL mc ms) := by
  obtain ⟨hx, hb, -⟩ := C
  intro pc lv st h uc us x z hd  kk u1 u2 H locs ls hS hL
  have k := kk u1 u2 H locs ls hS hL
  exact lv_ishl hx hb hd k
theorem ms_ishr (C : mj_Cx D cA B p R s m args meth c b o rt nL mc ms d) : mr_ishr b o rt mc ms (mj_X p l e R s m args below meth c Q D cA B nL mc ms) := by
  obtain ⟨hx, hb, -⟩ := C
  intro pc lv st h uc us x z hd  kk u1 u2 H locs ls hS hL
  have k := kk u1 u2 H locs ls hS hL
  exact lv_ishr hx hb hd k
theorem ms_iushr (C : mj_Cx D cA B p R s m args meth c b o rt nL mc ms d) : mr_iushr b o rt mc ms (mj_X p l e R s m args below meth c Q D cA B nL mc ms) := by
  obtain ⟨hx, hb, -⟩ := C
  intro pc lv st h uc us x z hd  kk u1 u2 H locs ls hS hL
  have k := kk u1 u2 H locs ls hS hL
  exact lv_iushr hx hb hd rfl k
theorem ms_idiv (C : mj_Cx D cA B p R s m args meth c b o rt nL mc ms d) : mr_idiv b o rt mc ms (mj_X p l e R s m args below meth c Q D cA B nL mc ms) := by
  obtain ⟨hx, hb, -⟩ := C
  intro pc lv st h uc us x z hd hne kk u1 u2 H locs ls hS hL
  have k := kk u1 u2 H locs ls hS hL
  exact lv_idiv hx hb hd hne k
theorem ms_irem (C : mj_Cx D cA B p R s m args meth c b o rt nL mc ms d) : mr_irem b o rt mc ms (mj_X p l e R s m args below meth c Q D cA B nL mc ms) := by
  obtain ⟨hx, hb, -⟩ := C
  intro pc lv st h uc us x z hd hne kk u1 u2 H locs ls hS hL
  have k := kk u1 u2 H locs ls hS hL
  exact lv_irem hx hb hd hne k
theorem ms_ineg (C : mj_Cx D cA B p R s m args meth c b o rt nL mc ms d) : mr_ineg b o rt mc ms (mj_X p l e R s m args below meth c Q D cA B nL mc ms) := by
  obtain ⟨hx, hb, -⟩ := C
  intro pc lv st h uc us x hd  kk u1 u2 H locs ls hS hL
  have k := kk u1 u2 H locs ls hS hL
  exact lv_ineg hx hb hd k
theorem ms_dup (C : mj_Cx D cA B p R s m args meth c b o rt nL mc ms d) : mr_dup b o rt mc ms (mj_X p l e R s m args below meth c Q D cA B nL mc ms) := by
  obtain ⟨hx, hb, -⟩ := C
  intro pc lv st h uc us v hd q0 kk u1 u2 H locs ls hS hL
  have k := kk u1 u2 H locs ls hS hL
  exact lv_dup hx hb hd (mj_cat q0) k
theorem ms_pop (C : mj_Cx D cA B p R s m args meth c b o rt nL mc ms d) : mr_pop b o rt mc ms (mj_X p l e R s m args below meth c Q D cA B nL mc ms) := by
  obtain ⟨hx, hb, -⟩ := C
  intro pc lv st h uc us v hd q0 kk u1 u2 H locs ls hS hL
  have k := kk u1 u2 H locs ls hS hL
  exact lv_pop hx hb hd (mj_cat q0) k
theorem ms_dup2 (C : mj_Cx D cA B p R s m args meth c b o rt nL mc ms d) : mr_dup2 b o rt mc ms (mj_X p l e R s m args below meth c Q D cA B nL mc ms) := by
  obtain ⟨hx, hb, -⟩ := C
  intro pc lv st h uc us v w hd q0 q1 kk u1 u2 H locs ls hS hL
  have k := kk u1 u2 H locs ls hS hL
  exact lv_dup2_11 hx hb hd (mj_cat q0) (mj_cat q1) k
theorem ms_dup_x1 (C : mj_Cx D cA B p R s m args meth c b o rt nL mc ms d) : mr_dup_x1 b o rt mc ms (mj_X p l e R s m args below meth c Q D cA B nL mc ms) := by
  obtain ⟨hx, hb, -⟩ := C
  intro pc lv st h uc us v w hd q0 q1 kk u1 u2 H locs ls hS hL
  have k := kk u1 u2 H locs ls hS hL
  exact lv_dup_x1 hx hb hd (mj_cat q0) (mj_cat q1) k
theorem ms_lconst (C : mj_Cx D cA B p R s m args meth c b o rt nL mc ms d) : mr_lconst b o rt mc ms (mj_X p l e R s m args below meth c Q D cA B nL mc ms) := by
  obtain ⟨hx, hb, -⟩ := C
  intro pc lv st h uc us f v hd hv kk u1 u2 H locs ls hS hL
  have k := kk u1 u2 H locs ls hS hL
  exact lv_lconst hx hb hd hv k
theorem ms_lmul (C : mj_Cx D cA B p R s m args meth c b o rt nL mc ms d) : mr_lmul b o rt mc ms (mj_X p l e R s m args below meth c Q D cA B nL mc ms) := by
  obtain ⟨hx, hb, -⟩ := C
  intro pc lv st h uc us x z hd  kk u1 u2 H locs ls hS hL
  have k := kk u1 u2 H locs ls hS hL
  exact lv_lmul hx hb hd k
theorem ms_lcmp (C : mj_Cx D cA B p R s m args meth c b o rt nL mc ms d) : mr_lcmp b o rt mc ms (mj_X p l e R s m args below meth c Q D cA B nL mc ms) := by
  obtain ⟨hx, hb, -⟩ := C
  intro pc lv st h uc us x z hd  kk u1 u2 H locs ls hS hL
  have k := kk u1 u2 H locs ls hS hL
  exact W.lcmp hx hb hd k
theorem ms_i2l (C : mj_Cx D cA B p R s m args meth c b o rt nL mc ms d) : mr_i2l b o rt mc ms (mj_X p l e R s m args below meth c Q D cA B nL mc ms) := by
  obtain ⟨hx, hb, -⟩ := C
  intro pc lv st h uc us x hd  kk u1 u2 H locs ls hS hL
  have k := kk u1 u2 H locs ls hS hL
  exact lv_i2l hx hb hd rfl k
theorem ms_icmp_eq (C : mj_Cx D cA B p R s m args meth c b o rt nL mc ms d) : mr_icmp_eq b o rt mc ms (mj_X p l e R s m args below meth c Q D cA B nL mc ms) := by
  obtain ⟨hx, hb, -⟩ := C
  intro pc lv st h uc us x z off tgt hd ht k1 k2 u1 u2 H locs ls hS hL
  exact lv_icmp_eq hx hb hd ht (fun g => k1 g u1 u2 H locs ls hS hL) (fun g => k2 g u1 u2 H locs ls hS hL)
theorem ms_icmp_ne (C : mj_Cx D cA B p R s m args meth c b o rt nL mc ms d) : mr_icmp_ne b o rt mc ms (mj_X p l e R s m args below meth c Q D cA B nL mc ms) := by
  obtain ⟨hx, hb, -⟩ := C
  intro pc lv st h uc us x z off tgt hd ht k1 k2 u1 u2 H locs ls hS hL
  exact lv_icmp_ne hx hb hd ht (fun g => k1 g u1 u2 H locs ls hS hL) (fun g => k2 g u1 u2 H locs ls hS hL)
theorem ms_icmp_lt (C : mj_Cx D cA B p R s m args meth c b o rt nL mc ms d) : mr_icmp_lt b o rt mc ms (mj_X p l e R s m args below meth c Q D cA B nL mc ms) := by
  obtain ⟨hx, hb, -⟩ := C
  intro pc lv st h uc us x z off tgt hd ht k1 k2 u1 u2 H locs ls hS hL
  exact lv_icmp_lt hx hb hd ht (fun g => k1 g u1 u2 H locs ls hS hL) (fun g => k2 g u1 u2 H locs ls hS hL)
theorem ms_icmp_ge (C : mj_Cx D cA B p R s m args meth c b o rt nL mc ms d) : mr_icmp_ge b o rt mc ms (mj_X p l e R s m args below meth c Q D cA B nL mc ms) := by
  obtain ⟨hx, hb, -⟩ := C
  intro pc lv st h uc us x z off tgt hd ht k1 k2 u1 u2 H locs ls hS hL
  exact lv_icmp_ge hx hb hd ht (fun g => k1 g u1 u2 H locs ls hS hL) (fun g => k2 g u1 u2 H locs ls hS hL)
theorem ms_icmp_gt (C : mj_Cx D cA B p R s m args meth c b o rt nL mc ms d) : mr_icmp_gt b o rt mc ms (mj_X p l e R s m args below meth c Q D cA B nL mc ms) := by
  obtain ⟨hx, hb, -⟩ := C
  intro pc lv st h uc us x z off tgt hd ht k1 k2 u1 u2 H locs ls hS hL
  exact lv_icmp_gt hx hb hd ht (fun g => k1 g u1 u2 H locs ls hS hL) (fun g => k2 g u1 u2 H locs ls hS hL)
theorem ms_icmp_le (C : mj_Cx D cA B p R s m args meth c b o rt nL mc ms d) : mr_icmp_le b o rt mc ms (mj_X p l e R s m args below meth c Q D cA B nL mc ms) := by
  obtain ⟨hx, hb, -⟩ := C
  intro pc lv st h uc us x z off tgt hd ht k1 k2 u1 u2 H locs ls hS hL
  exact lv_icmp_le hx hb hd ht (fun g => k1 g u1 u2 H locs ls hS hL) (fun g => k2 g u1 u2 H locs ls hS hL)
theorem ms_if_eq (C : mj_Cx D cA B p R s m args meth c b o rt nL mc ms d) : mr_if_eq b o rt mc ms (mj_X p l e R s m args below meth c Q D cA B nL mc ms) := by
  obtain ⟨hx, hb, -⟩ := C
  intro pc lv st h uc us x off tgt hd ht k1 k2 u1 u2 H locs ls hS hL
  exact lv_if_eq hx hb hd ht (fun g => k1 g u1 u2 H locs ls hS hL) (fun g => k2 g u1 u2 H locs ls hS hL)
theorem ms_if_ne (C : mj_Cx D cA B p R s m args meth c b o rt nL mc ms d) : mr_if_ne b o rt mc ms (mj_X p l e R s m args below meth c Q D cA B nL mc ms) := by
  obtain ⟨hx, hb, -⟩ := C
  intro pc lv st h uc us x off tgt hd ht k1 k2 u1 u2 H locs ls hS hL
  exact lv_if_ne hx hb hd ht (fun g => k1 g u1 u2 H locs ls hS hL) (fun g => k2 g u1 u2 H locs ls hS hL)
theorem ms_if_lt (C : mj_Cx D cA B p R s m args meth c b o rt nL mc ms d) : mr_if_lt b o rt mc ms (mj_X p l e R s m args below meth c Q D cA B nL mc ms) := by
  obtain ⟨hx, hb, -⟩ := C
  intro pc lv st h uc us x off tgt hd ht k1 k2 u1 u2 H locs ls hS hL
  exact lv_if_lt hx hb hd ht (fun g => k1 g u1 u2 H locs ls hS hL) (fun g => k2 g u1 u2 H locs ls hS hL)
theorem ms_if_ge (C : mj_Cx D cA B p R s m args meth c b o rt nL mc ms d) : mr_if_ge b o rt mc ms (mj_X p l e R s m args below meth c Q D cA B nL mc ms) := by
  obtain ⟨hx, hb, -⟩ := C
  intro pc lv st h uc us x off tgt hd ht k1 k2 u1 u2 H locs ls hS hL
  exact lv_if_ge hx hb hd ht (fun g => k1 g u1 u2 H locs ls hS hL) (fun g => k2 g u1 u2 H locs ls hS hL)
theorem ms_if_gt (C : mj_Cx D cA B p R s m args meth c b o rt nL mc ms d) : mr_if_gt b o rt mc ms (mj_X p l e R s m args below meth c Q D cA B nL mc ms) := by
  obtain ⟨hx, hb, -⟩ := C
  intro pc lv st h uc us x off tgt hd ht k1 k2 u1 u2 H locs ls hS hL
  exact lv_if_gt hx hb hd ht (fun g => k1 g u1 u2 H locs ls hS hL) (fun g => k2 g u1 u2 H locs ls hS hL)
theorem ms_if_le (C : mj_Cx D cA B p R s m args meth c b o rt nL mc ms d) : mr_if_le b o rt mc ms (mj_X p l e R s m args below meth c Q D cA B nL mc ms) := by
  obtain ⟨hx, hb, -⟩ := C
  intro pc lv st h uc us x off tgt hd ht k1 k2 u1 u2 H locs ls hS hL
  exact lv_if_le hx hb hd ht (fun g => k1 g u1 u2 H locs ls hS hL) (fun g => k2 g u1 u2 H locs ls hS hL)
theorem ms_goto (C : mj_Cx D cA B p R s m args meth c b o rt nL mc ms d) : mr_goto b o rt mc ms (mj_X p l e R s m args below meth c Q D cA B nL mc ms) := by
  obtain ⟨hx, hb, -⟩ := C
  intro pc lv st h uc us off tgt hd ht k u1 u2 H locs ls hS hL
  exact lv_goto hx hb hd ht (k u1 u2 H locs ls hS hL)
theorem ms_iload (C : mj_Cx D cA B p R s m args meth c b o rt nL mc ms d) : mr_iload b o rt mc ms (mj_X p l e R s m args below meth c Q D cA B nL mc ms) := by
  obtain ⟨hx, hb, -⟩ := C
  intro pc lv st h uc us i x hd e1 k u1 u2 H locs ls hS hL
  exact lv_iload hx hb hd (hL.get e1) (k u1 u2 H locs ls hS hL)
theorem ms_aload (C : mj_Cx D cA B p R s m args meth c b o rt nL mc ms d) : mr_aload b o rt mc ms (mj_X p l e R s m args below meth c Q D cA B nL mc ms) := by
  obtain ⟨hx, hb, -⟩ := C
  intro pc lv st h uc us i x hd e1 k u1 u2 H locs ls hS hL
  exact lv_aload hx hb hd (hL.get e1) (k u1 u2 H locs ls hS hL)
theorem ms_iload_n (C : mj_Cx D cA B p R s m args meth c b o rt nL mc ms d) : mr_iload_n b o rt mc ms (mj_X p l e R s m args below meth c Q D cA B nL mc ms) := by
  obtain ⟨hx, hb, -⟩ := C
  intro pc lv st h uc us f i x hd hi e1 k u1 u2 H locs ls hS hL
  exact lv_iload_n hx hb hd hi (hL.get e1) (k u1 u2 H locs ls hS hL)
theorem ms_aload_n (C : mj_Cx D cA B p R s m args meth c b o rt nL mc ms d) : mr_aload_n b o rt mc ms (mj_X p l e R s m args below meth c Q D cA B nL mc ms) := by
  obtain ⟨hx, hb, -⟩ := C
  intro pc lv st h uc us f i x hd hi e1 k u1 u2 H locs ls hS hL
  exact lv_aload_n hx hb hd hi (hL.get e1) (k u1 u2 H locs ls hS hL)
theorem ms_lload_n (C : mj_Cx D cA B p R s m args meth c b o rt nL mc ms d) : mr_lload_n b o rt mc ms (mj_X p l e R s m args below meth c Q D cA B nL mc ms) := by
  obtain ⟨hx, hb, -⟩ := C
  intro pc lv st h uc us f i x hd hi e1 k u1 u2 H locs ls hS hL
  exact lv_lload_n hx hb hd hi (hL.get e1) (k u1 u2 H locs ls hS hL)
theorem ms_istore (C : mj_Cx D cA B p R s m args meth c b o rt nL mc ms d) : mr_istore b o rt mc ms (mj_X p l e R s m args below meth c Q D cA B nL mc ms) := by
  obtain ⟨hx, hb, -⟩ := C
  intro pc lv st h uc us i x hd hi hok k u1 u2 H locs ls hS hL
  exact lv_istore (lv := mj_pr B lv) hx hb hd hL.2 (hL.1 ▸ hi) rfl (fun ls2 h9 => k u1 u2 H locs ls2 hS (mj_LS.after1 (v := .inl x) hL.1 hok h9))
theorem ms_istore_n (C : mj_Cx D cA B p R s m args meth c b o rt nL mc ms d) : mr_istore_n b o rt mc ms (mj_X p l e R s m args below meth c Q D cA B nL mc ms) := by
  obtain ⟨hx, hb, -⟩ := C
  intro pc lv st h uc us f i x hd hf hi hok k u1 u2 H locs ls hS hL
  exact lv_istore_n (lv := mj_pr B lv) hx hb hd hf hL.2 (hL.1 ▸ hi) rfl (fun ls2 h9 => k u1 u2 H locs ls2 hS (mj_LS.after1 (v := .inl x) hL.1 hok h9))
theorem ms_astore (C : mj_Cx D cA B p R s m args meth c b o rt nL mc ms d) : mr_astore b o rt mc ms (mj_X p l e R s m args below meth c Q D cA B nL mc ms) := by
  obtain ⟨hx, hb, -⟩ := C
  intro pc lv st h uc us i x hd hi hok k u1 u2 H locs ls hS hL
  exact lv_astore (lv := mj_pr B lv) hx hb hd hL.2 (hL.1 ▸ hi) rfl (fun ls2 h9 => k u1 u2 H locs ls2 hS (mj_LS.after1 (v := .inr (.inl (some x))) hL.1 hok h9))
theorem ms_astore_n (C : mj_Cx D cA B p R s m args meth c b o rt nL mc ms d) : mr_astore_n b o rt mc ms (mj_X p l e R s m args below meth c Q D cA B nL mc ms) := by
  obtain ⟨hx, hb, -⟩ := C
  intro pc lv st h uc us f i x hd hf hi hok k u1 u2 H locs ls hS hL
  exact lv_astore_n (lv := mj_pr B lv) hx hb hd hf hL.2 (hL.1 ▸ hi) rfl (fun ls2 h9 => k u1 u2 H locs ls2 hS (mj_LS.after1 (v := .inr (.inl (some x))) hL.1 hok h9))
theorem ms_lstore_n (C : mj_Cx D cA B p R s m args meth c b o rt nL mc ms d) : mr_lstore_n b o rt mc ms (mj_X p l e R s m args below meth c Q D cA B nL mc ms) := by
  obtain ⟨hx, hb, -⟩ := C
  intro pc lv st h uc us f i x hd hf hi hok k u1 u2 H locs ls hS hL
  exact lv_lstore_n (lv := mj_pr B lv) hx hb hd hf hL.2 (hL.1 ▸ hi) rfl (fun ls2 h9 => k u1 u2 H locs ls2 hS (mj_LS.after2 (v := .inr (.inr x)) hL.1 hok h9))
theorem ms_iinc (C : mj_Cx D cA B p R s m args meth c b o rt nL mc ms d) : mr_iinc b o rt mc ms (mj_X p l e R s m args below meth c Q D cA B nL mc ms) := by
  obtain ⟨hx, hb, -⟩ := C
  intro pc lv st h uc us i k x v hd e1 hv hok kk u1 u2 H locs ls hS hL
  obtain ⟨j, hj⟩ := List.getElem?_of_mem (mj_pr_mem (B := B).mpr ⟨_, e1, rfl⟩)
  exact lv_iinc (lv := mj_pr B lv) hx hb hd hL.2 hj hv (hL.1 ▸ (List.getElem?_eq_some_iff.mp e1).1) rfl (fun ls2 h9 => kk u1 u2 H locs ls2 hS (mj_LS.after1 (v := .inl v) hL.1 hok h9))
end mj_sim
end
section
section mj_facts
theorem mj_fldok {o i ci k : Nat} (h : pg_fld o i = some (ci, k)) : Cond.fieldLink (pg_cn o) i (pg_C ci) (pg_T ci k).2.1 (pg_T ci k).2.2.1 ∈ lw_tbl ∧ ci < 10 ∧ k < pg_nf ci := by
  have h1 := pg_use (pg_kF o) h
  simp only [Bool.and_eq_true, decide_eq_true_eq] at h1
  exact ⟨pg_is_mem h1.1, h1.2.1, h1.2.2⟩
def mj_clP (ci : Nat) : Prop := pg_cl[ci]? = some (pg_C ci, pg_T ci, pg_nf ci) ∧ (∀ w ∈ u_ws (pg_C ci) (pg_T ci) (pg_nf ci), w ∈ pg_tb) ∧ (Cond.instantiable (pg_C ci) (pg_nf ci) ∈ pg_tb ∧ Cond.initialized (pg_C ci) ∈ pg_tb) ∧ (∀ k, k < pg_nf ci → parseFieldDescriptor (pg_T ci k).2.2.1 = some (pg_ty ci k) ∧ (pg_T ci k).1 = pg_C ci ∧ (pg_T ci k).2.2.2 = pg_fin ci k) ∧ (∀ a, a < pg_nf ci → ∀ b, b < pg_nf ci → a ≠ b → (pg_T ci a).2.1 ≠ (pg_T ci b).2.1)
theorem mj_clok1 {ci : Nat} (e : pg_cl[ci]? = some (pg_C ci, pg_T ci, pg_nf ci)) (h : (pg_is (pg_xp.getD ci (0, 0, [])).1 (Cond.instantiable (pg_C ci) (pg_nf ci)) && (pg_is (pg_xp.getD ci (0, 0, [])).2.1 (Cond.initialized (pg_C ci)) && ((List.range (pg_nf ci)).all fun k => pg_is ((pg_xp.getD ci (0, 0, [])).2.2.getD k 0) (u_lay (pg_C ci) (pg_T ci) k)))) = true)
    (h2 : ((List.range (pg_nf ci)).all fun k => decide (parseFieldDescriptor (pg_T ci k).2.2.1 = some (pg_ty ci k)) && (decide ((pg_T ci k).1 = pg_C ci) && (decide ((pg_T ci k).2.2.2 = pg_fin ci k) && ((List.range (pg_nf ci)).all fun j => decide (j = k) || decide ((pg_T ci j).2.1 ≠ (pg_T ci k).2.1))))) = true) : mj_clP ci := by
  simp only [Bool.and_eq_true] at h
  obtain ⟨h3, h4, h5⟩ := h
  refine ⟨e, fun w hw => ?_, ⟨pg_tb_of (pg_is_mem h3) rfl, pg_tb_of (pg_is_mem h4) rfl⟩, fun k hk => ?_, fun a ha b hb hab => ?_⟩
  · obtain ⟨k, hk, rfl⟩ := List.mem_map.mp hw
    refine pg_tb_of (pg_is_mem (List.all_eq_true.mp h5 k hk)) ?_
    unfold u_lay
    split <;> rfl
  · have := List.all_eq_true.mp h2 k (List.mem_range.mpr hk)
    simp only [Bool.and_eq_true, decide_eq_true_eq] at this
    exact ⟨this.1, this.2.1, this.2.2.1⟩
  · have := List.all_eq_true.mp h2 b (List.mem_range.mpr hb)
    simp only [Bool.and_eq_true, decide_eq_true_eq] at this
    have := List.all_eq_true.mp this.2.2.2 a (List.mem_range.mpr ha)
    simp only [Bool.or_eq_true, decide_eq_true_eq] at this
    exact this.elim (fun q => absurd q hab) id
theorem mj_clok : ∀ ci, ci < 10 → mj_clP ci
  | 0, _ => mj_clok1 rfl pg_kX_0 pg_kT_0
  | 1, _ => mj_clok1 rfl pg_kX_1 pg_kT_1
  | 2, _ => mj_clok1 rfl pg_kX_2 pg_kT_2
  | 3, _ => mj_clok1 rfl pg_kX_3 pg_kT_3
  | 4, _ => mj_clok1 rfl pg_kX_4 pg_kT_4
  | 5, _ => mj_clok1 rfl pg_kX_5 pg_kT_5
  | 6, _ => mj_clok1 rfl pg_kX_6 pg_kT_6
  | 7, _ => mj_clok1 rfl pg_kX_7 pg_kT_7
  | 8, _ => mj_clok1 rfl pg_kX_8 pg_kT_8
  | 9, _ => mj_clok1 rfl pg_kX_9 pg_kT_9
  | _ + 10, h => absurd h (by omega)
theorem mj_fs_len {B : Nat} {h : mj_H} {ci a : Nat} : (mj_fs B h ci a).length = pg_nf ci := by simp [mj_fs]
theorem mj_fs_get {B : Nat} {h : mj_H} {ci a k : Nat} (hk : k < pg_nf ci) : (mj_fs B h ci a)[k]? = some (if pg_fr ci k = true then va_rf ((h.2.2.2 a k).map (B + ·)) else .int (h.2.2.1 a k)) := by simp [mj_fs, hk]
end mj_facts
section mj_w
variable {p : Program} {l : Launch} {e : Env} {R : Room} {s : State} {m : MethodId} {args : Array Value} {below : List Frame} {meth : Method} {c : Code} {H : Heap} {locs : List Loc} {cells slots : Nat} {Q : State → Prop}
variable {cc : ByteArray} {pc : Nat} {ls : Array Slot} {rest : List Value} {D : va_G} {cl : List vw_C} {a : Nat} {tys : List (ClassId × FieldType)}
theorem mj_putW (hexec : p.tables.exec = Jvm.exec) (hb : c.code = cc) {own ref C : String} {T : u_T} {N ci index : Nat} {Ts : List Cond} (hts : ∀ w ∈ Ts, w.before args s = true) (hin : ∀ w ∈ u_ws C T N, w ∈ Ts) (ty0 : Nat → FieldType) (hty : ∀ k, k < N → parseFieldDescriptor (T k).2.2.1 = some (ty0 k)) (hnm : ∀ a, a < N → ∀ b, b < N → a ≠ b → (T a).2.1 ≠ (T b).2.1) (hown : s.vm.findClass own = some m.cls) (hK : va_K D cl tys s) {fs : List Value} (he : va_at D cl (a, .inr (ci, fs)) H) (hc : cl[ci]? = some (C, T, N)) (k : Nat) (hk : k < N) (hlink : (Cond.fieldLink own index ref (T k).2.1 (T k).2.2.1).before args s = true) (hsame : ∀ x, s.fieldFound? (T k).1 (T k).2.1 (T k).2.2.1 = some x → s.fieldFound? ref (T k).2.1 (T k).2.2.1 = some x) (hfin : (T k).2.2.2 = false) {ty : FieldType} {v : Value} (hd : parseFieldDescriptor (T k).2.2.1 = some ty) (hn : narrow ty v = v) (hfit : fits ty v = true) (hl : k < fs.length)
    (hdg : decode cc pc = .ok (.putfield index, 3)) (kk : ∀ (H1 : Heap) (x : Nat), H1.size = H.size → (∀ q : Nat, q ≠ a → H1[q]? = H[q]?) → va_at D cl (a, .inr (ci, fs.set k v)) H1 → W p l e R s m args below meth c H1 (locs ++ [⟨a, x⟩]) cells slots Q (F0 m (pc + 3) ls rest)) : W p l e R s m args below meth c H locs cells slots Q (F0 m pc ls (v :: .ref a :: rest)) := by
  have hap := va_apart (own := own) hts hin ty0 hty hnm hK hc
  obtain ⟨r, h1, cell, q1, q2, q3, q4⟩ := he
  have hr : r = (C, T, N) := Option.some.inj (h1.symm.trans hc)
  subst hr
  obtain ⟨hS, hfc, kC, hkC, hkind⟩ := hK.1 ci _ hc
  obtain ⟨cf, kf, fi, f, hi, hsl⟩ := hS k hk
  have hlay := hts _ (hin _ (u_in_lay hk))
  unfold u_lay at hlay
  rw [if_neg (by rw [hfin]; decide)] at hlay
  have hst := (u_facts hfc hkC (u_lays hts hin hk) hi).1
  have h6 := u_store hfc hkC hkind hlay hi hd hn hfit
  refine W.putK hexec hb (f := f) ⟨hown, hlink, ⟨_, _, _, hsame _ hi⟩, hst⟩ (by rw [q2]; exact h6) q1 q3 (by rw [hsl]; exact k2_hasslot (q4 k hk)) rfl rfl hdg fun H' e1 e2 e3 => ?_
  rw [hsl] at e1 ⊢
  exact kk H' _ e2 e3 ⟨_, hc, t_OB.to (V := updV (vp_V fs) k v) ⟨_, e1, q2, q3, t_set q4 hap hk v⟩ (fun j _ => vp_updV_set hl v j)⟩
theorem mj_putFW (hexec : p.tables.exec = Jvm.exec) (hb : c.code = cc) {own ref C : String} {T : u_T} {N ci index : Nat} {Ts : List Cond} (hts : ∀ w ∈ Ts, w.before args s = true) (hin : ∀ w ∈ u_ws C T N, w ∈ Ts) (ty0 : Nat → FieldType) (hty : ∀ k, k < N → parseFieldDescriptor (T k).2.2.1 = some (ty0 k)) (hnm : ∀ a, a < N → ∀ b, b < N → a ≠ b → (T a).2.1 ≠ (T b).2.1) (hown : s.vm.findClass own = some m.cls) (hK : va_K D cl tys s) {fs : List Value} (he : va_at D cl (a, .inr (ci, fs)) H) (hc : cl[ci]? = some (C, T, N)) (k : Nat) (hk : k < N) (hlink : (Cond.fieldLink own index ref (T k).2.1 (T k).2.2.1).before args s = true) (hsame : ∀ x, s.fieldFound? (T k).1 (T k).2.1 (T k).2.2.1 = some x → s.fieldFound? ref (T k).2.1 (T k).2.2.1 = some x) (hfin : (T k).2.2.2 = true) (hin2 : meth.name = "<init>") (hdecl : (T k).1 = own) {ty : FieldType} {v : Value} (hd : parseFieldDescriptor (T k).2.2.1 = some ty) (hn : narrow ty v = v) (hfit : fits ty v = true) (hl : k < fs.length)
    (hdg : decode cc pc = .ok (.putfield index, 3)) (kk : ∀ (H1 : Heap) (x : Nat), H1.size = H.size → (∀ q : Nat, q ≠ a → H1[q]? = H[q]?) → va_at D cl (a, .inr (ci, fs.set k v)) H1 → W p l e R s m args below meth c H1 (locs ++ [⟨a, x⟩]) cells slots Q (F0 m (pc + 3) ls rest)) : W p l e R s m args below meth c H locs cells slots Q (F0 m pc ls (v :: .ref a :: rest)) := by
  have hap := va_apart (own := own) hts hin ty0 hty hnm hK hc
  obtain ⟨r, h1, cell, q1, q2, q3, q4⟩ := he
  have hr : r = (C, T, N) := Option.some.inj (h1.symm.trans hc)
  subst hr
  obtain ⟨hS, hfc, kC, hkC, hkind⟩ := hK.1 ci _ hc
  obtain ⟨cf, kf, fi, f, hi, hsl⟩ := hS k hk
  have hlay := hts _ (hin _ (u_in_lay hk))
  unfold u_lay at hlay
  rw [if_pos hfin] at hlay
  have hst := (u_facts hfc hkC (u_lays hts hin hk) hi).1
  have hcf : m.cls = cf := by
    obtain ⟨_, _, c', _, _, _, -, -, hf', -, -, -, hown2, -⟩ := Cond.laysFinal_spec hlay
    have e1 : c' = cf := by have := hi.symm.trans hf'; simp at this; exact this.1.symm
    rw [hdecl] at hown2
    rw [← e1]; exact Option.some.inj (hown.symm.trans hown2)
  have h6 := u_fits hfc hkC hkind (Or.inr hlay) hi hd hn hfit
  refine W.putFinK hexec hb hown hlink (hsame _ hi) hst hcf hin2 (by rw [q2]; exact h6) q1 q3 (by rw [hsl]; exact k2_hasslot (q4 k hk)) rfl rfl hdg fun H' e1 e2 e3 => ?_
  rw [hsl] at e1 ⊢
  exact kk H' _ e2 e3 ⟨_, hc, t_OB.to (V := updV (vp_V fs) k v) ⟨_, e1, q2, q3, t_set q4 hap hk v⟩ (fun j _ => vp_updV_set hl v j)⟩
end mj_w
end
section
section mj_sim3
variable {p : Program} {l : Launch} {e : Env} {R : Room} {s : State} {m : MethodId} {args : Array Value} {below : List Frame} {meth : Method} {c : Code} {Q : State → Prop} {D : va_G} {cA : Nat → ClassId} {B nL mc ms d : Nat} {b : ByteArray} {o rt : Nat}
theorem ms_ldc (C : mj_Cx D cA B p R s m args meth c b o rt nL mc ms d) : mr_ldc b o rt mc ms (mj_X p l e R s m args below meth c Q D cA B nL mc ms) := by
  obtain ⟨hx, hb, hml, hown, hts, -⟩ := C
  intro pc lv st h uc us i v hd e1 k u1 u2 H locs ls hS hL
  have hw : Cond.constant (pg_cn o) i v ∈ lw_tbl := pg_is_mem (pg_use (pg_kL o) e1)
  exact lv_ldc hx hb hown (hts _ (pg_tb_of hw rfl)) hd (k u1 u2 H locs ls hS hL)
theorem ms_ldc2 (C : mj_Cx D cA B p R s m args meth c b o rt nL mc ms d) : mr_ldc2 b o rt mc ms (mj_X p l e R s m args below meth c Q D cA B nL mc ms) := by
  obtain ⟨hx, hb, hml, hown, hts, -⟩ := C
  intro pc lv st h uc us i v hd e1 k u1 u2 H locs ls hS hL
  unfold pg_ldl at e1
  split at e1
  · rename_i hh
    obtain ⟨rfl, rfl⟩ := hh
    cases e1
    exact lv_ldc2 hx hb hown (hts _ (pg_tb_of (pg_is_mem pg_w10) rfl)) hd (k u1 u2 H locs ls hS hL)
  · cases e1
theorem ms_getI (C : mj_Cx D cA B p R s m args meth c b o rt nL mc ms d) : mr_getI b o rt mc ms (mj_X p l e R s m args below meth c Q D cA B nL mc ms) := by
  obtain ⟨hx, hb, hml, hown, hts, hK, -⟩ := C
  intro pc lv st h uc us i ci k a hd e1 e2 ha kk u1 u2 H locs ls hS hL
  obtain ⟨f1, f2, f3⟩ := mj_fldok e1
  obtain ⟨g1, g2, -, g4, -⟩ := mj_clok ci f2
  have hv := mj_fs_get (B := B) (h := h) (a := a) f3
  rw [if_neg (by rw [e2]; decide)] at hv
  exact va_get (D := D) (ci := ci) hx hb hts g2 hown hK (mj_one (hS.obj ha)) 0 rfl g1 k f3 (hts _ (pg_tb_of f1 rfl)) (fun x9 h9 => by rw [(g4 k f3).2.1] at h9; exact h9) hv hd (kk u1 u2 H locs ls hS hL)
theorem ms_getR (C : mj_Cx D cA B p R s m args meth c b o rt nL mc ms d) : mr_getR b o rt mc ms (mj_X p l e R s m args below meth c Q D cA B nL mc ms) := by
  obtain ⟨hx, hb, hml, hown, hts, hK, -⟩ := C
  intro pc lv st h uc us i ci k a r hd e1 e2 ha hr kk u1 u2 H locs ls hS hL
  obtain ⟨f1, f2, f3⟩ := mj_fldok e1
  obtain ⟨g1, g2, -, g4, -⟩ := mj_clok ci f2
  have hv := mj_fs_get (B := B) (h := h) (a := a) f3
  rw [if_pos e2, hr] at hv
  exact va_get (D := D) (ci := ci) hx hb hts g2 hown hK (mj_one (hS.obj ha)) 0 rfl g1 k f3 (hts _ (pg_tb_of f1 rfl)) (fun x9 h9 => by rw [(g4 k f3).2.1] at h9; exact h9) hv hd (kk u1 u2 H locs ls hS hL)
theorem mj_u2_self {α : Type} {f : Nat → Nat → α} {a k : Nat} {v : α} : mj_u2 f a k v a = va_up (f a) k v := va_up_self _ _ _
theorem mj_u2_ne {α : Type} {f : Nat → Nat → α} {a k x : Nat} {v : α} (h : x ≠ a) : mj_u2 f a k v x = f x := va_up_ne _ _ h
theorem mj_fs_putI {h : mj_H} {ci a k : Nat} {x : Int32} (hk : k < pg_nf ci) (e2 : pg_fr ci k = false) : (mj_fs B h ci a).set k (.int x) = mj_fs B (h.1, h.2.1, mj_u2 h.2.2.1 a k x, h.2.2.2) ci a := by
  apply List.ext_getElem?
  intro j
  by_cases hj : j = k
  · subst hj
    rw [List.getElem?_set_self (by rw [mj_fs_len]; exact hk), mj_fs_get hk, if_neg (by rw [e2]; decide)]
    dsimp only
    rw [mj_u2_self, va_up_self]
  · rw [List.getElem?_set_ne (Ne.symm hj)]
    by_cases hl : j < pg_nf ci
    · rw [mj_fs_get hl, mj_fs_get hl]
      dsimp only
      rw [mj_u2_self, va_up_ne _ _ hj]
    · rw [List.getElem?_eq_none (by rw [mj_fs_len]; omega), List.getElem?_eq_none (by rw [mj_fs_len]; omega)]
theorem mj_fs_putR {h : mj_H} {ci a k x : Nat} (hk : k < pg_nf ci) (e2 : pg_fr ci k = true) : (mj_fs B h ci a).set k (.ref (B + x)) = mj_fs B (h.1, h.2.1, h.2.2.1, mj_u2 h.2.2.2 a k (some x)) ci a := by
  apply List.ext_getElem?
  intro j
  by_cases hj : j = k
  · subst hj
    rw [List.getElem?_set_self (by rw [mj_fs_len]; exact hk), mj_fs_get hk, if_pos e2]
    dsimp only
    rw [mj_u2_self, va_up_self]
    rfl
  · rw [List.getElem?_set_ne (Ne.symm hj)]
    by_cases hl : j < pg_nf ci
    · rw [mj_fs_get hl, mj_fs_get hl]
      dsimp only
      rw [mj_u2_self, va_up_ne _ _ hj]
    · rw [List.getElem?_eq_none (by rw [mj_fs_len]; omega), List.getElem?_eq_none (by rw [mj_fs_len]; omega)]
theorem mj_E0 {h : mj_H} {a ci : Nat} (hk : h.2.1 a = (0, ci)) : mj_E cA B h a = .inr (ci, mj_fs B h ci a) := by rw [mj_E, hk]; rfl
theorem mj_E1 {h : mj_H} {a n : Nat} (hk : h.2.1 a = (1, n)) : mj_E cA B h a = .inl (cA 1, n, .inl (h.2.2.1 a)) := by rw [mj_E, hk]; rfl
theorem mj_E2 {h : mj_H} {a n : Nat} (hk : h.2.1 a = (2, n)) : mj_E cA B h a = .inl (cA 2, n, .inl (h.2.2.1 a)) := by rw [mj_E, hk]; rfl
theorem mj_E3 {h : mj_H} {a n : Nat} (hk : h.2.1 a = (3, n)) : mj_E cA B h a = .inl (cA 3, n, .inr (.inr (.inr (.inr (fun k => (h.2.2.2 a k).map (B + ·)))))) := by rw [mj_E, hk]; rfl
theorem ms_putI (C : mj_Cx D cA B p R s m args meth c b o rt nL mc ms d) : mr_putI b o rt mc ms (mj_X p l e R s m args below meth c Q D cA B nL mc ms) := by
  obtain ⟨hx, hb, hml, hown, hts, hK, -⟩ := C
  intro pc lv st h uc us i ci k a x hd e1 e2 e3 e4 ha kk u1 u2 H locs ls hS hL
  obtain ⟨f1, f2, f3⟩ := mj_fldok e1
  obtain ⟨g1, g2, -, g4, g5⟩ := mj_clok ci f2
  refine mj_putW hx hb hts g2 (pg_ty ci) (fun k hk => (g4 k hk).1) g5 hown hK (hS.obj ha) g1 k f3 (hts _ (pg_tb_of f1 rfl)) (fun x9 h9 => by rw [(g4 k f3).2.1] at h9; exact h9) ((g4 k f3).2.2.trans e3) (g4 k f3).1 e4.1 e4.2 (by rw [mj_fs_len]; exact f3) hd (fun H1 y z oq he => ?_)
  refine kk u1 u2 H1 _ ls (hS.put rfl ha.1 z oq ?_ (fun q hq => mj_E_off (mj_u2_ne hq) rfl) (fun q hq => ?_)) hL
  · rw [mj_E0 (h := (h.1, h.2.1, mj_u2 h.2.2.1 a k x, h.2.2.2)) ha.2, ← mj_fs_putI f3 e2]
    exact he
  · rw [List.mem_singleton.mp hq]
    exact Nat.le_add_right _ _
def pg_okT (t : FieldType) : Bool := match t with
  | .int => true
  | .boolean => true
  | .object _ => true
  | .array _ => true
  | _ => false
theorem pg_kT2 : ((List.range 10).all fun ci => (List.range (pg_nf ci)).all fun k => pg_okT (pg_ty ci k)) = true := by decide +kernel
theorem mj_tyok {ci k : Nat} (h : ci < 10) (hk : k < pg_nf ci) : pg_okT (pg_ty ci k) = true := List.all_eq_true.mp (List.all_eq_true.mp pg_kT2 ci (List.mem_range.mpr h)) k (List.mem_range.mpr hk)
theorem mj_ty_ref {ci k : Nat} (f2 : ci < 10) (hk : k < pg_nf ci) (h : pg_fr ci k = true) (a : Nat) : narrow (pg_ty ci k) (.ref a) = .ref a ∧ fits (pg_ty ci k) (.ref a) = true := by
  have h2 := mj_tyok f2 hk
  unfold pg_fr at h
  generalize pg_ty ci k = t at h h2
  cases t <;> first | (simp [pg_isR] at h; done) | (simp [pg_okT] at h2; done) | exact ⟨rfl, rfl⟩
theorem ms_putF (C : mj_Cx D cA B p R s m args meth c b o rt nL mc ms d) : mr_putF b o rt mc ms (mj_X p l e R s m args below meth c Q D cA B nL mc ms) := by
  obtain ⟨hx, hb, hml, hown, hts, hK, -, -, -, hin2⟩ := C
  intro pc lv st h uc us i ci k a x hrt hd e1 e2 e3 e4 ha kk u1 u2 H locs ls hS hL
  obtain ⟨f1, f2, f3⟩ := mj_fldok e1
  obtain ⟨g1, g2, -, g4, g5⟩ := mj_clok ci f2
  subst e4
  have hC : pg_C o = pg_cn o := by
    have : ∀ z, z < 10 → pg_C z = pg_cn z := by decide +kernel
    exact this o f2
  refine mj_putFW hx hb hts g2 (pg_ty o) (fun k hk => (g4 k hk).1) g5 hown hK (hS.obj ha) g1 k f3 (hts _ (pg_tb_of f1 rfl)) (fun x9 h9 => by rw [(g4 k f3).2.1] at h9; exact h9) ((g4 k f3).2.2.trans e3) (hin2 hrt) ((g4 k f3).2.1.trans hC) (g4 k f3).1 (mj_ty_ref f2 f3 e2 _).1 (mj_ty_ref f2 f3 e2 _).2 (by rw [mj_fs_len]; exact f3) hd (fun H1 y z oq he => ?_)
  refine kk u1 u2 H1 _ ls (hS.put rfl ha.1 z oq ?_ (fun q hq => mj_E_off rfl (mj_u2_ne hq)) (fun q hq => ?_)) hL
  · rw [mj_E0 (h := (h.1, h.2.1, h.2.2.1, mj_u2 h.2.2.2 a k (some x))) ha.2, ← mj_fs_putR f3 e2]
    exact he
  · rw [List.mem_singleton.mp hq]
    exact Nat.le_add_right _ _
theorem ms_iald (C : mj_Cx D cA B p R s m args meth c b o rt nL mc ms d) : mr_iald b o rt mc ms (mj_X p l e R s m args below meth c Q D cA B nL mc ms) := by
  obtain ⟨hx, hb, hml, hown, hts, hK, -⟩ := C
  intro pc lv st h uc us a n i hd ha hin kk u1 u2 H locs ls hS hL
  exact va_iald hx hb hK (mj_one (hS.ints ha)) 0 0 rfl rfl hin hd (kk u1 u2 H locs ls hS hL)
theorem ms_zald (C : mj_Cx D cA B p R s m args meth c b o rt nL mc ms d) : mr_zald b o rt mc ms (mj_X p l e R s m args below meth c Q D cA B nL mc ms) := by
  obtain ⟨hx, hb, hml, hown, hts, hK, -⟩ := C
  intro pc lv st h uc us a n i hd ha hin kk u1 u2 H locs ls hS hL
  exact va_zald hx hb hK (mj_one (hS.bools ha)) 0 1 rfl rfl hin hd (kk u1 u2 H locs ls hS hL)
theorem ms_aald (C : mj_Cx D cA B p R s m args meth c b o rt nL mc ms d) : mr_aald b o rt mc ms (mj_X p l e R s m args below meth c Q D cA B nL mc ms) := by
  obtain ⟨hx, hb, hml, hown, hts, hK, -⟩ := C
  intro pc lv st h uc us a n i r hd ha hin hr kk u1 u2 H locs ls hS hL
  have hlt : i.toNatClampNeg < n := Nat.not_le.mp fun q => hin (Or.inr q)
  subst hr
  exact W.aald (v := va_rf ((h.2.2.2 a i.toNatClampNeg).map (B + ·))) (ty := .array .int) hx hb (hS.rows ha) ((hK.2 2 _ rfl).1 n (fun j => va_rf ((h.2.2.2 a j).map (B + ·)))) rfl (fun q => by cases q) (by show ¬ (i < 0 ∨ (arrV _ _ _).slots.size ≤ _); rw [arrV_size]; exact hin) (by show (arrV _ _ _).slots[_]? = _; rw [arrV_read _ _ hlt]) rfl rfl hd (kk u1 u2 H locs ls hS hL)
theorem ms_alen (C : mj_Cx D cA B p R s m args meth c b o rt nL mc ms d) : mr_alen b o rt mc ms (mj_X p l e R s m args below meth c Q D cA B nL mc ms) := by
  obtain ⟨hx, hb, hml, hown, hts, hK, -⟩ := C
  intro pc lv st h uc us a t n hd ha ht kk u1 u2 H locs ls hS hL
  have h9 : t = 1 ∨ t = 2 ∨ t = 3 := by omega
  rcases h9 with rfl | rfl | rfl
  · exact va_alen hx hb hK (mj_one (hS.ints ha)) 0 0 rfl rfl rfl hd (kk u1 u2 H locs ls hS hL)
  · exact va_alen hx hb hK (mj_one (hS.bools ha)) 0 1 rfl rfl rfl hd (kk u1 u2 H locs ls hS hL)
  · exact va_alen hx hb hK (mj_one (hS.rows ha)) 0 2 rfl rfl rfl hd (kk u1 u2 H locs ls hS hL)
theorem ms_iast (C : mj_Cx D cA B p R s m args meth c b o rt nL mc ms d) : mr_iast b o rt mc ms (mj_X p l e R s m args below meth c Q D cA B nL mc ms) := by
  obtain ⟨hx, hb, hml, hown, hts, hK, -⟩ := C
  intro pc lv st h uc us a n i x hd ha hin kk u1 u2 H locs ls hS hL
  refine W.iast hx hb (hS.ints ha) ((hK.2 0 _ rfl).1 n (fun j => .int (h.2.2.1 a j))) (fun q => by cases q) (by show ¬ (i < 0 ∨ (arrV _ _ _).slots.size ≤ _); rw [arrV_size]; exact hin) rfl rfl hd fun H1 e1 z oq => ?_
  refine kk u1 u2 H1 _ ls (hS.put rfl ha.1 z oq ?_ (fun q hq => mj_E_off (mj_u2_ne hq) rfl) (fun q hq => ?_)) hL
  · rw [mj_E1 (h := (h.1, h.2.1, mj_u2 h.2.2.1 a i.toNatClampNeg x, h.2.2.2)) ha.2]
    show H1[B + a]? = some (vp_cell _ _)
    rw [e1, vp_cell_i, vp_cell_i, arrV_store]
    congr 2
    funext q
    dsimp only
    rw [mj_u2_self]
    by_cases hq : q = i.toNatClampNeg
    · subst hq
      simp [updV, va_up]
    · simp [updV, va_up, hq]
  · rw [List.mem_singleton.mp hq]
    exact Nat.le_add_right _ _
theorem ms_zast (C : mj_Cx D cA B p R s m args meth c b o rt nL mc ms d) : mr_zast b o rt mc ms (mj_X p l e R s m args below meth c Q D cA B nL mc ms) := by
  obtain ⟨hx, hb, hml, hown, hts, hK, -⟩ := C
  intro pc lv st h uc us a n i x hd ha hin hnr kk u1 u2 H locs ls hS hL
  refine W.zast hx hb (hS.bools ha) ((hK.2 1 _ rfl).1 n (fun j => .int (h.2.2.1 a j))) (fun q => by cases q) (by show ¬ (i < 0 ∨ (arrV _ _ _).slots.size ≤ _); rw [arrV_size]; exact hin) rfl rfl hd fun H1 e1 z oq => ?_
  refine kk u1 u2 H1 _ ls (hS.put rfl ha.1 z oq ?_ (fun q hq => mj_E_off (mj_u2_ne hq) rfl) (fun q hq => ?_)) hL
  · rw [mj_E2 (h := (h.1, h.2.1, mj_u2 h.2.2.1 a i.toNatClampNeg x, h.2.2.2)) ha.2]
    show H1[B + a]? = some (vp_cell _ _)
    rw [e1, hnr, vp_cell_i, vp_cell_i, arrV_store]
    congr 2
    funext q
    dsimp only
    rw [mj_u2_self]
    by_cases hq : q = i.toNatClampNeg
    · subst hq
      simp [updV, va_up]
    · simp [updV, va_up, hq]
  · rw [List.mem_singleton.mp hq]
    exact Nat.le_add_right _ _
def mj_Ek (cA : Nat → ClassId) (B : Nat) (kd : Nat × Nat) (f : Nat → Int32) (g : Nat → Option Nat) : va_E :=
  if kd.1 = 0 then .inr (kd.2, (List.range (pg_nf kd.2)).map (fun k => if pg_fr kd.2 k = true then va_rf ((g k).map (B + ·)) else .int (f k))) else if kd.1 = 3 then .inl (cA 3, kd.2, .inr (.inr (.inr (.inr (fun k => (g k).map (B + ·)))))) else .inl (cA kd.1, kd.2, .inl f)
theorem mj_E_k {h : mj_H} {a : Nat} : mj_E cA B h a = mj_Ek cA B (h.2.1 a) (h.2.2.1 a) (h.2.2.2 a) := rfl
theorem mj_E_grow {h : mj_H} {kd : Nat × Nat} {x : Nat} (hx : x < h.1) : mj_E cA B (h.1 + 1, va_up h.2.1 h.1 kd, va_up h.2.2.1 h.1 (fun _ => 0), va_up h.2.2.2 h.1 (fun _ => none)) x = mj_E cA B h x := by
  rw [mj_E_k, mj_E_k]
  dsimp only
  rw [va_up_ne _ _ (Nat.ne_of_lt hx), va_up_ne _ _ (Nat.ne_of_lt hx), va_up_ne _ _ (Nat.ne_of_lt hx)]
theorem ms_new (C : mj_Cx D cA B p R s m args meth c b o rt nL mc ms d) : mr_new b o rt mc ms (mj_X p l e R s m args below meth c Q D cA B nL mc ms) := by
  obtain ⟨hx, hb, hml, hown, hts, hK, hB, ⟨-, -, hmc, hms⟩, -⟩ := C
  intro pc lv st h uc us i ci hd e1 e2 e3 kk u1 u2 H locs ls hS hL
  have f0 := pg_use (pg_kN o) e1
  simp only [Bool.and_eq_true, decide_eq_true_eq] at f0
  obtain ⟨g1, g2, g3, g4, g5⟩ := mj_clok ci f0.2
  have hKn := hK.1 ci _ g1
  refine W.newcK hx hb hown (hts _ (pg_tb_of (pg_is_mem f0.1) rfl)) (hts _ g3.1) (hts _ g3.2) rfl hd (by omega) (by omega) hKn.2.1 rfl fun H1 kC hkC e4 z1 o1 => ?_
  have hz := hS.1.1
  have K := kk e2 e3 H1 locs ls (hS.grow (h2 := (h.1 + 1, va_up h.2.1 h.1 (0, ci), va_up h.2.2.1 h.1 (fun _ => 0), va_up h.2.2.2 h.1 (fun _ => none))) rfl z1 o1 ?_ (fun x hx => mj_E_grow hx)) hL
  · rw [hz]
    exact K
  · rw [mj_E0 (h := (h.1 + 1, va_up h.2.1 h.1 (0, ci), va_up h.2.2.1 h.1 (fun _ => 0), va_up h.2.2.2 h.1 (fun _ => none))) (va_up_self _ _ _)]
    rw [hz] at e4
    refine ⟨_, g1, (u_born (pg_ty ci) hts g2 hKn hkC e4 (fun k hk => (g4 k hk).1)).to (fun j hj => ?_)⟩
    show _ = (mj_fs B _ ci h.1).getD j .null
    rw [List.getD_eq_getElem?_getD, mj_fs_get hj]
    dsimp only
    rw [va_up_self, va_up_self]
    have h2 := mj_tyok f0.2 hj
    unfold pg_fr
    generalize pg_ty ci j = t at h2
    cases t <;> first | (simp [pg_okT] at h2; done) | rfl
theorem ms_newi (C : mj_Cx D cA B p R s m args meth c b o rt nL mc ms d) : mr_newi b o rt mc ms (mj_X p l e R s m args below meth c Q D cA B nL mc ms) := by
  obtain ⟨hx, hb, hml, hown, hts, hK, hB, ⟨-, -, hmc, hms⟩, -⟩ := C
  intro pc lv st h uc us x n hd e0 e1 e5 e2 e3 kk u1 u2 H locs ls hS hL
  refine va_newaK hx hb (hts _ (pg_tb_of (pg_is_mem pg_w7) rfl)) rfl hd rfl e0 e1 (by show n * 4 ≤ _; omega) (by omega) (by omega) rfl fun H1 cA2 e4 z1 o1 hAr hNm => ?_
  have hc2 : cA2 = cA 1 := Option.some.inj (hNm.symm.trans (hK.2 0 _ rfl).2)
  subst hc2
  have hz := hS.1.1
  have K := kk e2 e3 H1 locs ls (hS.grow (h2 := (h.1 + 1, va_up h.2.1 h.1 (1, n), va_up h.2.2.1 h.1 (fun _ => 0), va_up h.2.2.2 h.1 (fun _ => none))) rfl z1 o1 ?_ (fun x hx => mj_E_grow hx)) hL
  · rw [hz]
    exact K
  · rw [mj_E1 (h := (h.1 + 1, va_up h.2.1 h.1 (1, n), va_up h.2.2.1 h.1 (fun _ => 0), va_up h.2.2.2 h.1 (fun _ => none))) (va_up_self _ _ _)]
    rw [hz] at e4
    dsimp only
    rw [va_up_self]
    exact e4
theorem ms_newz (C : mj_Cx D cA B p R s m args meth c b o rt nL mc ms d) : mr_newz b o rt mc ms (mj_X p l e R s m args below meth c Q D cA B nL mc ms) := by
  obtain ⟨hx, hb, hml, hown, hts, hK, hB, ⟨-, -, hmc, hms⟩, -⟩ := C
  intro pc lv st h uc us x n hd e0 e1 e5 e2 e3 kk u1 u2 H locs ls hS hL
  refine va_newaK hx hb (hts _ (pg_tb_of (pg_is_mem pg_w8) rfl)) rfl hd rfl e0 e1 (by show n * 1 ≤ _; omega) (by omega) (by omega) rfl fun H1 cA2 e4 z1 o1 hAr hNm => ?_
  have hc2 : cA2 = cA 2 := Option.some.inj (hNm.symm.trans (hK.2 1 _ rfl).2)
  subst hc2
  have hz := hS.1.1
  have K := kk e2 e3 H1 locs ls (hS.grow (h2 := (h.1 + 1, va_up h.2.1 h.1 (2, n), va_up h.2.2.1 h.1 (fun _ => 0), va_up h.2.2.2 h.1 (fun _ => none))) rfl z1 o1 ?_ (fun x hx => mj_E_grow hx)) hL
  · rw [hz]
    exact K
  · rw [mj_E2 (h := (h.1 + 1, va_up h.2.1 h.1 (2, n), va_up h.2.2.1 h.1 (fun _ => 0), va_up h.2.2.2 h.1 (fun _ => none))) (va_up_self _ _ _)]
    rw [hz] at e4
    dsimp only
    rw [va_up_self]
    exact e4
end mj_sim3
end
section
theorem mj_outer (c : ClassId) (N h0 : Nat) : ∀ i : Nat, Jvm.Free.Multi.outerC c N h0 i = arrV c N (fun j => va_rf (if j < i then some (h0 + 1 + j) else none))
  | 0 => by
    show ({ cls := c, slots := Array.replicate N .null, vm := .none } : Cell) = _
    rw [arrV_new]
    refine congrArg (arrV c N) (funext fun j => ?_)
    simp [va_rf]
  | i + 1 => by
    show (Jvm.Free.Multi.outerC c N h0 i).setSlot i (.ref (h0 + 1 + i)) = _
    rw [mj_outer c N h0 i, arrV_store]
    refine congrArg (arrV c N) (funext fun j => ?_)
    by_cases e : j = i
    · subst e
      simp [updV, va_rf]
    · by_cases h : j < i
      · simp [updV, e, h, Nat.lt_succ_of_lt h]
      · simp [updV, e, h, show ¬ j < i + 1 by omega]
section mj_sim4
variable {p : Program} {l : Launch} {e : Env} {R : Room} {s : State} {m : MethodId} {args : Array Value} {below : List Frame} {meth : Method} {c : Code} {Q : State → Prop} {D : va_G} {cA : Nat → ClassId} {B nL mc ms d : Nat} {b : ByteArray} {o rt : Nat}
theorem ms_newm (C : mj_Cx D cA B p R s m args meth c b o rt nL mc ms d) : mr_newm b o rt mc ms (mj_X p l e R s m args below meth c Q D cA B nL mc ms) := by
  obtain ⟨hx, hb, hml, hown, hts, hK, hB, ⟨-, -, hmc, hms⟩, hE, -⟩ := C
  intro pc lv st h uc us i x z n k hd e1 e2 e3 e4 e5 e6 e7 e8 e9 kk u1 u2 H locs ls hS hL
  have hw : Cond.classLink (pg_cn o) i "[[I" ∈ lw_tbl := pg_is_mem (pg_use (pg_kG o) e1)
  have hs : "[" ++ (FieldType.array FieldType.int).toString = "[[I" := by decide +kernel
  have hcl : (Cond.classLink (pg_cn o) i ("[" ++ (FieldType.array FieldType.int).toString)).before args s = true := by rw [hs]; exact hts _ (pg_tb_of hw rfl)
  subst e4
  subst e5
  intro T hT Xs
  obtain ⟨vm₁, cA2, comp, -, fA, fC, hO, -, X', step⟩ := Xs.multianewarray2F (ty := .int) hx hown hcl hE.2 (hts _ (pg_tb_of (pg_is_mem pg_w7) rfl)) (g := F0 m pc ls (.int z :: .int x :: st.map (mj_v B))) rfl (by rw [hb]; exact hd) rfl e2 e3 (by omega) (by show _ * 4 ≤ _; omega) (by omega) rfl rfl (by omega) (by omega)
  have hc3 : cA2 = cA 3 := Option.some.inj (fA.symm.trans (hK.2 2 _ rfl).2)
  have hc1 : comp = cA 1 := Option.some.inj (fC.symm.trans (hK.2 0 _ rfl).2)
  subst hc3
  subst hc1
  generalize hF : Jvm.Free.Multi.fill (T.setVm vm₁) (cA 3) (cA 1) x.toNatClampNeg z.toNatClampNeg (defaultValue .int) x.toNatClampNeg = F at X' step
  have hTh : (T.setVm vm₁).heap = H := hT
  obtain ⟨f1, f2, -, -⟩ := Jvm.Free.Multi.fill_facts (T.setVm vm₁) (cA 3) (cA 1) x.toNatClampNeg z.toNatClampNeg (defaultValue .int) x.toNatClampNeg
  rw [hF, hTh] at f1 f2
  have hold : ∀ q : Nat, q < H.size → F.heap[q]? = H[q]? := fun q hq => by
    have := Jvm.Free.Multi.fill_old (T.setVm vm₁) (cA 3) (cA 1) x.toNatClampNeg z.toNatClampNeg (defaultValue .int) (a := q) (by rw [hTh]; exact hq) x.toNatClampNeg
    rw [hF, hTh] at this
    exact this
  have hrow : ∀ j : Nat, j < x.toNatClampNeg → F.heap[H.size + 1 + j]? = some (Jvm.Free.Multi.innerC (cA 1) z.toNatClampNeg (defaultValue .int)) := fun j hj => by
    have := Jvm.Free.Multi.fill_inner (T.setVm vm₁) (cA 3) (cA 1) x.toNatClampNeg z.toNatClampNeg (defaultValue .int) x.toNatClampNeg j hj
    rw [hF, hTh] at this
    exact this
  rw [mj_outer] at f2
  have hz := hS.1.1
  have K := kk (by omega) (by omega) F.heap locs ls ⟨⟨?_, ?_⟩, ?_, hS.2.2⟩ hL F rfl X'
  · obtain ⟨t, a1, b1⟩ := K
    refine ⟨t, step t ?_, b1⟩
    have e0 : T.heap.size = B + h.1 := by rw [hT]; exact hz
    rw [e0]
    exact a1
  · show F.heap.size = B + (h.1 + 1 + x.toNatClampNeg)
    rw [f1, hz]
    omega
  · intro a ha
    have ha : a < h.1 + 1 + x.toNatClampNeg := ha
    rw [mj_E_k]
    dsimp only
    by_cases h1 : a < h.1
    · rw [if_neg (show ¬ a = h.1 by omega), if_neg (show ¬ (h.1 < a ∧ a ≤ h.1 + x.toNatClampNeg) by omega), if_neg (show ¬ (h.1 ≤ a ∧ a ≤ h.1 + x.toNatClampNeg) by omega), if_neg (show ¬ a = h.1 by omega)]
      exact (hS.1.2 a h1).kept (hold _ (by show B + a < H.size; omega))
    · by_cases h2 : a = h.1
      · subst h2
        rw [if_pos rfl, if_pos (show h.1 ≤ h.1 ∧ h.1 ≤ h.1 + x.toNatClampNeg by omega), if_pos rfl]
        show F.heap[B + h.1]? = some (vp_cell _ _)
        rw [← hz, f2, vp_cell_q]
        refine congrArg some (congrArg (arrV _ _) (funext fun j => congrArg va_rf ?_))
        dsimp only
        by_cases hj : j < x.toNatClampNeg
        · rw [if_pos hj, if_pos hj, hz]
          show some (B + h.1 + 1 + j) = some (B + (h.1 + 1 + j))
          rw [show B + h.1 + 1 + j = B + (h.1 + 1 + j) by omega]
        · rw [if_neg hj, if_neg hj]
          rfl
      · rw [if_neg h2, if_pos (show h.1 < a ∧ a ≤ h.1 + x.toNatClampNeg by omega), if_pos (show h.1 ≤ a ∧ a ≤ h.1 + x.toNatClampNeg by omega), if_neg h2]
        show F.heap[B + a]? = some (vp_cell _ _)
        rw [show B + a = H.size + 1 + (a - h.1 - 1) by omega, hrow _ (by omega), vp_cell_i]
        show some ({ cls := cA 1, slots := Array.replicate z.toNatClampNeg (defaultValue .int), vm := .none } : Cell) = _
        rw [arrV_new]
        rfl
  · intro q hq
    rw [hold q (by omega)]
    exact hS.2.1 q hq
theorem ms_objI (C : mj_Cx D cA B p R s m args meth c b o rt nL mc ms d) : mr_objI b o rt mc ms (mj_X p l e R s m args below meth c Q D cA B nL mc ms) := by
  obtain ⟨hx, hb, hml, hown, hts, hK, hB, ⟨h1, h2, hmc, hms⟩, -⟩ := C
  intro pc lv st h uc us i a hd e1 e2 kk u1 u2 H locs ls hS hL
  have hw : Cond.methodLink (pg_cn o) i Lib.objectInit ∈ lw_tbl := pg_is_mem (pg_use (pg_kS o) e1)
  refine W.objInit hx hb hown (hts _ (pg_tb_of hw rfl)) (hts _ (pg_tb_of (pg_is_mem pg_w0) rfl)) (hts _ (pg_tb_of (pg_is_mem pg_u0) rfl)) rfl (by rw [hml]; exact hL.2.1) rfl hd (by omega) ?_ (kk u1 u2 H locs ls hS hL)
  show 2 * 0 + ((st.map (mj_v B)).map fun v => v.category).sum + 12 ≤ R.locals
  rw [mj_cats]
  have := Nat.le_of_ble_eq_true e2
  omega
theorem ms_max (C : mj_Cx D cA B p R s m args meth c b o rt nL mc ms d) : mr_max b o rt mc ms (mj_X p l e R s m args below meth c Q D cA B nL mc ms) := by
  obtain ⟨hx, hb, hml, hown, hts, hK, hB, ⟨h1, h2, hmc, hms⟩, -⟩ := C
  intro pc lv st h uc us i x z hd e1 e2 kk u1 u2 H locs ls hS hL
  have hw : Cond.methodLink (pg_cn o) i Lib.Math.max.name ∈ lw_tbl := pg_is_mem (pg_use (pg_kS o) e1)
  refine va_mmax hx hb (by rw [hml]; exact hL.2.1.symm) hown (hts _ (pg_tb_of hw rfl)) (hts _ (pg_tb_of (pg_is_mem pg_w1) rfl)) (hts _ (pg_tb_of (pg_is_mem pg_w5) rfl)) (hts _ (pg_tb_of (pg_is_mem pg_u1) rfl)) (by omega) ?_ (by omega) (by omega) hd (kk u1 u2 H locs ls hS hL)
  rw [mj_cats]
  have := Nat.le_of_ble_eq_true e2
  omega
theorem ms_min (C : mj_Cx D cA B p R s m args meth c b o rt nL mc ms d) : mr_min b o rt mc ms (mj_X p l e R s m args below meth c Q D cA B nL mc ms) := by
  obtain ⟨hx, hb, hml, hown, hts, hK, hB, ⟨h1, h2, hmc, hms⟩, -⟩ := C
  intro pc lv st h uc us i x z hd e1 e2 kk u1 u2 H locs ls hS hL
  have hw : Cond.methodLink (pg_cn o) i Lib.Math.min.name ∈ lw_tbl := pg_is_mem (pg_use (pg_kS o) e1)
  refine va_mmin hx hb (by rw [hml]; exact hL.2.1.symm) hown (hts _ (pg_tb_of hw rfl)) (hts _ (pg_tb_of (pg_is_mem pg_w2) rfl)) (hts _ (pg_tb_of (pg_is_mem pg_w5) rfl)) (hts _ (pg_tb_of (pg_is_mem pg_u2) rfl)) (by omega) ?_ (by omega) (by omega) hd (kk u1 u2 H locs ls hS hL)
  rw [mj_cats]
  have := Nat.le_of_ble_eq_true e2
  omega
theorem mj_copyW {cc : ByteArray} {H : Heap} {locs : List Loc} {cells slots pc : Nat} {ls : Array Slot} {rest : List Value} (hexec : p.tables.exec = Jvm.exec) (hb : c.code = cc) (hml : c.maxLocals = ls.size) {own : String} {index : Nat} (hown : s.vm.findClass own = some m.cls) (hlink : (Cond.methodLink own index arraycopyName).before args s = true) (hnat : (Cond.native arraycopyName).before args s = true) (hstat : (Cond.static arraycopyName).before args s = true) (hini : (Cond.initialized "java/lang/System").before args s = true)
    {a0 a : Nat} {cI : ClassId} {n0 n1 : Nat} {f g : Nat → Int32} (hAr : ArrOfT s cI .int) (hc0 : H[a0]? = some (vp_cell cI (n0, .inl f))) (hc1 : H[a]? = some (vp_cell cI (n1, .inl g)))
    {sp dp n : Int32} (h1 : ¬ sp < 0) (h2 : ¬ dp < 0) (h3 : ¬ n < 0) (h4 : sp.toNatClampNeg + n.toNatClampNeg ≤ n0) (h5 : dp.toNatClampNeg + n.toNatClampNeg ≤ n1)
    (hframes : 1 ≤ R.frames) (hlocals : (rest.map fun v => v.category).sum + (nativeFrameWords "java/lang/System" "arraycopy" 5 + 11) ≤ R.locals) (hdg : decode cc pc = .ok (.invokestatic index, 3))
    (kk : ∀ (H1 : Heap) (L : List Loc), H1.size = H.size → (∀ q : Nat, q ≠ a → H1[q]? = H[q]?) → H1[a]? = some (vp_cell cI (n1, .inl (va_cpy f g sp.toNatClampNeg dp.toNatClampNeg n.toNatClampNeg))) → (∀ q ∈ L, q.base = a) → W p l e R s m args below meth c H1 (locs ++ L) cells slots Q (F0 m (pc + 3) ls rest)) : W p l e R s m args below meth c H locs cells slots Q (F0 m pc ls (.int n :: .int dp :: .ref a :: .int sp :: .ref a0 :: rest)) := by
  have nn : ∀ z : Int32, ¬ z < 0 → z.toInt = (z.toNatClampNeg : Int) := by
    intro z hz
    have hz0 : (0 : Int) ≤ z.toInt := by
      have := Int32.not_lt.mp hz
      simpa using Int32.le_iff_toInt_le.mp this
    show z.toInt = ((z.toInt.toNat : Nat) : Int)
    omega
  intro T hT X
  obtain ⟨-, k0, hk0, cm0, hkk0⟩ := hAr n0 (fun j => .int (f j))
  obtain ⟨-, k1, hk1, cm1, hkk1⟩ := hAr n1 (fun j => .int (g j))
  obtain ⟨vm', X', step⟩ := X.arraycopy hexec hown hlink hnat hstat hini (src := a0) (dst := a) (cs := vp_cell cI (n0, .inl f)) (cd := vp_cell cI (n1, .inl g)) (srcPos := sp) (destPos := dp) (n := n) (by rw [hT]; exact hc0) (by rw [hT]; exact hc1)
    (fun _ h => by cases h) (fun _ h => by cases h) (fun h => by cases h) (fun h => by cases h) hk0 hk1 hkk0 hkk1 (by simp [refKind]) h1 h2 h3
    (by rw [nn sp h1, nn n h3]; show ¬ _ > ((arrV cI n0 (fun j => .int (f j))).slots.size : Int); rw [arrV_size]; omega)
    (by rw [nn dp h2, nn n h3]; show ¬ _ > ((arrV cI n1 (fun j => .int (g j))).slots.size : Int); rw [arrV_size]; omega)
    (fun vm₁ _ i hi => by
      have e : (vp_cell cI (n0, .inl f)).slots.getD (sp.toNatClampNeg + i) .null = .int (f (sp.toNatClampNeg + i)) := by
        show (arrV cI n0 (fun j => .int (f j))).slots.getD _ _ = _
        rw [Array.getD_eq_getD_getElem?, arrV_read _ _ (by omega)]
        rfl
      refine ⟨?_, ?_⟩
      · rw [e]
        rfl
      · rw [e]
        exact trivial)
    (g := F0 m pc ls (.int n :: .int dp :: .ref a :: .int sp :: .ref a0 :: rest)) rfl (by rw [hml]) (rest := rest) rfl (by rw [hb]; exact hdg) hframes (by show 2 * 0 + _ + _ ≤ _; omega)
  have e1 : copied (vp_cell cI (n0, .inl f)) (vp_cell cI (n1, .inl g)) sp dp n = vp_cell cI (n1, .inl (va_cpy f g sp.toNatClampNeg dp.toNatClampNeg n.toNatClampNeg)) := va_copied (fun z => .int z) cI cI f g h4
  rw [e1] at X' step
  have hl : a < H.size := (Array.getElem?_eq_some_iff.mp hc1).1
  have hheap : ((T.setVm vm').setCell a (vp_cell cI (n1, .inl (va_cpy f g sp.toNatClampNeg dp.toNatClampNeg n.toNatClampNeg)))).heap = H.setIfInBounds a (vp_cell cI (n1, .inl (va_cpy f g sp.toNatClampNeg dp.toNatClampNeg n.toNatClampNeg))) := by rw [← hT]; rfl
  obtain ⟨t, a1, b1⟩ := kk _ _ (by simp) (fun q hq => by simp [Array.getElem?_setIfInBounds, Ne.symm hq]) (by simp [Array.getElem?_setIfInBounds, hl]) (fun q hq => by
      obtain ⟨z, -, hz⟩ := List.mem_map.mp hq
      rw [← hz]) _ hheap X'
  exact ⟨t, step t a1, b1⟩
theorem ms_copy (C : mj_Cx D cA B p R s m args meth c b o rt nL mc ms d) : mr_copy b o rt mc ms (mj_X p l e R s m args below meth c Q D cA B nL mc ms) := by
  obtain ⟨hx, hb, hml, hown, hts, hK, hB, ⟨g1, g2, hmc, hms⟩, -⟩ := C
  intro pc lv st h uc us i a0 a1 n0 n1 sp dp n hd e1 ha0 ha1 e2 e3 e4 e5 e6 e7 kk u1 u2 H locs ls hS hL
  have hw : Cond.methodLink (pg_cn o) i arraycopyName ∈ lw_tbl := pg_is_mem (pg_use (pg_kS o) e1)
  refine mj_copyW hx hb (by rw [hml]; exact hL.2.1.symm) hown (hts _ (pg_tb_of hw rfl)) (hts _ (pg_tb_of (pg_is_mem pg_w4) rfl)) (hts _ (pg_tb_of (pg_is_mem pg_w3) rfl)) (hts _ (pg_tb_of (pg_is_mem pg_w6) rfl)) (hK.2 0 _ rfl).1 (hS.ints ha0) (hS.ints ha1) e2 e3 e4 e5 e6 (by omega) ?_ hd (fun H1 L z oq he hLL => ?_)
  · rw [mj_cats]
    have := Nat.le_of_ble_eq_true e7
    have h9 : nativeFrameWords "java/lang/System" "arraycopy" 5 = 7 := by decide +kernel
    omega
  · refine kk u1 u2 H1 _ ls (hS.put rfl ha1.1 z oq ?_ (fun q hq => mj_E_off (va_up_ne _ _ hq) rfl) (fun q hq => ?_)) hL
    · rw [mj_E1 (h := (h.1, h.2.1, va_up h.2.2.1 a1 (va_cpy (h.2.2.1 a0) (h.2.2.1 a1) sp.toNatClampNeg dp.toNatClampNeg n.toNatClampNeg), h.2.2.2)) ha1.2]
      dsimp only
      rw [va_up_self]
      exact he
    · rw [hLL q hq]
      exact Nat.le_add_right _ _
end mj_sim4
end
section
theorem mj_over_moved {u U : State} (hvm : u.vm.Alike U.vm) (h : va_Nw (.arrayOver (.array .int)) u) : va_Nw (.arrayOver (.array .int)) U := by
  obtain ⟨comp, c, k, h1, h2, h3, h4, h5⟩ := arrayOverA_spec h
  obtain ⟨k', hk', he⟩ := hvm.2.2 _ _ h3
  have hi : (U.vm.classes.findIdx? fun (x : Class) => match x.kind with | .array component _ => component == comp | _ => false) = some c := by
    rw [hvm.findIdx?_eq _ (fun _ => rfl)]
    exact h2
  have hkind : k'.kind = .array comp (.array .int) := by rw [he]; exact h4
  have f1 : U.vm.findClass (FieldType.array .int).toString = some comp := by rw [hvm.findClass]; exact h1
  have f2 : U.vm.findClass ("[" ++ (FieldType.array .int).toString) = some c := by rw [hvm.findClass]; exact h5
  unfold va_Nw Cond.before Cond.holds
  simp only [Cond.value]
  rw [f1, Option.bind_some]
  refine (congrArg (fun o : Option Nat => (o.bind (fun c => (U.vm.classes[c]?).map fun (k : Class) => match k.kind with | .array _ ty => decide (ty = FieldType.array .int) && decide (U.vm.findClass ("[" ++ (FieldType.array .int).toString) = some c) | _ => false) == some true)) hi).trans ?_
  simp [hk', hkind, f2]
theorem mj_Ex.warm {s U : State} (hW : s.WarmedH U.vm) (h : mj_Ex s) : mj_Ex U := ⟨fun own i y host hm => va_Nw.warmM hW (h.1 own i y host hm), mj_over_moved hW.alike h.2⟩
theorem mj_Ex.same {s U : State} (hvm : s.vm = U.vm) (h : mj_Ex s) : mj_Ex U := ⟨fun own i y host hm => va_Nw.same rfl hvm (h.1 own i y host hm), mj_over_moved (by rw [hvm]; exact Vm.Alike.refl U.vm) h.2⟩
def pg_ws (y : Nat) : List Cond := Cond.code (pg_name y) (pg_code y) (pg_maxL y) (pg_ret y) :: pg_tb
def pg_rm (d y : Nat) : Room := { frames := d, cells := pg_mc y, slots := pg_ms y, locals := 40 * d }
def mj_Pc (D : va_G) (cA : Nat → ClassId) (B : Nat) (as : List mj_V) (h : mj_H) : Array Value → State → Prop := va_Pc (as.map (mj_v B)) (fun U => mj_S0 D cA B h U.heap ∧ va_K D pg_cl (mj_ty cA) U ∧ mj_Ex U)
def mj_Qc (D : va_G) (cA : Nat → ClassId) (B : Nat) (post : Option mj_V → mj_H → Prop) : Array Value → State → Outcome → State → Prop := fun _ st oc t => ∃ (r : Option mj_V) (h2 : mj_H), oc = .returned (r.map (mj_v B)) ∧ post r h2 ∧ mj_S0 D cA B h2 t.heap ∧ ∀ q, q < B → t.heap[q]? = st.heap[q]?
def mj_Met (l : Launch) (D : va_G) (cA : Nat → ClassId) (B d y : Nat) (as : List mj_V) (h : mj_H) (post : Option mj_V → mj_H → Prop) : Prop := Met l (pg_name y) (pg_ws y) (pg_rm d y) (mj_Pc D cA B as h) (mj_Qc D cA B post) (pg_mc y) (pg_ms y) (fun q => B ≤ q)
theorem mj_blind {D : va_G} {cA : Nat → ClassId} {B : Nat} {as : List mj_V} {h : mj_H} : FrameBlind (mj_Pc D cA B as h) := fun a U g mk q => by
  obtain ⟨q0, q1, q2, q3⟩ := q
  exact ⟨q0, q1, va_K.moved (u := U) (U := U.calling g mk a) (Vm.Alike.refl U.vm) q2, mj_Ex.same (s := U) (U := U.calling g mk a) rfl q3⟩
theorem mj_codeIn {z : Nat} (h : z < 142) : Cond.code (pg_name z) (pg_code z) (pg_maxL z) (pg_ret z) ∈ pg_tb := pg_tb_of (List.mem_of_getElem? (pg_kC z h)) rfl
theorem mj_good {z : Nat} (h : z < 142) : GoodIn pg_tb (pg_ws z) := fun w hw => by
  rcases List.mem_cons.mp hw with rfl | hw
  · exact ⟨mj_codeIn h, pg_tb_good (mj_codeIn h)⟩
  · exact ⟨hw, pg_tb_good hw⟩
theorem mj_zok {z : Nat} (h : z < 142) : Cond.initialized (pg_name z).cls ∈ pg_tb ∧ (pg_name z).cls = pg_cn (pg_own z) ∧ (pg_kd z = 0 → Cond.static (pg_name z) ∈ pg_tb) ∧ (pg_kd z ≠ 0 → Cond.instanceMethod (pg_name z) ∈ pg_tb) ∧ (pg_kd z ≠ 0 → pg_kd z ≠ 2 → Cond.selects (pg_cn (pg_own z)) (pg_name z) (pg_name z) ∈ pg_tb) := by
  have h1 := pg_kZ h
  unfold pg_kZb at h1
  rw [Bool.and_eq_true, Bool.and_eq_true] at h1
  obtain ⟨h2, h3, h4⟩ := h1
  refine ⟨pg_tb_of (pg_is_mem h2) rfl, of_decide_eq_true h3, fun k => ?_, fun k => ?_, fun k k2 => ?_⟩
  · rw [if_pos k] at h4
    exact pg_tb_of (pg_is_mem h4) rfl
  · rw [if_neg k, Bool.and_eq_true] at h4
    exact pg_tb_of (pg_is_mem h4.1) rfl
  · rw [if_neg k, Bool.and_eq_true, Bool.or_eq_true] at h4
    rcases h4.2 with g | g
    · exact absurd (of_decide_eq_true g) k2
    · exact pg_tb_of (pg_is_mem g) rfl
theorem mj_dok {z : Nat} (h : z < 142) : (parseMethodDescriptor (pg_name z).desc).map (fun d => d.parameters.length) = some (if pg_kd z = 0 then pg_na z else pg_na z - 1) ∧ (0 < pg_na z ∨ pg_kd z = 0) ∧ pg_na z ≤ pg_maxL z ∧ pg_maxL z ≤ 21 := by
  have h1 := pg_kD h
  unfold pg_kDb at h1
  simp only [Bool.and_eq_true, decide_eq_true_eq] at h1
  exact h1
theorem mj_pok {z : Nat} (h : z < 142) : plainFor (pg_name z) = true ∧ (pg_kd z = 2 → pg_rt z = 9 ∧ (pg_name z).name = "<init>" ∧ pg_na z = 1) ∧ (pg_rt z = 9 → (pg_name z).name = "<init>") := by
  have h1 := pg_kP h
  unfold pg_kPb at h1
  simp only [Bool.and_eq_true, decide_eq_true_eq] at h1
  exact h1
theorem mj_notMH : ∀ o, pg_cn o ≠ "java/lang/invoke/MethodHandle" ∧ pg_cn o ≠ "java/lang/invoke/VarHandle" := by
  intro o
  by_cases h : o < 13
  · have : ∀ z, z < 13 → pg_cn z ≠ "java/lang/invoke/MethodHandle" ∧ pg_cn z ≠ "java/lang/invoke/VarHandle" := by decide +kernel
    exact this o h
  · have e : pg_cn o = "" := by
      unfold pg_cn
      rw [List.getD_eq_getElem?_getD, List.getElem?_eq_none (by show 13 ≤ o; omega)]
      rfl
    rw [e]
    decide +kernel
section mj_sim5
variable {p : Program} {l : Launch} {e : Env} {R : Room} {s : State} {m : MethodId} {args : Array Value} {below : List Frame} {meth : Method} {c : Code} {Q : State → Prop} {D : va_G} {cA : Nat → ClassId} {B nL mc ms d : Nat} {b : ByteArray} {o rt : Nat}
theorem mj_goW {H : Heap} {locs : List Loc} {cells slots mz sz pc : Nat} {ls : Array Slot} {st0 rest : List Value} {post : Option mj_V → mj_H → Prop} {a : Array Value} {h : mj_H} (hr : va_Run p l e R s m args below meth c H locs cells slots mz sz (F0 m pc ls st0) rest (mj_Qc D cA B post a) (fun q => B ≤ q)) (hS : mj_S D cA B s.heap h H locs)
    (kk : ∀ (r : Option mj_V) (h2 : mj_H) (H1 : Heap) (locs1 : List Loc), post r h2 → mj_S D cA B s.heap h2 H1 locs1 → W p l e R s m args below meth c H1 locs1 (cells + mz) (slots + sz) Q (F0 m (pc + 3) ls ((r.map (mj_v B)).toList ++ rest))) : W p l e R s m args below meth c H locs cells slots Q (F0 m pc ls st0) := by
  intro T hT X
  obtain ⟨v, st₀, t, T', L, h0, X', hL, e1, e2, ⟨r, h2, hv, hp, hS1, hq⟩, st⟩ := hr T hT X
  cases hv
  rw [h0] at hq
  obtain ⟨t2, a1, b1⟩ := kk r h2 T'.heap (locs ++ L) hp ⟨by rw [e1]; exact hS1, fun q h9 => by rw [e1, hq q h9]; exact hS.2.1 q h9, fun x hx => by
    rcases List.mem_append.mp hx with g | g
    · exact hS.2.2 x g
    · exact hL x g⟩ T' rfl X'
  exact ⟨t2, st t2 a1, b1⟩
theorem mj_X_ret {pc uc us : Nat} {lv : mj_L} {st : List mj_V} {r : Option mj_V} {h2 : mj_H} {H1 : Heap} {locs1 : List Loc} {ls : Array Slot} (h : mj_X p l e R s m args below meth c Q D cA B nL mc ms pc lv (r.toList ++ st) h2 uc us) (u1 : uc ≤ mc) (u2 : us ≤ ms) (hS : mj_S D cA B s.heap h2 H1 locs1) (hL : mj_LS B ls nL lv) : W p l e R s m args below meth c H1 locs1 uc us Q (F0 m pc ls ((r.map (mj_v B)).toList ++ st.map (mj_v B))) := by
  have := h u1 u2 H1 locs1 ls hS hL
  cases r <;> exact this
theorem mj_callB {own : String} {index z : Nat} (hts : ∀ w ∈ pg_tb, w.before args s = true) (hz : z < 142) (hR : d + 1 ≤ R.frames ∧ 40 * (d + 1) ≤ R.locals) (hl : (Cond.methodLink own index (pg_name z)).before args s = true) : CallB R s args own index (pg_name z) (pg_code z) (pg_maxL z) (pg_ret z) (pg_ws z) (pg_rm d z) (pg_mc z) (pg_ms z) (if pg_kd z = 0 then pg_na z else pg_na z - 1) := by
  have hd := mj_dok hz
  have ho := mj_zok hz
  refine callB_of _ hts (mj_good hz) rfl rfl rfl (hts _ ho.1) hl ⟨by rw [ho.2.1]; exact (mj_notMH _).1, by rw [ho.2.1]; exact (mj_notMH _).2, hd.1⟩ ⟨hR.1, ?_⟩
  show 8 + (pg_maxL z + 11) + 40 * d ≤ R.locals
  omega
theorem ms_callS (C : mj_Cx D cA B p R s m args meth c b o rt nL mc ms d) (ih : ∀ (z : Nat) (as : List mj_V) (h : mj_H) (post : Option mj_V → mj_H → Prop), z < 142 → as.length = pg_na z → mj_ct as = pg_na z → mj_lv d z as h post → mj_Met l D cA B d z as h post) : mr_callS (mj_lv d) b o mc ms (mj_X p l e R s m args below meth c Q D cA B nL mc ms) := by
  obtain ⟨hx, hb, hml, hown, hts, hK, hB, ⟨g1, g2, hmc, hms⟩, hE, -⟩ := C
  intro pc lv st h uc us i z as hd e1 e2 e3 e4 e5 e6 hcall u1 u2 H locs ls hS hL
  have f0 := pg_use (pg_kM o) e1
  simp only [Bool.and_eq_true, decide_eq_true_eq] at f0
  have hz : z < 142 := f0.1
  have f1 := f0.2
  rw [if_neg (by rw [e2]; decide)] at f1
  have hw : Cond.methodLink (pg_cn o) i (pg_name z) ∈ lw_tbl := pg_is_mem f1
  have hM := ih z as h _ hz e3.1 e3.2 hcall
  have cb := mj_callB (d := d) (R := R) (own := pg_cn o) (index := i) hts hz ⟨g1, g2⟩ (hts _ (pg_tb_of hw rfl))
  rw [if_pos e2] at cb
  have hW : 2 * (F0 m pc ls ((as.reverse ++ st).map (mj_v B))).monitorRoom + ((st.map (mj_v B)).map fun v => v.category).sum ≤ 8 := by
    rw [mj_cats]
    have := Nat.le_of_ble_eq_true e4
    show 2 * 0 + _ ≤ 8
    omega
  exact mj_goW (va_runS (As := as.map (mj_v B)) (rest := st.map (mj_v B)) (nL := nL) ⟨hx, hb, hml, hown, hts⟩ hM ⟨cb, hts _ ((mj_zok hz).2.2.1 e2)⟩ ⟨mj_blind, fun U hU hW => ⟨rfl, by rw [hU]; exact hS.1, va_K.moved hW.alike hK, hE.warm hW⟩⟩ rfl (by rw [List.length_map]; exact e3.1) hL.2.1 (by show (as.reverse ++ st).map (mj_v B) = _; rw [List.map_append, List.map_reverse]) hW hd ⟨by omega, by omega⟩) hS (fun r h2 H1 locs1 hp hS1 => mj_X_ret hp e5 e6 hS1 hL)
theorem ms_callV (C : mj_Cx D cA B p R s m args meth c b o rt nL mc ms d) (ih : ∀ (z : Nat) (as : List mj_V) (h : mj_H) (post : Option mj_V → mj_H → Prop), z < 142 → as.length = pg_na z → mj_ct as = pg_na z → mj_lv d z as h post → mj_Met l D cA B d z as h post) : mr_callV (mj_lv d) b o mc ms (mj_X p l e R s m args below meth c Q D cA B nL mc ms) := by
  obtain ⟨hx, hb, hml, hown, hts, hK, hB, ⟨g1, g2, hmc, hms⟩, hE, -⟩ := C
  intro pc lv st h uc us i z as hd e1 e2 e3 e4 e5 e6 hh hcall u1 u2 H locs ls hS hL
  have f0 := pg_use (pg_kM o) e1
  simp only [Bool.and_eq_true, decide_eq_true_eq] at f0
  have hz : z < 142 := f0.1
  have f1 := f0.2
  rw [if_neg (by rw [e2]; decide)] at f1
  have hw : Cond.methodLink (pg_cn o) i (pg_name z) ∈ lw_tbl := pg_is_mem f1
  have hM := ih z as h _ hz e3.1 e3.2 hcall
  have cb := mj_callB (d := d) (R := R) (own := pg_cn o) (index := i) hts hz ⟨g1, g2⟩ (hts _ (pg_tb_of hw rfl))
  rw [if_neg (by rw [e2]; decide)] at cb
  obtain ⟨a, ha, ha2⟩ := hh
  obtain ⟨w, as2⟩ : ∃ as2, as = .inr (.inl (some a)) :: as2 := by
    cases as with
    | nil => simp at ha
    | cons x y => simp at ha; exact ⟨y, by rw [ha]⟩
  subst as2
  have hci : pg_own z < 10 := by
    rcases Nat.lt_or_ge (pg_own z) 10 with q | q
    · exact q
    · exfalso
      have hS0 := hS.obj ha2
      obtain ⟨r, hr, -⟩ := hS0
      rw [List.getElem?_eq_none (by show 10 ≤ pg_own z; exact q)] at hr
      cases hr
  have hcn : pg_C (pg_own z) = pg_cn (pg_own z) := by
    have : ∀ z, z < 10 → pg_C z = pg_cn z := by decide +kernel
    exact this _ hci
  have hrec := va_recv hK (mj_one (hS.obj ha2)) (mj_clok _ hci).1 (q0 := 0) rfl
  rw [show (pg_C (pg_own z), pg_T (pg_own z), pg_nf (pg_own z)).1 = pg_cn (pg_own z) from hcn] at hrec
  have hW : 2 * (F0 m pc ls (((.inr (.inl (some a)) :: w).reverse ++ st).map (mj_v B))).monitorRoom + ((st.map (mj_v B)).map fun v => v.category).sum ≤ 8 := by
    rw [mj_cats]
    have := Nat.le_of_ble_eq_true e4
    show 2 * 0 + _ ≤ 8
    omega
  have hk : pg_kd z ≠ 0 := by rw [e2]; decide
  have hk2 : pg_kd z ≠ 2 := by rw [e2]; decide
  exact mj_goW (va_runV (C := pg_cn (pg_own z)) (b := B + a) (As := w.map (mj_v B)) (rest := st.map (mj_v B)) (nL := nL) ⟨hx, hb, hml, hown, hts⟩ hM ⟨cb, hts _ ((mj_zok hz).2.2.2.1 hk), hts _ ((mj_zok hz).2.2.2.2 hk hk2)⟩ ⟨mj_blind, hrec, fun U hU hW => ⟨rfl, by rw [hU]; exact hS.1, va_K.moved hW.alike hK, hE.warm hW⟩⟩ rfl (by rw [List.length_map]; have := e3.1; simp at this; omega) hL.2.1 (by show ((.inr (.inl (some a)) :: w).reverse ++ st).map (mj_v B) = _; rw [List.map_append, List.map_reverse, List.map_cons, List.reverse_cons, List.append_assoc]; rfl) hW hd ⟨by omega, by omega⟩) hS (fun r h2 H1 locs1 hp hS1 => mj_X_ret hp e5 e6 hS1 hL)
theorem ms_callI (C : mj_Cx D cA B p R s m args meth c b o rt nL mc ms d) (ho : o ≠ 10) (ih : ∀ (z : Nat) (as : List mj_V) (h : mj_H) (post : Option mj_V → mj_H → Prop), z < 142 → as.length = pg_na z → mj_ct as = pg_na z → mj_lv d z as h post → mj_Met l D cA B d z as h post) : mr_callI (mj_lv d) b o mc ms (mj_X p l e R s m args below meth c Q D cA B nL mc ms) := by
  obtain ⟨hx, hb, hml, hown, hts, hK, hB, ⟨g1, g2, hmc, hms⟩, hE, -⟩ := C
  intro pc lv st h uc us i z as hd e1 e2 e3 e4 e5 e6 hh hcall u1 u2 H locs ls hS hL
  have f0 := pg_use (pg_kM o) e1
  simp only [Bool.and_eq_true, decide_eq_true_eq] at f0
  have hz : z < 142 := f0.1
  have f1 := f0.2
  rw [if_pos e2, Bool.or_eq_true] at f1
  have hw : Cond.methodLinkNest (pg_cn o) i (pg_name z) "LayerDrawing" ∈ lw_tbl := by
    rcases f1 with q | q
    · exact absurd (of_decide_eq_true q) ho
    · exact pg_is_mem q
  have hM := ih z as h _ hz e3.1 e3.2 hcall
  obtain ⟨a, ha⟩ := hh
  obtain ⟨w, as2⟩ : ∃ as2, as = .inr (.inl (some a)) :: as2 := by
    cases as with
    | nil => simp at ha
    | cons x y => simp at ha; exact ⟨y, by rw [ha]⟩
  subst as2
  have hp := (mj_pok hz).2.1 e2
  have hd9 := mj_dok hz
  have ho9 := mj_zok hz
  have hret : pg_ret z = none := by unfold pg_ret; rw [hp.1]; rfl
  have cb : va_CN R s args (pg_cn o) i (pg_name z) "LayerDrawing" (pg_code z) (pg_maxL z) none (pg_ws z) (pg_rm d z) (pg_mc z) (pg_ms z) (pg_na z - 1) := by
    refine va_cnB (ret := none) (pg_na z - 1) hts (mj_good hz) (by unfold pg_ws; rw [hret]) rfl rfl (hE.1 _ _ _ _ hw) (hts _ ho9.1) ⟨by rw [ho9.2.1]; exact (mj_notMH _).1, by rw [ho9.2.1]; exact (mj_notMH _).2, by rw [hd9.1, if_neg (by rw [e2]; decide)]⟩ ⟨g1, ?_⟩
    show 8 + (pg_maxL z + 11) + 40 * d ≤ R.locals
    omega
  have hW : 2 * (F0 m pc ls (((.inr (.inl (some a)) :: w).reverse ++ st).map (mj_v B))).monitorRoom + ((st.map (mj_v B)).map fun v => v.category).sum ≤ 8 := by
    rw [mj_cats]
    have := Nat.le_of_ble_eq_true e4
    show 2 * 0 + _ ≤ 8
    omega
  have hk : pg_kd z ≠ 0 := by rw [e2]; decide
  exact mj_goW (va_runIN (b := B + a) (As := w.map (mj_v B)) (rest := st.map (mj_v B)) (nL := nL) ⟨hx, hb, hml, hown, hts⟩ hM ⟨cb, hp.2.1, hts _ (ho9.2.2.2.1 hk)⟩ ⟨mj_blind, fun U hU hW => ⟨rfl, by rw [hU]; exact hS.1, va_K.moved hW.alike hK, hE.warm hW⟩⟩ rfl (by rw [List.length_map]; have := e3.1; simp at this; omega) hL.2.1 (by show ((.inr (.inl (some a)) :: w).reverse ++ st).map (mj_v B) = _; rw [List.map_append, List.map_reverse, List.map_cons, List.reverse_cons, List.append_assoc]; rfl) hW hd ⟨by omega, by omega⟩) hS (fun r h2 H1 locs1 hp hS1 => mj_X_ret hp e5 e6 hS1 hL)
end mj_sim5
end
section
theorem mj_ct_ge : ∀ as : List mj_V, as.length ≤ mj_ct as
  | [] => Nat.le_refl _
  | v :: as => by
    have h1 := mj_ct_ge as
    have h2 : 1 ≤ mj_ca v := by rcases v with i | (_ | r) | w <;> simp [mj_ca]
    show as.length + 1 ≤ mj_ca v + mj_ct as
    omega
theorem mj_ct_one : ∀ {as : List mj_V}, mj_ct as = as.length → ∀ v ∈ as, mj_ca v = 1
  | [], _, v, hv => by simp at hv
  | x :: as, h, v, hv => by
    have h1 := mj_ct_ge as
    have h2 : 1 ≤ mj_ca x := by rcases x with i | (_ | r) | w <;> simp [mj_ca]
    have h3 : mj_ca x + mj_ct as = as.length + 1 := h
    rcases List.mem_cons.mp hv with rfl | hv
    · omega
    · exact mj_ct_one (by omega) v hv
theorem mj_sl {B : Nat} : ∀ {as : List mj_V}, (∀ v ∈ as, mj_ca v = 1) → lg_sl (as.map (mj_v B)) = as.map (fun v => Slot.val (mj_v B v))
  | [], _ => rfl
  | x :: as, h => by
    have ih := mj_sl (B := B) (as := as) (fun v hv => h v (List.mem_cons_of_mem _ hv))
    have hc := mj_cat (B := B) (h x List.mem_cons_self)
    unfold lg_sl at ih ⊢
    rw [List.map_cons, List.flatMap_cons, ih, if_neg (by omega), List.map_cons]
    rfl
theorem mj_args {B : Nat} : ∀ {as : List mj_V} (i : Nat), (∀ v ∈ as, mj_ca v = 1) → ∀ (k : Nat) (v : mj_V), as[k]? = some v → (i + k, mj_v B v) ∈ lv_args i (as.map (mj_v B))
  | [], _, _, k, v, hk => by simp at hk
  | x :: as, i, h, k, v, hk => by
    have hc := mj_cat (B := B) (h x List.mem_cons_self)
    show _ ∈ (i, mj_v B x) :: lv_args (if (mj_v B x).category = 2 then i + 2 else i + 1) (as.map (mj_v B))
    rw [if_neg (by omega)]
    cases k with
    | zero =>
      simp at hk
      subst hk
      exact List.mem_cons_self
    | succ k =>
      have ih := mj_args (B := B) (as := as) (i + 1) (fun v hv => h v (List.mem_cons_of_mem _ hv)) k v (by simpa using hk)
      rw [show i + (k + 1) = i + 1 + k by omega]
      exact List.mem_cons_of_mem _ ih
theorem mj_entry_LS {B : Nat} {as : List mj_V} {n : Nat} (h : mj_ct as = as.length) (hn : as.length ≤ n) : mj_LS B ((lg_sl (as.map (mj_v B)) ++ List.replicate (n - (lg_sl (as.map (mj_v B))).length) Slot.unset).toArray) n (mj_entry n as) := by
  have h1 := mj_ct_one h
  have hl := lv_entry (as.map (mj_v B)) (n := n) (by rw [mj_sl h1, List.length_map]; exact hn)
  refine ⟨by simp [mj_entry]; omega, hl.1, hl.2.1, ?_⟩
  rintro ⟨j, w⟩ hq
  obtain ⟨v, e, rfl⟩ := mj_pr_mem.mp hq
  refine hl.2.2 _ ?_
  have hj : j < as.length := by
    rcases Nat.lt_or_ge j as.length with q | q
    · exact q
    · exfalso
      unfold mj_entry at e
      rw [List.getElem?_append_right (by simpa using q)] at e
      rw [List.getElem?_replicate] at e
      split at e <;> cases e
  have e2 : as[j]? = some v := by
    unfold mj_entry at e
    rw [List.getElem?_append_left (by simpa using hj), List.getElem?_map] at e
    cases h9 : as[j]? with
    | none => rw [h9] at e; cases e
    | some x => rw [h9] at e; cases e; rfl
  have := mj_args (B := B) (as := as) 0 h1 j v e2
  rwa [Nat.zero_add] at this
section mj_sim6
variable {p : Program} {l : Launch} {e : Env} {R : Room} {s : State} {m : MethodId} {args : Array Value} {below : List Frame} {meth : Method} {c : Code} {Q : State → Prop} {D : va_G} {cA : Nat → ClassId} {B nL mc ms d : Nat} {b : ByteArray} {o rt : Nat}
theorem ms_reti (C : mj_Cx D cA B p R s m args meth c b o rt nL mc ms d) (hr : meth.sig.returnType = if rt = 1 then some .int else if rt = 2 then some .boolean else none) (hlocks : meth.locks = false) {post : Option mj_V → mj_H → Prop} : mr_reti b rt post (mj_X p l e R s m args below meth c (MQ below (mj_Qc D cA B post) args s mc ms (fun q => B ≤ q)) D cA B nL mc ms) := by
  obtain ⟨hx, hb, -⟩ := C
  intro pc lv h uc us x hd e1 hp u1 u2 H locs ls hS hL
  refine W.widen u1 u2 ?_
  rcases e1 with rfl | ⟨rfl, e2⟩
  · exact W.iret hx hb hr (fun t ht hW => ⟨some (.inl x), h, rfl, hp, by rw [ht]; exact hS.1, fun q hq => by rw [ht]; exact hS.2.1 q hq⟩) hS.2.2 hd hlocks
  · exact W.zret hx hb hr e2 (fun t ht hW => ⟨some (.inl x), h, rfl, hp, by rw [ht]; exact hS.1, fun q hq => by rw [ht]; exact hS.2.1 q hq⟩) hS.2.2 hd hlocks
theorem ms_retv (C : mj_Cx D cA B p R s m args meth c b o rt nL mc ms d) (hr : meth.sig.returnType = if rt = 1 then some .int else if rt = 2 then some .boolean else none) (hlocks : meth.locks = false) {post : Option mj_V → mj_H → Prop} : mr_retv b rt post (mj_X p l e R s m args below meth c (MQ below (mj_Qc D cA B post) args s mc ms (fun q => B ≤ q)) D cA B nL mc ms) := by
  obtain ⟨hx, hb, -⟩ := C
  intro pc lv h uc us hd e1 hp u1 u2 H locs ls hS hL
  refine W.widen u1 u2 ?_
  rcases e1 with rfl | rfl
  · exact W.vret hx hb hr (fun t ht hW => ⟨none, h, rfl, hp, by rw [ht]; exact hS.1, fun q hq => by rw [ht]; exact hS.2.1 q hq⟩) hS.2.2 hd hlocks
  · exact W.vret hx hb hr (fun t ht hW => ⟨none, h, rfl, hp, by rw [ht]; exact hS.1, fun q hq => by rw [ht]; exact hS.2.1 q hq⟩) hS.2.2 hd hlocks
theorem mj_simR (C : mj_Cx D cA B p R s m args meth c b o rt nL mc ms d) : ∀ k, mj_rule k b o rt mc ms (mj_X p l e R s m args below meth c Q D cA B nL mc ms)
  | 0 => ms_iconst C
  | 1 => ms_bipush C
  | 2 => ms_sipush C
  | 3 => ms_iadd C
  | 4 => ms_isub C
  | 5 => ms_imul C
  | 6 => ms_iand C
  | 7 => ms_ior C
  | 8 => ms_ixor C
  | 9 => ms_ishl C
  | 10 => ms_ishr C
  | 11 => ms_iushr C
  | 12 => ms_idiv C
  | 13 => ms_irem C
  | 14 => ms_ineg C
  | 15 => ms_dup C
  | 16 => ms_pop C
  | 17 => ms_dup2 C
  | 18 => ms_dup_x1 C
  | 19 => ms_lconst C
  | 20 => ms_lmul C
  | 21 => ms_lcmp C
  | 22 => ms_i2l C
  | 23 => ms_icmp_eq C
  | 24 => ms_icmp_ne C
  | 25 => ms_icmp_lt C
  | 26 => ms_icmp_ge C
  | 27 => ms_icmp_gt C
  | 28 => ms_icmp_le C
  | 29 => ms_if_eq C
  | 30 => ms_if_ne C
  | 31 => ms_if_lt C
  | 32 => ms_if_ge C
  | 33 => ms_if_gt C
  | 34 => ms_if_le C
  | 35 => ms_goto C
  | 36 => ms_iload C
  | 37 => ms_iload_n C
  | 38 => ms_aload C
  | 39 => ms_aload_n C
  | 40 => ms_istore C
  | 41 => ms_istore_n C
  | 42 => ms_astore C
  | 43 => ms_astore_n C
  | 44 => ms_iinc C
  | 45 => ms_lload_n C
  | 46 => ms_lstore_n C
  | 47 => ms_ldc2 C
  | 48 => ms_ldc C
  | 49 => ms_getI C
  | 50 => ms_getR C
  | 51 => ms_putI C
  | 52 => ms_putF C
  | 53 => ms_iald C
  | 54 => ms_zald C
  | 55 => ms_iast C
  | 56 => ms_zast C
  | 57 => ms_aald C
  | 58 => ms_alen C
  | 59 => ms_new C
  | 60 => ms_newi C
  | 61 => ms_newz C
  | 62 => ms_newm C
  | 63 => ms_objI C
  | 64 => ms_max C
  | 65 => ms_min C
  | 66 => ms_copy C
  | _ + 67 => trivial
end mj_sim6
theorem mj_own10 : ∀ y, y < 142 → pg_own y ≠ 10 := by decide +kernel
/-- THE REAL MACHINE DOES WHAT THE SMALL ONE DOES: a run of the small machine is a contract -/
theorem mj_met (l : Launch) (D : va_G) (cA : Nat → ClassId) (B : Nat) : ∀ (d y : Nat) (as : List mj_V) (h : mj_H) (post : Option mj_V → mj_H → Prop), y < 142 → as.length = pg_na y → mj_ct as = pg_na y → mj_lv d y as h post → mj_Met l D cA B d y as h post
  | 0, _, _, _, _, _, _, _, hw => hw.elim
  | d + 1, y, as, h, post, hy, h1, h2, hw => by
    have ih := fun z as h post => mj_met l D cA B d z as h post
    unfold mj_Met
    refine va_MetF (cc := pg_code y) (maxL := pg_maxL y) (ret := pg_ret y) (mj_pok hy).1 rfl ?_
    intro p e s m args below meth c s₁ B9 hml hv
    obtain ⟨hargs, hS0, hK, hE⟩ := hv
    subst hargs
    have hts := atoms_spec (ws := pg_ws y) B9.pre
    have hown : s.vm.findClass (pg_name y).cls = some m.cls := findClass_of_methodNamed B9.named
    rw [(mj_zok hy).2.1] at hown
    have hin : pg_rt y = 9 → meth.name = "<init>" := fun q => ((name_of_methodNamed B9.named B9.method).1).trans ((mj_pok hy).2.2 q)
    have C : mj_Cx D cA B p (headSpec (pg_ws y) (pg_rm (d + 1) y)).room s m (as.map (mj_v B)).toArray meth c (pg_code y) (pg_own y) (pg_rt y) (pg_maxL y) (pg_mc y) (pg_ms y) d := ⟨B9.exec, B9.bytes, hml, hown, fun w h => hts w (List.mem_cons_of_mem _ h), hK, by rw [hS0.1]; exact Nat.le_add_right _ _, ⟨Nat.le_refl _, Nat.le_refl _, Nat.le_refl _, Nat.le_refl _⟩, hE, hin⟩
    have key := hw (mj_X p l e (headSpec (pg_ws y) (pg_rm (d + 1) y)).room s m (as.map (mj_v B)).toArray below meth c (MQ below (mj_Qc D cA B post) (as.map (mj_v B)).toArray s (pg_mc y) (pg_ms y) (fun q => B ≤ q)) D cA B (pg_maxL y) (pg_mc y) (pg_ms y)) ⟨mj_simR C, ⟨ms_callS C ih, ms_callV C ih, ms_callI C (mj_own10 y hy) ih⟩, ms_reti C B9.returns B9.notSynchronized, ms_retv C B9.returns B9.notSynchronized⟩
    have hd9 := mj_dok hy
    have fin := key (Nat.zero_le _) (Nat.zero_le _) s.heap [] _ ⟨hS0, fun _ _ => rfl, fun x hx => by cases hx⟩ (mj_entry_LS (n := pg_maxL y) (h2.trans h1.symm) (by omega))
    rw [lg_entry_eq]
    exact fin
end
section
/-! THE CLAIM OUT OF ONE WALK OF THE LAW'S BODY. Your part is whole_start (and what it stands on); all else here is the same for every law, but numbers. -/
def R_law : String := "LayerDrawingLaw"
def lw_P (b : Addr) (xs : List Int32) (args : Array Value) (s : State) : Prop := args = #[.ref b] ∧ s.IntsAt b xs ∧ xs.length ≤ 1536 ∧ (Jvm.Cond.and given_1 narrow_1).before args s = true
def lw_Q (_ : Array Value) (s : State) (o : Outcome) (t : State) : Prop := o = .returned (some (.int 1)) ∧ Framed s o t [] 600000 7302250
def lw_Z (below : List Frame) (a : Array Value) (s : State) : State → Prop := fun t => ∃ o, t.status = .running ∧ Ended t below o ∧ lw_Q a s o t
/-- the law's own end, with 1 on the stack, nothing written that was there before, its room as the claim has it -/
theorem lw_ret {p : Program} {l : Launch} {e : Env} {s : State} {m : MethodId} {below : List Frame} {meth : Method} {c : Code} {b : Nat} (hx : p.tables.exec = Jvm.exec) (hb : c.code = code) (hr : meth.sig.returnType = ret) (hlocks : meth.locks = false) {pc : Nat} {H : Heap} {ls : Array Slot} (hdg : decode code pc = .ok (.ireturn, 1)) : W p l e room_1 s m #[Value.ref b] below meth c H [] 600000 7302250 (lw_Z below #[Value.ref b] s) (F0 m pc ls [.int 1]) := by
  intro T hT X
  obtain ⟨fs, hret, hrun, hended, hW, hframe⟩ := X.leave (v := some (.int 1)) (hlocks := hlocks) (fun h => by rw [hr] at h; cases h)
  have hmeth' : T.vm.method? m = some meth := X.method'
  refine ⟨T.setFrames fs, ?_, .returned (some (.int 1)), hrun, hended, rfl, ⟨_, rfl⟩, hW, hframe⟩
  jvm_step X.here [X.here.top, hx, hb, hdg, hmeth', hr, ret, narrow_b1]
  (try refine ⟨rfl, ?_⟩); (try refine ⟨rfl, ?_⟩)
  first | (intro acts; rw [hret _ acts rfl rfl rfl]) | rw [hret _ _ rfl rfl rfl]
  exact Steps.refl _
/-- what holds at the law's entry: the machine, the code, the tables' words (any of lw_tbl by 'hts w (by decide +kernel)'), the script of L ints xs at the cell b, what the Statement gives of the start (any of its parts by flat_of_before) -/
def lw_At (p : Program) (s : State) (m : MethodId) (meth : Method) (c : Code) (b L : Nat) (xs : Nat → Int32) : Prop :=
  p.tables.exec = Jvm.exec ∧ c.code = code ∧ meth.sig.returnType = ret ∧ c.maxLocals = 4 ∧ s.vm.findClass R_law = some m.cls ∧ (∀ w ∈ lw_tbl, w.before #[Value.ref b] s = true) ∧ va_X b L xs s s.heap ∧ b < s.heap.size ∧ meth.locks = false ∧ (Jvm.Cond.and given_1 narrow_1).before #[Value.ref b] s = true
theorem dl_0 : decode code 0 = .ok (.new 7, 3) := by decide +kernel
theorem dl_3 : decode code 3 = .ok (.dup, 1) := by decide +kernel
theorem dl_4 : decode code 4 = .ok (.invokespecial 9, 3) := by decide +kernel
theorem dl_7 : decode code 7 = .ok (.astore_n 1, 1) := by decide +kernel
theorem dl_8 : decode code 8 = .ok (.new 10, 3) := by decide +kernel
theorem dl_11 : decode code 11 = .ok (.dup, 1) := by decide +kernel
theorem dl_12 : decode code 12 = .ok (.invokespecial 12, 3) := by decide +kernel
theorem dl_15 : decode code 15 = .ok (.astore_n 2, 1) := by decide +kernel
theorem dl_16 : decode code 16 = .ok (.iconst 0, 1) := by decide +kernel
theorem dl_17 : decode code 17 = .ok (.istore_n 3, 1) := by decide +kernel
theorem dl_18 : decode code 18 = .ok (.iload_n 3, 1) := by decide +kernel
theorem dl_19 : decode code 19 = .ok (.aload_n 0, 1) := by decide +kernel
theorem dl_20 : decode code 20 = .ok (.arraylength, 1) := by decide +kernel
theorem dl_21 : decode code 21 = .ok (.iconst 3, 1) := by decide +kernel
theorem dl_22 : decode code 22 = .ok (.isub, 1) := by decide +kernel
theorem dl_23 : decode code 23 = .ok (.if_icmp .gt 531, 3) := by decide +kernel
theorem dl_26 : decode code 26 = .ok (.aload_n 0, 1) := by decide +kernel
theorem dl_27 : decode code 27 = .ok (.iload_n 3, 1) := by decide +kernel
theorem dl_28 : decode code 28 = .ok (.iaload, 1) := by decide +kernel
theorem dl_29 : decode code 29 = .ok (.bipush 31, 2) := by decide +kernel
theorem dl_31 : decode code 31 = .ok (.iand, 1) := by decide +kernel
theorem dl_32 : decode code 32 = .ok (.tableswitch 516 0 19 #[96, 119, 152, 185, 208, 221, 234, 257, 280, 293, 306, 319, 342, 355, 378, 411, 424, 447, 480, 493], 96) := by decide +kernel
theorem dl_128 : decode code 128 = .ok (.aload_n 1, 1) := by decide +kernel
theorem dl_129 : decode code 129 = .ok (.aload_n 0, 1) := by decide +kernel
theorem dl_130 : decode code 130 = .ok (.iload_n 3, 1) := by decide +kernel
theorem dl_131 : decode code 131 = .ok (.iconst 1, 1) := by decide +kernel
theorem dl_132 : decode code 132 = .ok (.iadd, 1) := by decide +kernel
theorem dl_133 : decode code 133 = .ok (.iaload, 1) := by decide +kernel
theorem dl_134 : decode code 134 = .ok (.invokevirtual 13, 3) := by decide +kernel
theorem dl_137 : decode code 137 = .ok (.aload_n 2, 1) := by decide +kernel
theorem dl_138 : decode code 138 = .ok (.aload_n 0, 1) := by decide +kernel
theorem dl_139 : decode code 139 = .ok (.iload_n 3, 1) := by decide +kernel
theorem dl_140 : decode code 140 = .ok (.iconst 1, 1) := by decide +kernel
theorem dl_141 : decode code 141 = .ok (.iadd, 1) := by decide +kernel
theorem dl_142 : decode code 142 = .ok (.iaload, 1) := by decide +kernel
theorem dl_143 : decode code 143 = .ok (.invokevirtual 17, 3) := by decide +kernel
theorem dl_146 : decode code 146 = .ok (.if_icmp .eq 402, 3) := by decide +kernel
theorem dl_149 : decode code 149 = .ok (.iconst 0, 1) := by decide +kernel
theorem dl_150 : decode code 150 = .ok (.ireturn, 1) := by decide +kernel
theorem dl_151 : decode code 151 = .ok (.aload_n 1, 1) := by decide +kernel
theorem dl_152 : decode code 152 = .ok (.aload_n 0, 1) := by decide +kernel
theorem dl_153 : decode code 153 = .ok (.iload_n 3, 1) := by decide +kernel
theorem dl_154 : decode code 154 = .ok (.iconst 1, 1) := by decide +kernel
theorem dl_155 : decode code 155 = .ok (.iadd, 1) := by decide +kernel
theorem dl_156 : decode code 156 = .ok (.iaload, 1) := by decide +kernel
theorem dl_157 : decode code 157 = .ok (.aload_n 0, 1) := by decide +kernel
theorem dl_158 : decode code 158 = .ok (.iload_n 3, 1) := by decide +kernel
theorem dl_159 : decode code 159 = .ok (.iconst 2, 1) := by decide +kernel
theorem dl_160 : decode code 160 = .ok (.iadd, 1) := by decide +kernel
theorem dl_161 : decode code 161 = .ok (.iaload, 1) := by decide +kernel
theorem dl_162 : decode code 162 = .ok (.invokevirtual 18, 3) := by decide +kernel
theorem dl_165 : decode code 165 = .ok (.aload_n 2, 1) := by decide +kernel
theorem dl_166 : decode code 166 = .ok (.aload_n 0, 1) := by decide +kernel
theorem dl_167 : decode code 167 = .ok (.iload_n 3, 1) := by decide +kernel
theorem dl_168 : decode code 168 = .ok (.iconst 1, 1) := by decide +kernel
theorem dl_169 : decode code 169 = .ok (.iadd, 1) := by decide +kernel
theorem dl_170 : decode code 170 = .ok (.iaload, 1) := by decide +kernel
theorem dl_171 : decode code 171 = .ok (.aload_n 0, 1) := by decide +kernel
theorem dl_172 : decode code 172 = .ok (.iload_n 3, 1) := by decide +kernel
theorem dl_173 : decode code 173 = .ok (.iconst 2, 1) := by decide +kernel
theorem dl_174 : decode code 174 = .ok (.iadd, 1) := by decide +kernel
theorem dl_175 : decode code 175 = .ok (.iaload, 1) := by decide +kernel
theorem dl_176 : decode code 176 = .ok (.invokevirtual 22, 3) := by decide +kernel
theorem dl_179 : decode code 179 = .ok (.if_icmp .eq 369, 3) := by decide +kernel
theorem dl_182 : decode code 182 = .ok (.iconst 0, 1) := by decide +kernel
theorem dl_183 : decode code 183 = .ok (.ireturn, 1) := by decide +kernel
theorem dl_184 : decode code 184 = .ok (.aload_n 1, 1) := by decide +kernel
theorem dl_185 : decode code 185 = .ok (.aload_n 0, 1) := by decide +kernel
theorem dl_186 : decode code 186 = .ok (.iload_n 3, 1) := by decide +kernel
theorem dl_187 : decode code 187 = .ok (.iconst 1, 1) := by decide +kernel
theorem dl_188 : decode code 188 = .ok (.iadd, 1) := by decide +kernel
theorem dl_189 : decode code 189 = .ok (.iaload, 1) := by decide +kernel
theorem dl_190 : decode code 190 = .ok (.aload_n 0, 1) := by decide +kernel
theorem dl_191 : decode code 191 = .ok (.iload_n 3, 1) := by decide +kernel
theorem dl_192 : decode code 192 = .ok (.iconst 2, 1) := by decide +kernel
theorem dl_193 : decode code 193 = .ok (.iadd, 1) := by decide +kernel
theorem dl_194 : decode code 194 = .ok (.iaload, 1) := by decide +kernel
theorem dl_195 : decode code 195 = .ok (.invokevirtual 23, 3) := by decide +kernel
theorem dl_198 : decode code 198 = .ok (.aload_n 2, 1) := by decide +kernel
theorem dl_199 : decode code 199 = .ok (.aload_n 0, 1) := by decide +kernel
theorem dl_200 : decode code 200 = .ok (.iload_n 3, 1) := by decide +kernel
theorem dl_201 : decode code 201 = .ok (.iconst 1, 1) := by decide +kernel
theorem dl_202 : decode code 202 = .ok (.iadd, 1) := by decide +kernel
theorem dl_203 : decode code 203 = .ok (.iaload, 1) := by decide +kernel
theorem dl_204 : decode code 204 = .ok (.aload_n 0, 1) := by decide +kernel
theorem dl_205 : decode code 205 = .ok (.iload_n 3, 1) := by decide +kernel
theorem dl_206 : decode code 206 = .ok (.iconst 2, 1) := by decide +kernel
theorem dl_207 : decode code 207 = .ok (.iadd, 1) := by decide +kernel
theorem dl_208 : decode code 208 = .ok (.iaload, 1) := by decide +kernel
theorem dl_209 : decode code 209 = .ok (.invokevirtual 26, 3) := by decide +kernel
theorem dl_212 : decode code 212 = .ok (.if_icmp .eq 336, 3) := by decide +kernel
theorem dl_215 : decode code 215 = .ok (.iconst 0, 1) := by decide +kernel
theorem dl_216 : decode code 216 = .ok (.ireturn, 1) := by decide +kernel
theorem dl_217 : decode code 217 = .ok (.aload_n 1, 1) := by decide +kernel
theorem dl_218 : decode code 218 = .ok (.aload_n 0, 1) := by decide +kernel
theorem dl_219 : decode code 219 = .ok (.iload_n 3, 1) := by decide +kernel
theorem dl_220 : decode code 220 = .ok (.iconst 1, 1) := by decide +kernel
theorem dl_221 : decode code 221 = .ok (.iadd, 1) := by decide +kernel
theorem dl_222 : decode code 222 = .ok (.iaload, 1) := by decide +kernel
theorem dl_223 : decode code 223 = .ok (.invokevirtual 27, 3) := by decide +kernel
theorem dl_226 : decode code 226 = .ok (.aload_n 2, 1) := by decide +kernel
theorem dl_227 : decode code 227 = .ok (.aload_n 0, 1) := by decide +kernel
theorem dl_228 : decode code 228 = .ok (.iload_n 3, 1) := by decide +kernel
theorem dl_229 : decode code 229 = .ok (.iconst 1, 1) := by decide +kernel
theorem dl_230 : decode code 230 = .ok (.iadd, 1) := by decide +kernel
theorem dl_231 : decode code 231 = .ok (.iaload, 1) := by decide +kernel
theorem dl_232 : decode code 232 = .ok (.invokevirtual 30, 3) := by decide +kernel
theorem dl_235 : decode code 235 = .ok (.if_icmp .eq 313, 3) := by decide +kernel
theorem dl_238 : decode code 238 = .ok (.iconst 0, 1) := by decide +kernel
theorem dl_239 : decode code 239 = .ok (.ireturn, 1) := by decide +kernel
theorem dl_240 : decode code 240 = .ok (.aload_n 1, 1) := by decide +kernel
theorem dl_241 : decode code 241 = .ok (.invokevirtual 31, 3) := by decide +kernel
theorem dl_244 : decode code 244 = .ok (.aload_n 2, 1) := by decide +kernel
theorem dl_245 : decode code 245 = .ok (.invokevirtual 35, 3) := by decide +kernel
theorem dl_248 : decode code 248 = .ok (.if_icmp .eq 300, 3) := by decide +kernel
theorem dl_251 : decode code 251 = .ok (.iconst 0, 1) := by decide +kernel
theorem dl_252 : decode code 252 = .ok (.ireturn, 1) := by decide +kernel
theorem dl_253 : decode code 253 = .ok (.aload_n 1, 1) := by decide +kernel
theorem dl_254 : decode code 254 = .ok (.invokevirtual 36, 3) := by decide +kernel
theorem dl_257 : decode code 257 = .ok (.aload_n 2, 1) := by decide +kernel
theorem dl_258 : decode code 258 = .ok (.invokevirtual 39, 3) := by decide +kernel
theorem dl_261 : decode code 261 = .ok (.if_icmp .eq 287, 3) := by decide +kernel
theorem dl_264 : decode code 264 = .ok (.iconst 0, 1) := by decide +kernel
theorem dl_265 : decode code 265 = .ok (.ireturn, 1) := by decide +kernel
theorem dl_266 : decode code 266 = .ok (.aload_n 1, 1) := by decide +kernel
theorem dl_267 : decode code 267 = .ok (.aload_n 0, 1) := by decide +kernel
theorem dl_268 : decode code 268 = .ok (.iload_n 3, 1) := by decide +kernel
theorem dl_269 : decode code 269 = .ok (.iconst 1, 1) := by decide +kernel
theorem dl_270 : decode code 270 = .ok (.iadd, 1) := by decide +kernel
theorem dl_271 : decode code 271 = .ok (.iaload, 1) := by decide +kernel
theorem dl_272 : decode code 272 = .ok (.invokevirtual 40, 3) := by decide +kernel
theorem dl_275 : decode code 275 = .ok (.aload_n 2, 1) := by decide +kernel
theorem dl_276 : decode code 276 = .ok (.aload_n 0, 1) := by decide +kernel
theorem dl_277 : decode code 277 = .ok (.iload_n 3, 1) := by decide +kernel
theorem dl_278 : decode code 278 = .ok (.iconst 1, 1) := by decide +kernel
theorem dl_279 : decode code 279 = .ok (.iadd, 1) := by decide +kernel
theorem dl_280 : decode code 280 = .ok (.iaload, 1) := by decide +kernel
theorem dl_281 : decode code 281 = .ok (.invokevirtual 43, 3) := by decide +kernel
theorem dl_284 : decode code 284 = .ok (.if_icmp .eq 264, 3) := by decide +kernel
theorem dl_287 : decode code 287 = .ok (.iconst 0, 1) := by decide +kernel
theorem dl_288 : decode code 288 = .ok (.ireturn, 1) := by decide +kernel
theorem dl_289 : decode code 289 = .ok (.aload_n 1, 1) := by decide +kernel
theorem dl_290 : decode code 290 = .ok (.aload_n 0, 1) := by decide +kernel
theorem dl_291 : decode code 291 = .ok (.iload_n 3, 1) := by decide +kernel
theorem dl_292 : decode code 292 = .ok (.iconst 1, 1) := by decide +kernel
theorem dl_293 : decode code 293 = .ok (.iadd, 1) := by decide +kernel
theorem dl_294 : decode code 294 = .ok (.iaload, 1) := by decide +kernel
theorem dl_295 : decode code 295 = .ok (.invokevirtual 44, 3) := by decide +kernel
theorem dl_298 : decode code 298 = .ok (.aload_n 2, 1) := by decide +kernel
theorem dl_299 : decode code 299 = .ok (.aload_n 0, 1) := by decide +kernel
theorem dl_300 : decode code 300 = .ok (.iload_n 3, 1) := by decide +kernel
theorem dl_301 : decode code 301 = .ok (.iconst 1, 1) := by decide +kernel
theorem dl_302 : decode code 302 = .ok (.iadd, 1) := by decide +kernel
theorem dl_303 : decode code 303 = .ok (.iaload, 1) := by decide +kernel
theorem dl_304 : decode code 304 = .ok (.invokevirtual 47, 3) := by decide +kernel
theorem dl_307 : decode code 307 = .ok (.if_icmp .eq 241, 3) := by decide +kernel
theorem dl_310 : decode code 310 = .ok (.iconst 0, 1) := by decide +kernel
theorem dl_311 : decode code 311 = .ok (.ireturn, 1) := by decide +kernel
theorem dl_312 : decode code 312 = .ok (.aload_n 1, 1) := by decide +kernel
theorem dl_313 : decode code 313 = .ok (.invokevirtual 48, 3) := by decide +kernel
theorem dl_316 : decode code 316 = .ok (.aload_n 2, 1) := by decide +kernel
theorem dl_317 : decode code 317 = .ok (.invokevirtual 51, 3) := by decide +kernel
theorem dl_320 : decode code 320 = .ok (.if_icmp .eq 228, 3) := by decide +kernel
theorem dl_323 : decode code 323 = .ok (.iconst 0, 1) := by decide +kernel
theorem dl_324 : decode code 324 = .ok (.ireturn, 1) := by decide +kernel
theorem dl_325 : decode code 325 = .ok (.aload_n 1, 1) := by decide +kernel
theorem dl_326 : decode code 326 = .ok (.invokevirtual 52, 3) := by decide +kernel
theorem dl_329 : decode code 329 = .ok (.aload_n 2, 1) := by decide +kernel
theorem dl_330 : decode code 330 = .ok (.invokevirtual 55, 3) := by decide +kernel
theorem dl_333 : decode code 333 = .ok (.if_icmp .eq 215, 3) := by decide +kernel
theorem dl_336 : decode code 336 = .ok (.iconst 0, 1) := by decide +kernel
theorem dl_337 : decode code 337 = .ok (.ireturn, 1) := by decide +kernel
theorem dl_338 : decode code 338 = .ok (.aload_n 1, 1) := by decide +kernel
theorem dl_339 : decode code 339 = .ok (.invokevirtual 56, 3) := by decide +kernel
theorem dl_342 : decode code 342 = .ok (.aload_n 2, 1) := by decide +kernel
theorem dl_343 : decode code 343 = .ok (.invokevirtual 59, 3) := by decide +kernel
theorem dl_346 : decode code 346 = .ok (.if_icmp .eq 202, 3) := by decide +kernel
theorem dl_349 : decode code 349 = .ok (.iconst 0, 1) := by decide +kernel
theorem dl_350 : decode code 350 = .ok (.ireturn, 1) := by decide +kernel
theorem dl_351 : decode code 351 = .ok (.aload_n 1, 1) := by decide +kernel
theorem dl_352 : decode code 352 = .ok (.aload_n 0, 1) := by decide +kernel
theorem dl_353 : decode code 353 = .ok (.iload_n 3, 1) := by decide +kernel
theorem dl_354 : decode code 354 = .ok (.iconst 1, 1) := by decide +kernel
theorem dl_355 : decode code 355 = .ok (.iadd, 1) := by decide +kernel
theorem dl_356 : decode code 356 = .ok (.iaload, 1) := by decide +kernel
theorem dl_357 : decode code 357 = .ok (.invokevirtual 60, 3) := by decide +kernel
theorem dl_360 : decode code 360 = .ok (.aload_n 2, 1) := by decide +kernel
theorem dl_361 : decode code 361 = .ok (.aload_n 0, 1) := by decide +kernel
theorem dl_362 : decode code 362 = .ok (.iload_n 3, 1) := by decide +kernel
theorem dl_363 : decode code 363 = .ok (.iconst 1, 1) := by decide +kernel
theorem dl_364 : decode code 364 = .ok (.iadd, 1) := by decide +kernel
theorem dl_365 : decode code 365 = .ok (.iaload, 1) := by decide +kernel
theorem dl_366 : decode code 366 = .ok (.invokevirtual 63, 3) := by decide +kernel
theorem dl_369 : decode code 369 = .ok (.if_icmp .eq 179, 3) := by decide +kernel
theorem dl_372 : decode code 372 = .ok (.iconst 0, 1) := by decide +kernel
theorem dl_373 : decode code 373 = .ok (.ireturn, 1) := by decide +kernel
theorem dl_374 : decode code 374 = .ok (.aload_n 1, 1) := by decide +kernel
theorem dl_375 : decode code 375 = .ok (.invokevirtual 64, 3) := by decide +kernel
theorem dl_378 : decode code 378 = .ok (.aload_n 2, 1) := by decide +kernel
theorem dl_379 : decode code 379 = .ok (.invokevirtual 67, 3) := by decide +kernel
theorem dl_382 : decode code 382 = .ok (.if_icmp .eq 166, 3) := by decide +kernel
theorem dl_385 : decode code 385 = .ok (.iconst 0, 1) := by decide +kernel
theorem dl_386 : decode code 386 = .ok (.ireturn, 1) := by decide +kernel
theorem dl_387 : decode code 387 = .ok (.aload_n 1, 1) := by decide +kernel
theorem dl_388 : decode code 388 = .ok (.aload_n 0, 1) := by decide +kernel
theorem dl_389 : decode code 389 = .ok (.iload_n 3, 1) := by decide +kernel
theorem dl_390 : decode code 390 = .ok (.iconst 1, 1) := by decide +kernel
theorem dl_391 : decode code 391 = .ok (.iadd, 1) := by decide +kernel
theorem dl_392 : decode code 392 = .ok (.iaload, 1) := by decide +kernel
theorem dl_393 : decode code 393 = .ok (.invokevirtual 68, 3) := by decide +kernel
theorem dl_396 : decode code 396 = .ok (.aload_n 2, 1) := by decide +kernel
theorem dl_397 : decode code 397 = .ok (.aload_n 0, 1) := by decide +kernel
theorem dl_398 : decode code 398 = .ok (.iload_n 3, 1) := by decide +kernel
theorem dl_399 : decode code 399 = .ok (.iconst 1, 1) := by decide +kernel
theorem dl_400 : decode code 400 = .ok (.iadd, 1) := by decide +kernel
theorem dl_401 : decode code 401 = .ok (.iaload, 1) := by decide +kernel
theorem dl_402 : decode code 402 = .ok (.invokevirtual 71, 3) := by decide +kernel
theorem dl_405 : decode code 405 = .ok (.if_icmp .eq 143, 3) := by decide +kernel
theorem dl_408 : decode code 408 = .ok (.iconst 0, 1) := by decide +kernel
theorem dl_409 : decode code 409 = .ok (.ireturn, 1) := by decide +kernel
theorem dl_410 : decode code 410 = .ok (.aload_n 1, 1) := by decide +kernel
theorem dl_411 : decode code 411 = .ok (.aload_n 0, 1) := by decide +kernel
theorem dl_412 : decode code 412 = .ok (.iload_n 3, 1) := by decide +kernel
theorem dl_413 : decode code 413 = .ok (.iconst 1, 1) := by decide +kernel
theorem dl_414 : decode code 414 = .ok (.iadd, 1) := by decide +kernel
theorem dl_415 : decode code 415 = .ok (.iaload, 1) := by decide +kernel
theorem dl_416 : decode code 416 = .ok (.aload_n 0, 1) := by decide +kernel
theorem dl_417 : decode code 417 = .ok (.iload_n 3, 1) := by decide +kernel
theorem dl_418 : decode code 418 = .ok (.iconst 2, 1) := by decide +kernel
theorem dl_419 : decode code 419 = .ok (.iadd, 1) := by decide +kernel
theorem dl_420 : decode code 420 = .ok (.iaload, 1) := by decide +kernel
theorem dl_421 : decode code 421 = .ok (.invokevirtual 72, 3) := by decide +kernel
theorem dl_424 : decode code 424 = .ok (.aload_n 2, 1) := by decide +kernel
theorem dl_425 : decode code 425 = .ok (.aload_n 0, 1) := by decide +kernel
theorem dl_426 : decode code 426 = .ok (.iload_n 3, 1) := by decide +kernel
theorem dl_427 : decode code 427 = .ok (.iconst 1, 1) := by decide +kernel
theorem dl_428 : decode code 428 = .ok (.iadd, 1) := by decide +kernel
theorem dl_429 : decode code 429 = .ok (.iaload, 1) := by decide +kernel
theorem dl_430 : decode code 430 = .ok (.aload_n 0, 1) := by decide +kernel
theorem dl_431 : decode code 431 = .ok (.iload_n 3, 1) := by decide +kernel
theorem dl_432 : decode code 432 = .ok (.iconst 2, 1) := by decide +kernel
theorem dl_433 : decode code 433 = .ok (.iadd, 1) := by decide +kernel
theorem dl_434 : decode code 434 = .ok (.iaload, 1) := by decide +kernel
theorem dl_435 : decode code 435 = .ok (.invokevirtual 75, 3) := by decide +kernel
theorem dl_438 : decode code 438 = .ok (.if_icmp .eq 110, 3) := by decide +kernel
theorem dl_441 : decode code 441 = .ok (.iconst 0, 1) := by decide +kernel
theorem dl_442 : decode code 442 = .ok (.ireturn, 1) := by decide +kernel
theorem dl_443 : decode code 443 = .ok (.aload_n 1, 1) := by decide +kernel
theorem dl_444 : decode code 444 = .ok (.invokevirtual 76, 3) := by decide +kernel
theorem dl_447 : decode code 447 = .ok (.aload_n 2, 1) := by decide +kernel
theorem dl_448 : decode code 448 = .ok (.invokevirtual 79, 3) := by decide +kernel
theorem dl_451 : decode code 451 = .ok (.if_icmp .eq 97, 3) := by decide +kernel
theorem dl_454 : decode code 454 = .ok (.iconst 0, 1) := by decide +kernel
theorem dl_455 : decode code 455 = .ok (.ireturn, 1) := by decide +kernel
theorem dl_456 : decode code 456 = .ok (.aload_n 1, 1) := by decide +kernel
theorem dl_457 : decode code 457 = .ok (.aload_n 0, 1) := by decide +kernel
theorem dl_458 : decode code 458 = .ok (.iload_n 3, 1) := by decide +kernel
theorem dl_459 : decode code 459 = .ok (.iconst 1, 1) := by decide +kernel
theorem dl_460 : decode code 460 = .ok (.iadd, 1) := by decide +kernel
theorem dl_461 : decode code 461 = .ok (.iaload, 1) := by decide +kernel
theorem dl_462 : decode code 462 = .ok (.invokevirtual 80, 3) := by decide +kernel
theorem dl_465 : decode code 465 = .ok (.aload_n 2, 1) := by decide +kernel
theorem dl_466 : decode code 466 = .ok (.aload_n 0, 1) := by decide +kernel
theorem dl_467 : decode code 467 = .ok (.iload_n 3, 1) := by decide +kernel
theorem dl_468 : decode code 468 = .ok (.iconst 1, 1) := by decide +kernel
theorem dl_469 : decode code 469 = .ok (.iadd, 1) := by decide +kernel
theorem dl_470 : decode code 470 = .ok (.iaload, 1) := by decide +kernel
theorem dl_471 : decode code 471 = .ok (.invokevirtual 83, 3) := by decide +kernel
theorem dl_474 : decode code 474 = .ok (.if_icmp .eq 74, 3) := by decide +kernel
theorem dl_477 : decode code 477 = .ok (.iconst 0, 1) := by decide +kernel
theorem dl_478 : decode code 478 = .ok (.ireturn, 1) := by decide +kernel
theorem dl_479 : decode code 479 = .ok (.aload_n 1, 1) := by decide +kernel
theorem dl_480 : decode code 480 = .ok (.aload_n 0, 1) := by decide +kernel
theorem dl_481 : decode code 481 = .ok (.iload_n 3, 1) := by decide +kernel
theorem dl_482 : decode code 482 = .ok (.iconst 1, 1) := by decide +kernel
theorem dl_483 : decode code 483 = .ok (.iadd, 1) := by decide +kernel
theorem dl_484 : decode code 484 = .ok (.iaload, 1) := by decide +kernel
theorem dl_485 : decode code 485 = .ok (.aload_n 0, 1) := by decide +kernel
theorem dl_486 : decode code 486 = .ok (.iload_n 3, 1) := by decide +kernel
theorem dl_487 : decode code 487 = .ok (.iconst 2, 1) := by decide +kernel
theorem dl_488 : decode code 488 = .ok (.iadd, 1) := by decide +kernel
theorem dl_489 : decode code 489 = .ok (.iaload, 1) := by decide +kernel
theorem dl_490 : decode code 490 = .ok (.invokevirtual 84, 3) := by decide +kernel
theorem dl_493 : decode code 493 = .ok (.aload_n 2, 1) := by decide +kernel
theorem dl_494 : decode code 494 = .ok (.aload_n 0, 1) := by decide +kernel
theorem dl_495 : decode code 495 = .ok (.iload_n 3, 1) := by decide +kernel
theorem dl_496 : decode code 496 = .ok (.iconst 1, 1) := by decide +kernel
theorem dl_497 : decode code 497 = .ok (.iadd, 1) := by decide +kernel
theorem dl_498 : decode code 498 = .ok (.iaload, 1) := by decide +kernel
theorem dl_499 : decode code 499 = .ok (.aload_n 0, 1) := by decide +kernel
theorem dl_500 : decode code 500 = .ok (.iload_n 3, 1) := by decide +kernel
theorem dl_501 : decode code 501 = .ok (.iconst 2, 1) := by decide +kernel
theorem dl_502 : decode code 502 = .ok (.iadd, 1) := by decide +kernel
theorem dl_503 : decode code 503 = .ok (.iaload, 1) := by decide +kernel
theorem dl_504 : decode code 504 = .ok (.invokevirtual 87, 3) := by decide +kernel
theorem dl_507 : decode code 507 = .ok (.if_icmp .eq 41, 3) := by decide +kernel
theorem dl_510 : decode code 510 = .ok (.iconst 0, 1) := by decide +kernel
theorem dl_511 : decode code 511 = .ok (.ireturn, 1) := by decide +kernel
theorem dl_512 : decode code 512 = .ok (.aload_n 1, 1) := by decide +kernel
theorem dl_513 : decode code 513 = .ok (.invokevirtual 88, 3) := by decide +kernel
theorem dl_516 : decode code 516 = .ok (.aload_n 2, 1) := by decide +kernel
theorem dl_517 : decode code 517 = .ok (.invokevirtual 91, 3) := by decide +kernel
theorem dl_520 : decode code 520 = .ok (.if_icmp .eq 28, 3) := by decide +kernel
theorem dl_523 : decode code 523 = .ok (.iconst 0, 1) := by decide +kernel
theorem dl_524 : decode code 524 = .ok (.ireturn, 1) := by decide +kernel
theorem dl_525 : decode code 525 = .ok (.aload_n 1, 1) := by decide +kernel
theorem dl_526 : decode code 526 = .ok (.aload_n 0, 1) := by decide +kernel
theorem dl_527 : decode code 527 = .ok (.iload_n 3, 1) := by decide +kernel
theorem dl_528 : decode code 528 = .ok (.iconst 1, 1) := by decide +kernel
theorem dl_529 : decode code 529 = .ok (.iadd, 1) := by decide +kernel
theorem dl_530 : decode code 530 = .ok (.iaload, 1) := by decide +kernel
theorem dl_531 : decode code 531 = .ok (.invokevirtual 92, 3) := by decide +kernel
theorem dl_534 : decode code 534 = .ok (.aload_n 2, 1) := by decide +kernel
theorem dl_535 : decode code 535 = .ok (.aload_n 0, 1) := by decide +kernel
theorem dl_536 : decode code 536 = .ok (.iload_n 3, 1) := by decide +kernel
theorem dl_537 : decode code 537 = .ok (.iconst 1, 1) := by decide +kernel
theorem dl_538 : decode code 538 = .ok (.iadd, 1) := by decide +kernel
theorem dl_539 : decode code 539 = .ok (.iaload, 1) := by decide +kernel
theorem dl_540 : decode code 540 = .ok (.invokevirtual 95, 3) := by decide +kernel
theorem dl_543 : decode code 543 = .ok (.if_icmp .eq 5, 3) := by decide +kernel
theorem dl_546 : decode code 546 = .ok (.iconst 0, 1) := by decide +kernel
theorem dl_547 : decode code 547 = .ok (.ireturn, 1) := by decide +kernel
theorem dl_548 : decode code 548 = .ok (.iinc 3 3, 3) := by decide +kernel
theorem dl_551 : decode code 551 = .ok (.goto (-533), 3) := by decide +kernel
theorem dl_554 : decode code 554 = .ok (.iconst 1, 1) := by decide +kernel
theorem dl_555 : decode code 555 = .ok (.ireturn, 1) := by decide +kernel
def mj_gr (h : mj_H) (kd : Nat × Nat) : mj_H := (h.1 + 1, va_up h.2.1 h.1 kd, va_up h.2.2.1 h.1 (fun _ => 0), va_up h.2.2.2 h.1 (fun _ => none))
def lw_h0 : mj_H := (0, fun _ => (0, 0), fun _ _ => 0, fun _ _ => none)
/-- a call of the drawing and the same call of the model: the same answer, and the invariant again -/
def lw_op (Inv : mj_H → Prop) (y z : Nat) (w : List mj_V) : Prop := ∀ h, Inv h → (0 < h.1 ∧ h.2.1 0 = (0, 8)) ∧ mj_lv 6 y (.inr (.inl (some 0)) :: w) h (fun r h1 => ∃ x, r = some (.inl x) ∧ (93 < h1.1 ∧ h1.2.1 93 = (0, 9)) ∧ mj_lv 6 z (.inr (.inl (some 93)) :: w) h1 (fun r2 h2 => r2 = some (.inl x) ∧ Inv h2))
def lw_ini (Inv : mj_H → Prop) : Prop := mj_lv 6 m_Main_init [.inr (.inl (some 0))] (mj_gr lw_h0 (0, 8)) (fun r h1 => r = none ∧ h1.1 = 93 ∧ mj_lv 6 m_Mod_init [.inr (.inl (some 93))] (mj_gr h1 (0, 9)) (fun r2 h2 => r2 = none ∧ Inv h2))
def lw_all (Inv : mj_H → Prop) : Prop := lw_ini Inv ∧ (∀ x0, lw_op Inv m_Main_node m_Mod_node [.inl x0]) ∧ (∀ x0 x1, lw_op Inv m_Main_width m_Mod_width [.inl x0, .inl x1]) ∧ (∀ x0 x1, lw_op Inv m_Main_arc m_Mod_arc [.inl x0, .inl x1]) ∧ (∀ x0, lw_op Inv m_Main_drop m_Mod_drop [.inl x0]) ∧ (∀ (_ : Unit), lw_op Inv m_Main_clear m_Mod_clear []) ∧ (∀ (_ : Unit), lw_op Inv m_Main_turns m_Mod_turns []) ∧ (∀ x0, lw_op Inv m_Main_turned m_Mod_turned [.inl x0]) ∧ (∀ x0, lw_op Inv m_Main_layer m_Mod_layer [.inl x0]) ∧ (∀ (_ : Unit), lw_op Inv m_Main_layers m_Mod_layers []) ∧ (∀ (_ : Unit), lw_op Inv m_Main_length m_Mod_length []) ∧ (∀ (_ : Unit), lw_op Inv m_Main_bends m_Mod_bends []) ∧ (∀ x0, lw_op Inv m_Main_run m_Mod_run [.inl x0]) ∧ (∀ (_ : Unit), lw_op Inv m_Main_round m_Mod_round []) ∧ (∀ x0, lw_op Inv m_Main_count m_Mod_count [.inl x0]) ∧ (∀ x0 x1, lw_op Inv m_Main_item m_Mod_item [.inl x0, .inl x1]) ∧ (∀ (_ : Unit), lw_op Inv m_Main_fewest m_Mod_fewest []) ∧ (∀ x0, lw_op Inv m_Main_place m_Mod_place [.inl x0]) ∧ (∀ x0 x1, lw_op Inv m_Main_route m_Mod_route [.inl x0, .inl x1]) ∧ (∀ (_ : Unit), lw_op Inv m_Main_wide m_Mod_wide []) ∧ (∀ x0, lw_op Inv m_Main_tidy m_Mod_tidy [.inl x0])
section lw_rows
variable {p : Program} {l : Launch} {e : Env} {s : State} {m : MethodId} {below : List Frame} {meth : Method} {c : Code} {Q : State → Prop} {D : va_G} {cA : Nat → ClassId} {b L : Nat} {xs : Nat → Int32} {h : mj_H} {H : Heap} {locs : List Loc} {uc us pc : Nat} {ls : Array Slot} {rest : List Value}
def lw_Cx (D : va_G) (cA : Nat → ClassId) (p : Program) (s : State) (m : MethodId) (meth : Method) (c : Code) (b L : Nat) (xs : Nat → Int32) : Prop := lw_At p s m meth c b L xs ∧ va_K D pg_cl (mj_ty cA) s ∧ mj_Ex s
theorem lw_len (C : lw_Cx D cA p s m meth c b L xs) (hS : mj_S D cA s.heap.size s.heap h H locs) (hdg : decode code pc = .ok (.arraylength, 1)) (kk : W p l e room_1 s m #[Value.ref b] below meth c H locs uc us Q (F0 m (pc + 1) ls (.int (Int32.ofNat L) :: rest))) : W p l e room_1 s m #[Value.ref b] below meth c H locs uc us Q (F0 m pc ls (.ref b :: rest)) := by
  obtain ⟨⟨hx, hb, -, -, -, -, hX, hbl, -⟩, -⟩ := C
  obtain ⟨scr, h1, h2, h3, h4, h5⟩ := hX
  exact W.alen (n := Int32.ofNat L) hx hb (by rw [hS.2.1 b hbl]; exact h1) h2 (by rw [h4] <;> rfl) rfl rfl hdg kk
theorem lw_ld (C : lw_Cx D cA p s m meth c b L xs) (hS : mj_S D cA s.heap.size s.heap h H locs) {i : Int32} {j : Nat} (hi : i = nI j) (hj : j < L) (hL : L ≤ 1536) (hdg : decode code pc = .ok (.iaload, 1)) (kk : W p l e room_1 s m #[Value.ref b] below meth c H locs uc us Q (F0 m (pc + 1) ls (.int (xs j) :: rest))) : W p l e room_1 s m #[Value.ref b] below meth c H locs uc us Q (F0 m pc ls (.int i :: .ref b :: rest)) := by
  obtain ⟨⟨hx, hb, -, -, -, -, hX, hbl, -⟩, -⟩ := C
  obtain ⟨scr, h1, h2, h3, h4, h5⟩ := hX
  subst hi
  have hc : (nI j).toNatClampNeg = j := nI_clamp (by omega)
  exact W.iald (v := .int (xs j)) hx hb (by rw [hS.2.1 b hbl]; exact h1) h2 h3 (by rw [h4]; exact nI_in hj (by omega)) (by rw [hc]; exact h5 _ hj) rfl rfl hdg kk
theorem lw_cx (C : lw_Cx D cA p s m meth c b L xs) : mj_Cx D cA s.heap.size p room_1 s m #[Value.ref b] meth c code 10 1 4 600000 7302250 6 := by
  obtain ⟨⟨hx, hb, hr, hml, hown, hts, hX, hbl, hlocks, hgv⟩, hK, hE⟩ := C
  exact ⟨hx, hb, hml, hown, fun w h => hts w (List.mem_filter.mp h).1, hK, Nat.le_refl _, ⟨by decide, by decide, by decide, by decide⟩, hE, fun q => by cases q⟩
theorem lw_callV (C : lw_Cx D cA p s m meth c b L xs) (hS : mj_S D cA s.heap.size s.heap h H locs) (hl : ls.size = 4) {i z a : Nat} (w : List mj_V) {post : Option mj_V → mj_H → Prop} (hd : decode code pc = .ok (.invokevirtual i, 3)) (e1 : pg_mth 10 i = some z) (e2 : pg_kd z = 1) (e3 : w.length + 1 = pg_na z ∧ mj_ct w + 1 = pg_na z) (e4 : (rest.map fun v => v.category).sum ≤ 8) (e5 : pg_mc z = 0 ∧ pg_ms z = 0) (ha2 : a < h.1 ∧ h.2.1 a = (0, pg_own z)) (hu : uc ≤ 600000 ∧ us ≤ 7302250)
    (hcall : mj_lv 6 z (.inr (.inl (some a)) :: w) h post) (kk : ∀ (r : Option mj_V) (h2 : mj_H) (H1 : Heap) (locs1 : List Loc), post r h2 → mj_S D cA s.heap.size s.heap h2 H1 locs1 → W p l e room_1 s m #[Value.ref b] below meth c H1 locs1 uc us Q (F0 m (pc + 3) ls ((r.map (mj_v s.heap.size)).toList ++ rest))) : W p l e room_1 s m #[Value.ref b] below meth c H locs uc us Q (F0 m pc ls ((w.map (mj_v s.heap.size)).reverse ++ .ref (s.heap.size + a) :: rest)) := by
  have C2 := lw_cx C
  obtain ⟨hx, hb, hml, hown, hts, hK, hB, ⟨g1, g2, hmc, hms⟩, hE, -⟩ := C2
  have f0 := pg_use (pg_kM 10) e1
  simp only [Bool.and_eq_true, decide_eq_true_eq] at f0
  have hz : z < 142 := f0.1
  have f1 := f0.2
  rw [if_neg (by rw [e2]; decide)] at f1
  have hw : Cond.methodLink (pg_cn 10) i (pg_name z) ∈ lw_tbl := pg_is_mem f1
  have hM := mj_met l D cA s.heap.size 6 z (.inr (.inl (some a)) :: w) h post hz e3.1 (by show 1 + mj_ct w = _; omega) hcall
  have cb := mj_callB (d := 6) (R := room_1) (own := pg_cn 10) (index := i) hts hz ⟨g1, g2⟩ (hts _ (pg_tb_of hw rfl))
  rw [if_neg (by rw [e2]; decide)] at cb
  have hci : pg_own z < 10 := by
    rcases Nat.lt_or_ge (pg_own z) 10 with q | q
    · exact q
    · exfalso
      obtain ⟨r, hr, -⟩ := hS.obj ha2
      rw [List.getElem?_eq_none (by show 10 ≤ pg_own z; exact q)] at hr
      cases hr
  have hcn : pg_C (pg_own z) = pg_cn (pg_own z) := by
    have : ∀ z, z < 10 → pg_C z = pg_cn z := by decide +kernel
    exact this _ hci
  have hrec := va_recv hK (mj_one (hS.obj ha2)) (mj_clok _ hci).1 (q0 := 0) rfl
  rw [show (pg_C (pg_own z), pg_T (pg_own z), pg_nf (pg_own z)).1 = pg_cn (pg_own z) from hcn] at hrec
  have hk : pg_kd z ≠ 0 := by rw [e2]; decide
  have hk2 : pg_kd z ≠ 2 := by rw [e2]; decide
  refine mj_goW (va_runV (C := pg_cn (pg_own z)) (b := s.heap.size + a) (As := w.map (mj_v s.heap.size)) (rest := rest) (nL := 4) ⟨hx, hb, hml, hown, hts⟩ hM ⟨cb, hts _ ((mj_zok hz).2.2.2.1 hk), hts _ ((mj_zok hz).2.2.2.2 hk hk2)⟩ ⟨mj_blind, hrec, fun U hU hW => ⟨rfl, by rw [hU]; exact hS.1, va_K.moved hW.alike hK, hE.warm hW⟩⟩ rfl (by rw [List.length_map]; omega) hl rfl (lv_room e4) hd ⟨?_, ?_⟩) hS (fun r h2 H1 locs1 hp hS1 => ?_)
  · rw [e5.1]
    exact hu.1
  · rw [e5.2]
    exact hu.2
  · rw [e5.1, e5.2]
    exact kk r h2 H1 locs1 hp hS1
theorem lw_callI (C : lw_Cx D cA p s m meth c b L xs) (hS : mj_S D cA s.heap.size s.heap h H locs) (hl : ls.size = 4) {i z a : Nat} {post : Option mj_V → mj_H → Prop} (hd : decode code pc = .ok (.invokespecial i, 3)) (hz : z < 142) (hw : Cond.methodLink (pg_cn 10) i (pg_name z) ∈ lw_tbl) (e2 : pg_kd z = 2) (e4 : (rest.map fun v => v.category).sum ≤ 8) (hu : uc + pg_mc z ≤ 600000 ∧ us + pg_ms z ≤ 7302250)
    (hcall : mj_lv 6 z [.inr (.inl (some a))] h post) (kk : ∀ (r : Option mj_V) (h2 : mj_H) (H1 : Heap) (locs1 : List Loc), post r h2 → mj_S D cA s.heap.size s.heap h2 H1 locs1 → W p l e room_1 s m #[Value.ref b] below meth c H1 locs1 (uc + pg_mc z) (us + pg_ms z) Q (F0 m (pc + 3) ls ((r.map (mj_v s.heap.size)).toList ++ rest))) : W p l e room_1 s m #[Value.ref b] below meth c H locs uc us Q (F0 m pc ls (.ref (s.heap.size + a) :: rest)) := by
  have C2 := lw_cx C
  obtain ⟨hx, hb, hml, hown, hts, hK, hB, ⟨g1, g2, hmc, hms⟩, hE, -⟩ := C2
  have hp := (mj_pok hz).2.1 e2
  have hM := mj_met l D cA s.heap.size 6 z [.inr (.inl (some a))] h post hz hp.2.2.symm hp.2.2.symm hcall
  have cb := mj_callB (d := 6) (R := room_1) (own := pg_cn 10) (index := i) hts hz ⟨g1, g2⟩ (hts _ (pg_tb_of hw rfl))
  have hret : pg_ret z = none := by unfold pg_ret; rw [hp.1]; rfl
  rw [if_neg (by rw [e2]; decide), hret] at cb
  have hk : pg_kd z ≠ 0 := by rw [e2]; decide
  exact mj_goW (va_runI (b := s.heap.size + a) (As := []) (rest := rest) (nL := 4) ⟨hx, hb, hml, hown, hts⟩ hM ⟨cb, hp.2.1, hts _ ((mj_zok hz).2.2.2.1 hk)⟩ ⟨mj_blind, fun U hU hW => ⟨rfl, by rw [hU]; exact hS.1, va_K.moved hW.alike hK, hE.warm hW⟩⟩ rfl (by rw [hp.2.2]; rfl) hl rfl (lv_room e4) hd hu) hS kk
theorem lw_new (C : lw_Cx D cA p s m meth c b L xs) (hS : mj_S D cA s.heap.size s.heap h H locs) {i ci : Nat} (hd : decode code pc = .ok (.new i, 3)) (e1 : pg_new 10 i = some ci) (hu : uc + 1 ≤ 600000 ∧ us + pg_nf ci ≤ 7302250)
    (kk : ∀ (H1 : Heap), mj_S D cA s.heap.size s.heap (mj_gr h (0, ci)) H1 locs → W p l e room_1 s m #[Value.ref b] below meth c H1 locs (uc + 1) (us + pg_nf ci) Q (F0 m (pc + 3) ls (.ref (s.heap.size + h.1) :: rest))) : W p l e room_1 s m #[Value.ref b] below meth c H locs uc us Q (F0 m pc ls rest) := by
  have C2 := lw_cx C
  obtain ⟨hx, hb, hml, hown, hts, hK, hB, ⟨g1, g2, hmc, hms⟩, hE, -⟩ := C2
  have f0 := pg_use (pg_kN 10) e1
  simp only [Bool.and_eq_true, decide_eq_true_eq] at f0
  obtain ⟨g1, g2, g3, g4, g5⟩ := mj_clok ci f0.2
  have hKn := hK.1 ci _ g1
  refine W.newcK hx hb hown (hts _ (pg_tb_of (pg_is_mem f0.1) rfl)) (hts _ g3.1) (hts _ g3.2) rfl hd hu.1 hu.2 hKn.2.1 rfl fun H1 kC hkC e4 z1 o1 => ?_
  have hz := hS.1.1
  have K := kk H1 (hS.grow (h2 := mj_gr h (0, ci)) rfl z1 o1 ?_ (fun x hx => mj_E_grow hx))
  · rw [hz]
    exact K
  · rw [mj_E0 (h := mj_gr h (0, ci)) (va_up_self _ _ _)]
    rw [hz] at e4
    refine ⟨_, g1, (u_born (pg_ty ci) hts g2 hKn hkC e4 (fun k hk => (g4 k hk).1)).to (fun j hj => ?_)⟩
    show _ = (mj_fs s.heap.size _ ci h.1).getD j .null
    rw [List.getD_eq_getElem?_getD, mj_fs_get hj]
    dsimp only [mj_gr]
    rw [va_up_self, va_up_self]
    have h2 := mj_tyok f0.2 hj
    unfold pg_fr
    generalize pg_ty ci j = t at h2
    cases t <;> first | (simp [pg_okT] at h2; done) | rfl
end lw_rows
end
section
theorem lw_lt3 {L i : Nat} (hL : L ≤ 1536) (hi : i ≤ L + 2) (h : ¬ Int32.ofNat L - 3 < nI i) : i + 3 ≤ L := by
  have e : (nI L - nI 3).toInt = (L : Int) - 3 := pk_sub_toInt (by omega) (by omega)
  have e2 : (nI i).toInt = (i : Int) := nI_toInt (by omega)
  rw [Int32.lt_iff_toInt_lt] at h
  rw [show Int32.ofNat L - 3 = nI L - nI 3 from rfl, e, e2] at h
  omega
set_option maxRecDepth 100000 in
theorem lw_case_node {p : Program} {l : Launch} {e : Env} {s : State} {m : MethodId} {below : List Frame} {meth : Method} {c : Code} {Q : State → Prop} {D : va_G} {cA : Nat → ClassId} {b L : Nat} {xs : Nat → Int32} {h : mj_H} {H : Heap} {locs : List Loc} {uc us : Nat} {ls : Array Slot} (hL : L ≤ 1536) (C : lw_Cx D cA p s m meth c b L xs) {Inv : mj_H → Prop} {i : Nat} (hi : i + 3 ≤ L) (hop : lw_op Inv m_Main_node m_Mod_node [.inl (xs (i + 1))]) (hI : Inv h) (hS : mj_S D cA s.heap.size s.heap h H locs) (hl : lv_has ls 4 [(3, .int (nI i)), (0, .ref b), (1, .ref (s.heap.size + 0)), (2, .ref (s.heap.size + 93))]) (hu : uc ≤ 600000 ∧ us ≤ 7302250)
    (kk : ∀ h2, Inv h2 → ∀ (H : Heap) (locs : List Loc), mj_S D cA s.heap.size s.heap h2 H locs → W p l e room_1 s m #[Value.ref b] below meth c H locs uc us Q (F0 m 548 ls [])) : W p l e room_1 s m #[Value.ref b] below meth c H locs uc us Q (F0 m 128 ls []) := by
  have hx := C.1.1
  have hb := C.1.2.1
  obtain ⟨hc0, hcall⟩ := hop h hI
  refine lv_aload_n hx hb dl_128 rfl (lv_at hl 2 rfl) ?_
  refine lv_aload_n hx hb dl_129 rfl (lv_at hl 1 rfl) ?_
  refine lv_iload_n hx hb dl_130 rfl (lv_at hl 0 rfl) ?_
  refine lv_iconst (v := 1) hx hb dl_131 (by decide) ?_
  refine lv_iadd hx hb dl_132 ?_
  refine lw_ld C hS (j := i + 1) (nI_add i 1) (by omega) hL dl_133 ?_
  refine lw_callV (rest := []) C hS hl.1 (a := 0) [.inl (xs (i + 1))] dl_134 rfl rfl ⟨rfl, rfl⟩ (Nat.le_of_ble_eq_true rfl) ⟨rfl, rfl⟩ hc0 hu hcall (fun r h1 H locs hp hS => ?_)
  obtain ⟨y, rfl, hc93, hp⟩ := hp
  refine lv_aload_n hx hb dl_137 rfl (lv_at hl 3 rfl) ?_
  refine lv_aload_n hx hb dl_138 rfl (lv_at hl 1 rfl) ?_
  refine lv_iload_n hx hb dl_139 rfl (lv_at hl 0 rfl) ?_
  refine lv_iconst (v := 1) hx hb dl_140 (by decide) ?_
  refine lv_iadd hx hb dl_141 ?_
  refine lw_ld C hS (j := i + 1) (nI_add i 1) (by omega) hL dl_142 ?_
  refine lw_callV (rest := [.int y]) C hS hl.1 (a := 93) [.inl (xs (i + 1))] dl_143 rfl rfl ⟨rfl, rfl⟩ (Nat.le_of_ble_eq_true rfl) ⟨rfl, rfl⟩ hc93 hu hp (fun r h2 H locs hp hS => ?_)
  obtain ⟨rfl, hp⟩ := hp
  refine lv_icmp_eq (tgt := 548) hx hb dl_146 (by decide) (fun c9 => ?_) (fun c9 => absurd rfl c9)
  exact kk h2 hp H locs hS
set_option maxRecDepth 100000 in
theorem lw_case_width {p : Program} {l : Launch} {e : Env} {s : State} {m : MethodId} {below : List Frame} {meth : Method} {c : Code} {Q : State → Prop} {D : va_G} {cA : Nat → ClassId} {b L : Nat} {xs : Nat → Int32} {h : mj_H} {H : Heap} {locs : List Loc} {uc us : Nat} {ls : Array Slot} (hL : L ≤ 1536) (C : lw_Cx D cA p s m meth c b L xs) {Inv : mj_H → Prop} {i : Nat} (hi : i + 3 ≤ L) (hop : lw_op Inv m_Main_width m_Mod_width [.inl (xs (i + 1)), .inl (xs (i + 2))]) (hI : Inv h) (hS : mj_S D cA s.heap.size s.heap h H locs) (hl : lv_has ls 4 [(3, .int (nI i)), (0, .ref b), (1, .ref (s.heap.size + 0)), (2, .ref (s.heap.size + 93))]) (hu : uc ≤ 600000 ∧ us ≤ 7302250)
    (kk : ∀ h2, Inv h2 → ∀ (H : Heap) (locs : List Loc), mj_S D cA s.heap.size s.heap h2 H locs → W p l e room_1 s m #[Value.ref b] below meth c H locs uc us Q (F0 m 548 ls [])) : W p l e room_1 s m #[Value.ref b] below meth c H locs uc us Q (F0 m 151 ls []) := by
  have hx := C.1.1
  have hb := C.1.2.1
  obtain ⟨hc0, hcall⟩ := hop h hI
  refine lv_aload_n hx hb dl_151 rfl (lv_at hl 2 rfl) ?_
  refine lv_aload_n hx hb dl_152 rfl (lv_at hl 1 rfl) ?_
  refine lv_iload_n hx hb dl_153 rfl (lv_at hl 0 rfl) ?_
  refine lv_iconst (v := 1) hx hb dl_154 (by decide) ?_
  refine lv_iadd hx hb dl_155 ?_
  refine lw_ld C hS (j := i + 1) (nI_add i 1) (by omega) hL dl_156 ?_
  refine lv_aload_n hx hb dl_157 rfl (lv_at hl 1 rfl) ?_
  refine lv_iload_n hx hb dl_158 rfl (lv_at hl 0 rfl) ?_
  refine lv_iconst (v := 2) hx hb dl_159 (by decide) ?_
  refine lv_iadd hx hb dl_160 ?_
  refine lw_ld C hS (j := i + 2) (nI_add i 2) (by omega) hL dl_161 ?_
  refine lw_callV (rest := []) C hS hl.1 (a := 0) [.inl (xs (i + 1)), .inl (xs (i + 2))] dl_162 rfl rfl ⟨rfl, rfl⟩ (Nat.le_of_ble_eq_true rfl) ⟨rfl, rfl⟩ hc0 hu hcall (fun r h1 H locs hp hS => ?_)
  obtain ⟨y, rfl, hc93, hp⟩ := hp
  refine lv_aload_n hx hb dl_165 rfl (lv_at hl 3 rfl) ?_
  refine lv_aload_n hx hb dl_166 rfl (lv_at hl 1 rfl) ?_
  refine lv_iload_n hx hb dl_167 rfl (lv_at hl 0 rfl) ?_
  refine lv_iconst (v := 1) hx hb dl_168 (by decide) ?_
  refine lv_iadd hx hb dl_169 ?_
  refine lw_ld C hS (j := i + 1) (nI_add i 1) (by omega) hL dl_170 ?_
  refine lv_aload_n hx hb dl_171 rfl (lv_at hl 1 rfl) ?_
  refine lv_iload_n hx hb dl_172 rfl (lv_at hl 0 rfl) ?_
  refine lv_iconst (v := 2) hx hb dl_173 (by decide) ?_
  refine lv_iadd hx hb dl_174 ?_
  refine lw_ld C hS (j := i + 2) (nI_add i 2) (by omega) hL dl_175 ?_
  refine lw_callV (rest := [.int y]) C hS hl.1 (a := 93) [.inl (xs (i + 1)), .inl (xs (i + 2))] dl_176 rfl rfl ⟨rfl, rfl⟩ (Nat.le_of_ble_eq_true rfl) ⟨rfl, rfl⟩ hc93 hu hp (fun r h2 H locs hp hS => ?_)
  obtain ⟨rfl, hp⟩ := hp
  refine lv_icmp_eq (tgt := 548) hx hb dl_179 (by decide) (fun c9 => ?_) (fun c9 => absurd rfl c9)
  exact kk h2 hp H locs hS
set_option maxRecDepth 100000 in
theorem lw_case_arc {p : Program} {l : Launch} {e : Env} {s : State} {m : MethodId} {below : List Frame} {meth : Method} {c : Code} {Q : State → Prop} {D : va_G} {cA : Nat → ClassId} {b L : Nat} {xs : Nat → Int32} {h : mj_H} {H : Heap} {locs : List Loc} {uc us : Nat} {ls : Array Slot} (hL : L ≤ 1536) (C : lw_Cx D cA p s m meth c b L xs) {Inv : mj_H → Prop} {i : Nat} (hi : i + 3 ≤ L) (hop : lw_op Inv m_Main_arc m_Mod_arc [.inl (xs (i + 1)), .inl (xs (i + 2))]) (hI : Inv h) (hS : mj_S D cA s.heap.size s.heap h H locs) (hl : lv_has ls 4 [(3, .int (nI i)), (0, .ref b), (1, .ref (s.heap.size + 0)), (2, .ref (s.heap.size + 93))]) (hu : uc ≤ 600000 ∧ us ≤ 7302250)
    (kk : ∀ h2, Inv h2 → ∀ (H : Heap) (locs : List Loc), mj_S D cA s.heap.size s.heap h2 H locs → W p l e room_1 s m #[Value.ref b] below meth c H locs uc us Q (F0 m 548 ls [])) : W p l e room_1 s m #[Value.ref b] below meth c H locs uc us Q (F0 m 184 ls []) := by
  have hx := C.1.1
  have hb := C.1.2.1
  obtain ⟨hc0, hcall⟩ := hop h hI
  refine lv_aload_n hx hb dl_184 rfl (lv_at hl 2 rfl) ?_
  refine lv_aload_n hx hb dl_185 rfl (lv_at hl 1 rfl) ?_
  refine lv_iload_n hx hb dl_186 rfl (lv_at hl 0 rfl) ?_
  refine lv_iconst (v := 1) hx hb dl_187 (by decide) ?_
  refine lv_iadd hx hb dl_188 ?_
  refine lw_ld C hS (j := i + 1) (nI_add i 1) (by omega) hL dl_189 ?_
  refine lv_aload_n hx hb dl_190 rfl (lv_at hl 1 rfl) ?_
  refine lv_iload_n hx hb dl_191 rfl (lv_at hl 0 rfl) ?_
  refine lv_iconst (v := 2) hx hb dl_192 (by decide) ?_
  refine lv_iadd hx hb dl_193 ?_
  refine lw_ld C hS (j := i + 2) (nI_add i 2) (by omega) hL dl_194 ?_
  refine lw_callV (rest := []) C hS hl.1 (a := 0) [.inl (xs (i + 1)), .inl (xs (i + 2))] dl_195 rfl rfl ⟨rfl, rfl⟩ (Nat.le_of_ble_eq_true rfl) ⟨rfl, rfl⟩ hc0 hu hcall (fun r h1 H locs hp hS => ?_)
  obtain ⟨y, rfl, hc93, hp⟩ := hp
  refine lv_aload_n hx hb dl_198 rfl (lv_at hl 3 rfl) ?_
  refine lv_aload_n hx hb dl_199 rfl (lv_at hl 1 rfl) ?_
  refine lv_iload_n hx hb dl_200 rfl (lv_at hl 0 rfl) ?_
  refine lv_iconst (v := 1) hx hb dl_201 (by decide) ?_
  refine lv_iadd hx hb dl_202 ?_
  refine lw_ld C hS (j := i + 1) (nI_add i 1) (by omega) hL dl_203 ?_
  refine lv_aload_n hx hb dl_204 rfl (lv_at hl 1 rfl) ?_
  refine lv_iload_n hx hb dl_205 rfl (lv_at hl 0 rfl) ?_
  refine lv_iconst (v := 2) hx hb dl_206 (by decide) ?_
  refine lv_iadd hx hb dl_207 ?_
  refine lw_ld C hS (j := i + 2) (nI_add i 2) (by omega) hL dl_208 ?_
  refine lw_callV (rest := [.int y]) C hS hl.1 (a := 93) [.inl (xs (i + 1)), .inl (xs (i + 2))] dl_209 rfl rfl ⟨rfl, rfl⟩ (Nat.le_of_ble_eq_true rfl) ⟨rfl, rfl⟩ hc93 hu hp (fun r h2 H locs hp hS => ?_)
  obtain ⟨rfl, hp⟩ := hp
  refine lv_icmp_eq (tgt := 548) hx hb dl_212 (by decide) (fun c9 => ?_) (fun c9 => absurd rfl c9)
  exact kk h2 hp H locs hS
set_option maxRecDepth 100000 in
theorem lw_case_drop {p : Program} {l : Launch} {e : Env} {s : State} {m : MethodId} {below : List Frame} {meth : Method} {c : Code} {Q : State → Prop} {D : va_G} {cA : Nat → ClassId} {b L : Nat} {xs : Nat → Int32} {h : mj_H} {H : Heap} {locs : List Loc} {uc us : Nat} {ls : Array Slot} (hL : L ≤ 1536) (C : lw_Cx D cA p s m meth c b L xs) {Inv : mj_H → Prop} {i : Nat} (hi : i + 3 ≤ L) (hop : lw_op Inv m_Main_drop m_Mod_drop [.inl (xs (i + 1))]) (hI : Inv h) (hS : mj_S D cA s.heap.size s.heap h H locs) (hl : lv_has ls 4 [(3, .int (nI i)), (0, .ref b), (1, .ref (s.heap.size + 0)), (2, .ref (s.heap.size + 93))]) (hu : uc ≤ 600000 ∧ us ≤ 7302250)
    (kk : ∀ h2, Inv h2 → ∀ (H : Heap) (locs : List Loc), mj_S D cA s.heap.size s.heap h2 H locs → W p l e room_1 s m #[Value.ref b] below meth c H locs uc us Q (F0 m 548 ls [])) : W p l e room_1 s m #[Value.ref b] below meth c H locs uc us Q (F0 m 217 ls []) := by
  have hx := C.1.1
  have hb := C.1.2.1
  obtain ⟨hc0, hcall⟩ := hop h hI
  refine lv_aload_n hx hb dl_217 rfl (lv_at hl 2 rfl) ?_
  refine lv_aload_n hx hb dl_218 rfl (lv_at hl 1 rfl) ?_
  refine lv_iload_n hx hb dl_219 rfl (lv_at hl 0 rfl) ?_
  refine lv_iconst (v := 1) hx hb dl_220 (by decide) ?_
  refine lv_iadd hx hb dl_221 ?_
  refine lw_ld C hS (j := i + 1) (nI_add i 1) (by omega) hL dl_222 ?_
  refine lw_callV (rest := []) C hS hl.1 (a := 0) [.inl (xs (i + 1))] dl_223 rfl rfl ⟨rfl, rfl⟩ (Nat.le_of_ble_eq_true rfl) ⟨rfl, rfl⟩ hc0 hu hcall (fun r h1 H locs hp hS => ?_)
  obtain ⟨y, rfl, hc93, hp⟩ := hp
  refine lv_aload_n hx hb dl_226 rfl (lv_at hl 3 rfl) ?_
  refine lv_aload_n hx hb dl_227 rfl (lv_at hl 1 rfl) ?_
  refine lv_iload_n hx hb dl_228 rfl (lv_at hl 0 rfl) ?_
  refine lv_iconst (v := 1) hx hb dl_229 (by decide) ?_
  refine lv_iadd hx hb dl_230 ?_
  refine lw_ld C hS (j := i + 1) (nI_add i 1) (by omega) hL dl_231 ?_
  refine lw_callV (rest := [.int y]) C hS hl.1 (a := 93) [.inl (xs (i + 1))] dl_232 rfl rfl ⟨rfl, rfl⟩ (Nat.le_of_ble_eq_true rfl) ⟨rfl, rfl⟩ hc93 hu hp (fun r h2 H locs hp hS => ?_)
  obtain ⟨rfl, hp⟩ := hp
  refine lv_icmp_eq (tgt := 548) hx hb dl_235 (by decide) (fun c9 => ?_) (fun c9 => absurd rfl c9)
  exact kk h2 hp H locs hS
set_option maxRecDepth 100000 in
theorem lw_case_clear {p : Program} {l : Launch} {e : Env} {s : State} {m : MethodId} {below : List Frame} {meth : Method} {c : Code} {Q : State → Prop} {D : va_G} {cA : Nat → ClassId} {b L : Nat} {xs : Nat → Int32} {h : mj_H} {H : Heap} {locs : List Loc} {uc us : Nat} {ls : Array Slot} (hL : L ≤ 1536) (C : lw_Cx D cA p s m meth c b L xs) {Inv : mj_H → Prop} {i : Nat} (hi : i + 3 ≤ L) (hop : lw_op Inv m_Main_clear m_Mod_clear []) (hI : Inv h) (hS : mj_S D cA s.heap.size s.heap h H locs) (hl : lv_has ls 4 [(3, .int (nI i)), (0, .ref b), (1, .ref (s.heap.size + 0)), (2, .ref (s.heap.size + 93))]) (hu : uc ≤ 600000 ∧ us ≤ 7302250)
    (kk : ∀ h2, Inv h2 → ∀ (H : Heap) (locs : List Loc), mj_S D cA s.heap.size s.heap h2 H locs → W p l e room_1 s m #[Value.ref b] below meth c H locs uc us Q (F0 m 548 ls [])) : W p l e room_1 s m #[Value.ref b] below meth c H locs uc us Q (F0 m 240 ls []) := by
  have hx := C.1.1
  have hb := C.1.2.1
  obtain ⟨hc0, hcall⟩ := hop h hI
  refine lv_aload_n hx hb dl_240 rfl (lv_at hl 2 rfl) ?_
  refine lw_callV (rest := []) C hS hl.1 (a := 0) [] dl_241 rfl rfl ⟨rfl, rfl⟩ (Nat.le_of_ble_eq_true rfl) ⟨rfl, rfl⟩ hc0 hu hcall (fun r h1 H locs hp hS => ?_)
  obtain ⟨y, rfl, hc93, hp⟩ := hp
  refine lv_aload_n hx hb dl_244 rfl (lv_at hl 3 rfl) ?_
  refine lw_callV (rest := [.int y]) C hS hl.1 (a := 93) [] dl_245 rfl rfl ⟨rfl, rfl⟩ (Nat.le_of_ble_eq_true rfl) ⟨rfl, rfl⟩ hc93 hu hp (fun r h2 H locs hp hS => ?_)
  obtain ⟨rfl, hp⟩ := hp
  refine lv_icmp_eq (tgt := 548) hx hb dl_248 (by decide) (fun c9 => ?_) (fun c9 => absurd rfl c9)
  exact kk h2 hp H locs hS
set_option maxRecDepth 100000 in
theorem lw_case_turns {p : Program} {l : Launch} {e : Env} {s : State} {m : MethodId} {below : List Frame} {meth : Method} {c : Code} {Q : State → Prop} {D : va_G} {cA : Nat → ClassId} {b L : Nat} {xs : Nat → Int32} {h : mj_H} {H : Heap} {locs : List Loc} {uc us : Nat} {ls : Array Slot} (hL : L ≤ 1536) (C : lw_Cx D cA p s m meth c b L xs) {Inv : mj_H → Prop} {i : Nat} (hi : i + 3 ≤ L) (hop : lw_op Inv m_Main_turns m_Mod_turns []) (hI : Inv h) (hS : mj_S D cA s.heap.size s.heap h H locs) (hl : lv_has ls 4 [(3, .int (nI i)), (0, .ref b), (1, .ref (s.heap.size + 0)), (2, .ref (s.heap.size + 93))]) (hu : uc ≤ 600000 ∧ us ≤ 7302250)
    (kk : ∀ h2, Inv h2 → ∀ (H : Heap) (locs : List Loc), mj_S D cA s.heap.size s.heap h2 H locs → W p l e room_1 s m #[Value.ref b] below meth c H locs uc us Q (F0 m 548 ls [])) : W p l e room_1 s m #[Value.ref b] below meth c H locs uc us Q (F0 m 253 ls []) := by
  have hx := C.1.1
  have hb := C.1.2.1
  obtain ⟨hc0, hcall⟩ := hop h hI
  refine lv_aload_n hx hb dl_253 rfl (lv_at hl 2 rfl) ?_
  refine lw_callV (rest := []) C hS hl.1 (a := 0) [] dl_254 rfl rfl ⟨rfl, rfl⟩ (Nat.le_of_ble_eq_true rfl) ⟨rfl, rfl⟩ hc0 hu hcall (fun r h1 H locs hp hS => ?_)
  obtain ⟨y, rfl, hc93, hp⟩ := hp
  refine lv_aload_n hx hb dl_257 rfl (lv_at hl 3 rfl) ?_
  refine lw_callV (rest := [.int y]) C hS hl.1 (a := 93) [] dl_258 rfl rfl ⟨rfl, rfl⟩ (Nat.le_of_ble_eq_true rfl) ⟨rfl, rfl⟩ hc93 hu hp (fun r h2 H locs hp hS => ?_)
  obtain ⟨rfl, hp⟩ := hp
  refine lv_icmp_eq (tgt := 548) hx hb dl_261 (by decide) (fun c9 => ?_) (fun c9 => absurd rfl c9)
  exact kk h2 hp H locs hS
set_option maxRecDepth 100000 in
theorem lw_case_turned {p : Program} {l : Launch} {e : Env} {s : State} {m : MethodId} {below : List Frame} {meth : Method} {c : Code} {Q : State → Prop} {D : va_G} {cA : Nat → ClassId} {b L : Nat} {xs : Nat → Int32} {h : mj_H} {H : Heap} {locs : List Loc} {uc us : Nat} {ls : Array Slot} (hL : L ≤ 1536) (C : lw_Cx D cA p s m meth c b L xs) {Inv : mj_H → Prop} {i : Nat} (hi : i + 3 ≤ L) (hop : lw_op Inv m_Main_turned m_Mod_turned [.inl (xs (i + 1))]) (hI : Inv h) (hS : mj_S D cA s.heap.size s.heap h H locs) (hl : lv_has ls 4 [(3, .int (nI i)), (0, .ref b), (1, .ref (s.heap.size + 0)), (2, .ref (s.heap.size + 93))]) (hu : uc ≤ 600000 ∧ us ≤ 7302250)
    (kk : ∀ h2, Inv h2 → ∀ (H : Heap) (locs : List Loc), mj_S D cA s.heap.size s.heap h2 H locs → W p l e room_1 s m #[Value.ref b] below meth c H locs uc us Q (F0 m 548 ls [])) : W p l e room_1 s m #[Value.ref b] below meth c H locs uc us Q (F0 m 266 ls []) := by
  have hx := C.1.1
  have hb := C.1.2.1
  obtain ⟨hc0, hcall⟩ := hop h hI
  refine lv_aload_n hx hb dl_266 rfl (lv_at hl 2 rfl) ?_
  refine lv_aload_n hx hb dl_267 rfl (lv_at hl 1 rfl) ?_
  refine lv_iload_n hx hb dl_268 rfl (lv_at hl 0 rfl) ?_
  refine lv_iconst (v := 1) hx hb dl_269 (by decide) ?_
  refine lv_iadd hx hb dl_270 ?_
  refine lw_ld C hS (j := i + 1) (nI_add i 1) (by omega) hL dl_271 ?_
  refine lw_callV (rest := []) C hS hl.1 (a := 0) [.inl (xs (i + 1))] dl_272 rfl rfl ⟨rfl, rfl⟩ (Nat.le_of_ble_eq_true rfl) ⟨rfl, rfl⟩ hc0 hu hcall (fun r h1 H locs hp hS => ?_)
  obtain ⟨y, rfl, hc93, hp⟩ := hp
  refine lv_aload_n hx hb dl_275 rfl (lv_at hl 3 rfl) ?_
  refine lv_aload_n hx hb dl_276 rfl (lv_at hl 1 rfl) ?_
  refine lv_iload_n hx hb dl_277 rfl (lv_at hl 0 rfl) ?_
  refine lv_iconst (v := 1) hx hb dl_278 (by decide) ?_
  refine lv_iadd hx hb dl_279 ?_
  refine lw_ld C hS (j := i + 1) (nI_add i 1) (by omega) hL dl_280 ?_
  refine lw_callV (rest := [.int y]) C hS hl.1 (a := 93) [.inl (xs (i + 1))] dl_281 rfl rfl ⟨rfl, rfl⟩ (Nat.le_of_ble_eq_true rfl) ⟨rfl, rfl⟩ hc93 hu hp (fun r h2 H locs hp hS => ?_)
  obtain ⟨rfl, hp⟩ := hp
  refine lv_icmp_eq (tgt := 548) hx hb dl_284 (by decide) (fun c9 => ?_) (fun c9 => absurd rfl c9)
  exact kk h2 hp H locs hS
set_option maxRecDepth 100000 in
theorem lw_case_layer {p : Program} {l : Launch} {e : Env} {s : State} {m : MethodId} {below : List Frame} {meth : Method} {c : Code} {Q : State → Prop} {D : va_G} {cA : Nat → ClassId} {b L : Nat} {xs : Nat → Int32} {h : mj_H} {H : Heap} {locs : List Loc} {uc us : Nat} {ls : Array Slot} (hL : L ≤ 1536) (C : lw_Cx D cA p s m meth c b L xs) {Inv : mj_H → Prop} {i : Nat} (hi : i + 3 ≤ L) (hop : lw_op Inv m_Main_layer m_Mod_layer [.inl (xs (i + 1))]) (hI : Inv h) (hS : mj_S D cA s.heap.size s.heap h H locs) (hl : lv_has ls 4 [(3, .int (nI i)), (0, .ref b), (1, .ref (s.heap.size + 0)), (2, .ref (s.heap.size + 93))]) (hu : uc ≤ 600000 ∧ us ≤ 7302250)
    (kk : ∀ h2, Inv h2 → ∀ (H : Heap) (locs : List Loc), mj_S D cA s.heap.size s.heap h2 H locs → W p l e room_1 s m #[Value.ref b] below meth c H locs uc us Q (F0 m 548 ls [])) : W p l e room_1 s m #[Value.ref b] below meth c H locs uc us Q (F0 m 289 ls []) := by
  have hx := C.1.1
  have hb := C.1.2.1
  obtain ⟨hc0, hcall⟩ := hop h hI
  refine lv_aload_n hx hb dl_289 rfl (lv_at hl 2 rfl) ?_
  refine lv_aload_n hx hb dl_290 rfl (lv_at hl 1 rfl) ?_
  refine lv_iload_n hx hb dl_291 rfl (lv_at hl 0 rfl) ?_
  refine lv_iconst (v := 1) hx hb dl_292 (by decide) ?_
  refine lv_iadd hx hb dl_293 ?_
  refine lw_ld C hS (j := i + 1) (nI_add i 1) (by omega) hL dl_294 ?_
  refine lw_callV (rest := []) C hS hl.1 (a := 0) [.inl (xs (i + 1))] dl_295 rfl rfl ⟨rfl, rfl⟩ (Nat.le_of_ble_eq_true rfl) ⟨rfl, rfl⟩ hc0 hu hcall (fun r h1 H locs hp hS => ?_)
  obtain ⟨y, rfl, hc93, hp⟩ := hp
  refine lv_aload_n hx hb dl_298 rfl (lv_at hl 3 rfl) ?_
  refine lv_aload_n hx hb dl_299 rfl (lv_at hl 1 rfl) ?_
  refine lv_iload_n hx hb dl_300 rfl (lv_at hl 0 rfl) ?_
  refine lv_iconst (v := 1) hx hb dl_301 (by decide) ?_
  refine lv_iadd hx hb dl_302 ?_
  refine lw_ld C hS (j := i + 1) (nI_add i 1) (by omega) hL dl_303 ?_
  refine lw_callV (rest := [.int y]) C hS hl.1 (a := 93) [.inl (xs (i + 1))] dl_304 rfl rfl ⟨rfl, rfl⟩ (Nat.le_of_ble_eq_true rfl) ⟨rfl, rfl⟩ hc93 hu hp (fun r h2 H locs hp hS => ?_)
  obtain ⟨rfl, hp⟩ := hp
  refine lv_icmp_eq (tgt := 548) hx hb dl_307 (by decide) (fun c9 => ?_) (fun c9 => absurd rfl c9)
  exact kk h2 hp H locs hS
set_option maxRecDepth 100000 in
theorem lw_case_layers {p : Program} {l : Launch} {e : Env} {s : State} {m : MethodId} {below : List Frame} {meth : Method} {c : Code} {Q : State → Prop} {D : va_G} {cA : Nat → ClassId} {b L : Nat} {xs : Nat → Int32} {h : mj_H} {H : Heap} {locs : List Loc} {uc us : Nat} {ls : Array Slot} (hL : L ≤ 1536) (C : lw_Cx D cA p s m meth c b L xs) {Inv : mj_H → Prop} {i : Nat} (hi : i + 3 ≤ L) (hop : lw_op Inv m_Main_layers m_Mod_layers []) (hI : Inv h) (hS : mj_S D cA s.heap.size s.heap h H locs) (hl : lv_has ls 4 [(3, .int (nI i)), (0, .ref b), (1, .ref (s.heap.size + 0)), (2, .ref (s.heap.size + 93))]) (hu : uc ≤ 600000 ∧ us ≤ 7302250)
    (kk : ∀ h2, Inv h2 → ∀ (H : Heap) (locs : List Loc), mj_S D cA s.heap.size s.heap h2 H locs → W p l e room_1 s m #[Value.ref b] below meth c H locs uc us Q (F0 m 548 ls [])) : W p l e room_1 s m #[Value.ref b] below meth c H locs uc us Q (F0 m 312 ls []) := by
  have hx := C.1.1
  have hb := C.1.2.1
  obtain ⟨hc0, hcall⟩ := hop h hI
  refine lv_aload_n hx hb dl_312 rfl (lv_at hl 2 rfl) ?_
  refine lw_callV (rest := []) C hS hl.1 (a := 0) [] dl_313 rfl rfl ⟨rfl, rfl⟩ (Nat.le_of_ble_eq_true rfl) ⟨rfl, rfl⟩ hc0 hu hcall (fun r h1 H locs hp hS => ?_)
  obtain ⟨y, rfl, hc93, hp⟩ := hp
  refine lv_aload_n hx hb dl_316 rfl (lv_at hl 3 rfl) ?_
  refine lw_callV (rest := [.int y]) C hS hl.1 (a := 93) [] dl_317 rfl rfl ⟨rfl, rfl⟩ (Nat.le_of_ble_eq_true rfl) ⟨rfl, rfl⟩ hc93 hu hp (fun r h2 H locs hp hS => ?_)
  obtain ⟨rfl, hp⟩ := hp
  refine lv_icmp_eq (tgt := 548) hx hb dl_320 (by decide) (fun c9 => ?_) (fun c9 => absurd rfl c9)
  exact kk h2 hp H locs hS
set_option maxRecDepth 100000 in
theorem lw_case_length {p : Program} {l : Launch} {e : Env} {s : State} {m : MethodId} {below : List Frame} {meth : Method} {c : Code} {Q : State → Prop} {D : va_G} {cA : Nat → ClassId} {b L : Nat} {xs : Nat → Int32} {h : mj_H} {H : Heap} {locs : List Loc} {uc us : Nat} {ls : Array Slot} (hL : L ≤ 1536) (C : lw_Cx D cA p s m meth c b L xs) {Inv : mj_H → Prop} {i : Nat} (hi : i + 3 ≤ L) (hop : lw_op Inv m_Main_length m_Mod_length []) (hI : Inv h) (hS : mj_S D cA s.heap.size s.heap h H locs) (hl : lv_has ls 4 [(3, .int (nI i)), (0, .ref b), (1, .ref (s.heap.size + 0)), (2, .ref (s.heap.size + 93))]) (hu : uc ≤ 600000 ∧ us ≤ 7302250)
    (kk : ∀ h2, Inv h2 → ∀ (H : Heap) (locs : List Loc), mj_S D cA s.heap.size s.heap h2 H locs → W p l e room_1 s m #[Value.ref b] below meth c H locs uc us Q (F0 m 548 ls [])) : W p l e room_1 s m #[Value.ref b] below meth c H locs uc us Q (F0 m 325 ls []) := by
  have hx := C.1.1
  have hb := C.1.2.1
  obtain ⟨hc0, hcall⟩ := hop h hI
  refine lv_aload_n hx hb dl_325 rfl (lv_at hl 2 rfl) ?_
  refine lw_callV (rest := []) C hS hl.1 (a := 0) [] dl_326 rfl rfl ⟨rfl, rfl⟩ (Nat.le_of_ble_eq_true rfl) ⟨rfl, rfl⟩ hc0 hu hcall (fun r h1 H locs hp hS => ?_)
  obtain ⟨y, rfl, hc93, hp⟩ := hp
  refine lv_aload_n hx hb dl_329 rfl (lv_at hl 3 rfl) ?_
  refine lw_callV (rest := [.int y]) C hS hl.1 (a := 93) [] dl_330 rfl rfl ⟨rfl, rfl⟩ (Nat.le_of_ble_eq_true rfl) ⟨rfl, rfl⟩ hc93 hu hp (fun r h2 H locs hp hS => ?_)
  obtain ⟨rfl, hp⟩ := hp
  refine lv_icmp_eq (tgt := 548) hx hb dl_333 (by decide) (fun c9 => ?_) (fun c9 => absurd rfl c9)
  exact kk h2 hp H locs hS
set_option maxRecDepth 100000 in
theorem lw_case_bends {p : Program} {l : Launch} {e : Env} {s : State} {m : MethodId} {below : List Frame} {meth : Method} {c : Code} {Q : State → Prop} {D : va_G} {cA : Nat → ClassId} {b L : Nat} {xs : Nat → Int32} {h : mj_H} {H : Heap} {locs : List Loc} {uc us : Nat} {ls : Array Slot} (hL : L ≤ 1536) (C : lw_Cx D cA p s m meth c b L xs) {Inv : mj_H → Prop} {i : Nat} (hi : i + 3 ≤ L) (hop : lw_op Inv m_Main_bends m_Mod_bends []) (hI : Inv h) (hS : mj_S D cA s.heap.size s.heap h H locs) (hl : lv_has ls 4 [(3, .int (nI i)), (0, .ref b), (1, .ref (s.heap.size + 0)), (2, .ref (s.heap.size + 93))]) (hu : uc ≤ 600000 ∧ us ≤ 7302250)
    (kk : ∀ h2, Inv h2 → ∀ (H : Heap) (locs : List Loc), mj_S D cA s.heap.size s.heap h2 H locs → W p l e room_1 s m #[Value.ref b] below meth c H locs uc us Q (F0 m 548 ls [])) : W p l e room_1 s m #[Value.ref b] below meth c H locs uc us Q (F0 m 338 ls []) := by
  have hx := C.1.1
  have hb := C.1.2.1
  obtain ⟨hc0, hcall⟩ := hop h hI
  refine lv_aload_n hx hb dl_338 rfl (lv_at hl 2 rfl) ?_
  refine lw_callV (rest := []) C hS hl.1 (a := 0) [] dl_339 rfl rfl ⟨rfl, rfl⟩ (Nat.le_of_ble_eq_true rfl) ⟨rfl, rfl⟩ hc0 hu hcall (fun r h1 H locs hp hS => ?_)
  obtain ⟨y, rfl, hc93, hp⟩ := hp
  refine lv_aload_n hx hb dl_342 rfl (lv_at hl 3 rfl) ?_
  refine lw_callV (rest := [.int y]) C hS hl.1 (a := 93) [] dl_343 rfl rfl ⟨rfl, rfl⟩ (Nat.le_of_ble_eq_true rfl) ⟨rfl, rfl⟩ hc93 hu hp (fun r h2 H locs hp hS => ?_)
  obtain ⟨rfl, hp⟩ := hp
  refine lv_icmp_eq (tgt := 548) hx hb dl_346 (by decide) (fun c9 => ?_) (fun c9 => absurd rfl c9)
  exact kk h2 hp H locs hS
set_option maxRecDepth 100000 in
theorem lw_case_run {p : Program} {l : Launch} {e : Env} {s : State} {m : MethodId} {below : List Frame} {meth : Method} {c : Code} {Q : State → Prop} {D : va_G} {cA : Nat → ClassId} {b L : Nat} {xs : Nat → Int32} {h : mj_H} {H : Heap} {locs : List Loc} {uc us : Nat} {ls : Array Slot} (hL : L ≤ 1536) (C : lw_Cx D cA p s m meth c b L xs) {Inv : mj_H → Prop} {i : Nat} (hi : i + 3 ≤ L) (hop : lw_op Inv m_Main_run m_Mod_run [.inl (xs (i + 1))]) (hI : Inv h) (hS : mj_S D cA s.heap.size s.heap h H locs) (hl : lv_has ls 4 [(3, .int (nI i)), (0, .ref b), (1, .ref (s.heap.size + 0)), (2, .ref (s.heap.size + 93))]) (hu : uc ≤ 600000 ∧ us ≤ 7302250)
    (kk : ∀ h2, Inv h2 → ∀ (H : Heap) (locs : List Loc), mj_S D cA s.heap.size s.heap h2 H locs → W p l e room_1 s m #[Value.ref b] below meth c H locs uc us Q (F0 m 548 ls [])) : W p l e room_1 s m #[Value.ref b] below meth c H locs uc us Q (F0 m 351 ls []) := by
  have hx := C.1.1
  have hb := C.1.2.1
  obtain ⟨hc0, hcall⟩ := hop h hI
  refine lv_aload_n hx hb dl_351 rfl (lv_at hl 2 rfl) ?_
  refine lv_aload_n hx hb dl_352 rfl (lv_at hl 1 rfl) ?_
  refine lv_iload_n hx hb dl_353 rfl (lv_at hl 0 rfl) ?_
  refine lv_iconst (v := 1) hx hb dl_354 (by decide) ?_
  refine lv_iadd hx hb dl_355 ?_
  refine lw_ld C hS (j := i + 1) (nI_add i 1) (by omega) hL dl_356 ?_
  refine lw_callV (rest := []) C hS hl.1 (a := 0) [.inl (xs (i + 1))] dl_357 rfl rfl ⟨rfl, rfl⟩ (Nat.le_of_ble_eq_true rfl) ⟨rfl, rfl⟩ hc0 hu hcall (fun r h1 H locs hp hS => ?_)
  obtain ⟨y, rfl, hc93, hp⟩ := hp
  refine lv_aload_n hx hb dl_360 rfl (lv_at hl 3 rfl) ?_
  refine lv_aload_n hx hb dl_361 rfl (lv_at hl 1 rfl) ?_
  refine lv_iload_n hx hb dl_362 rfl (lv_at hl 0 rfl) ?_
  refine lv_iconst (v := 1) hx hb dl_363 (by decide) ?_
  refine lv_iadd hx hb dl_364 ?_
  refine lw_ld C hS (j := i + 1) (nI_add i 1) (by omega) hL dl_365 ?_
  refine lw_callV (rest := [.int y]) C hS hl.1 (a := 93) [.inl (xs (i + 1))] dl_366 rfl rfl ⟨rfl, rfl⟩ (Nat.le_of_ble_eq_true rfl) ⟨rfl, rfl⟩ hc93 hu hp (fun r h2 H locs hp hS => ?_)
  obtain ⟨rfl, hp⟩ := hp
  refine lv_icmp_eq (tgt := 548) hx hb dl_369 (by decide) (fun c9 => ?_) (fun c9 => absurd rfl c9)
  exact kk h2 hp H locs hS
set_option maxRecDepth 100000 in
theorem lw_case_round {p : Program} {l : Launch} {e : Env} {s : State} {m : MethodId} {below : List Frame} {meth : Method} {c : Code} {Q : State → Prop} {D : va_G} {cA : Nat → ClassId} {b L : Nat} {xs : Nat → Int32} {h : mj_H} {H : Heap} {locs : List Loc} {uc us : Nat} {ls : Array Slot} (hL : L ≤ 1536) (C : lw_Cx D cA p s m meth c b L xs) {Inv : mj_H → Prop} {i : Nat} (hi : i + 3 ≤ L) (hop : lw_op Inv m_Main_round m_Mod_round []) (hI : Inv h) (hS : mj_S D cA s.heap.size s.heap h H locs) (hl : lv_has ls 4 [(3, .int (nI i)), (0, .ref b), (1, .ref (s.heap.size + 0)), (2, .ref (s.heap.size + 93))]) (hu : uc ≤ 600000 ∧ us ≤ 7302250)
    (kk : ∀ h2, Inv h2 → ∀ (H : Heap) (locs : List Loc), mj_S D cA s.heap.size s.heap h2 H locs → W p l e room_1 s m #[Value.ref b] below meth c H locs uc us Q (F0 m 548 ls [])) : W p l e room_1 s m #[Value.ref b] below meth c H locs uc us Q (F0 m 374 ls []) := by
  have hx := C.1.1
  have hb := C.1.2.1
  obtain ⟨hc0, hcall⟩ := hop h hI
  refine lv_aload_n hx hb dl_374 rfl (lv_at hl 2 rfl) ?_
  refine lw_callV (rest := []) C hS hl.1 (a := 0) [] dl_375 rfl rfl ⟨rfl, rfl⟩ (Nat.le_of_ble_eq_true rfl) ⟨rfl, rfl⟩ hc0 hu hcall (fun r h1 H locs hp hS => ?_)
  obtain ⟨y, rfl, hc93, hp⟩ := hp
  refine lv_aload_n hx hb dl_378 rfl (lv_at hl 3 rfl) ?_
  refine lw_callV (rest := [.int y]) C hS hl.1 (a := 93) [] dl_379 rfl rfl ⟨rfl, rfl⟩ (Nat.le_of_ble_eq_true rfl) ⟨rfl, rfl⟩ hc93 hu hp (fun r h2 H locs hp hS => ?_)
  obtain ⟨rfl, hp⟩ := hp
  refine lv_icmp_eq (tgt := 548) hx hb dl_382 (by decide) (fun c9 => ?_) (fun c9 => absurd rfl c9)
  exact kk h2 hp H locs hS
set_option maxRecDepth 100000 in
theorem lw_case_count {p : Program} {l : Launch} {e : Env} {s : State} {m : MethodId} {below : List Frame} {meth : Method} {c : Code} {Q : State → Prop} {D : va_G} {cA : Nat → ClassId} {b L : Nat} {xs : Nat → Int32} {h : mj_H} {H : Heap} {locs : List Loc} {uc us : Nat} {ls : Array Slot} (hL : L ≤ 1536) (C : lw_Cx D cA p s m meth c b L xs) {Inv : mj_H → Prop} {i : Nat} (hi : i + 3 ≤ L) (hop : lw_op Inv m_Main_count m_Mod_count [.inl (xs (i + 1))]) (hI : Inv h) (hS : mj_S D cA s.heap.size s.heap h H locs) (hl : lv_has ls 4 [(3, .int (nI i)), (0, .ref b), (1, .ref (s.heap.size + 0)), (2, .ref (s.heap.size + 93))]) (hu : uc ≤ 600000 ∧ us ≤ 7302250)
    (kk : ∀ h2, Inv h2 → ∀ (H : Heap) (locs : List Loc), mj_S D cA s.heap.size s.heap h2 H locs → W p l e room_1 s m #[Value.ref b] below meth c H locs uc us Q (F0 m 548 ls [])) : W p l e room_1 s m #[Value.ref b] below meth c H locs uc us Q (F0 m 387 ls []) := by
  have hx := C.1.1
  have hb := C.1.2.1
  obtain ⟨hc0, hcall⟩ := hop h hI
  refine lv_aload_n hx hb dl_387 rfl (lv_at hl 2 rfl) ?_
  refine lv_aload_n hx hb dl_388 rfl (lv_at hl 1 rfl) ?_
  refine lv_iload_n hx hb dl_389 rfl (lv_at hl 0 rfl) ?_
  refine lv_iconst (v := 1) hx hb dl_390 (by decide) ?_
  refine lv_iadd hx hb dl_391 ?_
  refine lw_ld C hS (j := i + 1) (nI_add i 1) (by omega) hL dl_392 ?_
  refine lw_callV (rest := []) C hS hl.1 (a := 0) [.inl (xs (i + 1))] dl_393 rfl rfl ⟨rfl, rfl⟩ (Nat.le_of_ble_eq_true rfl) ⟨rfl, rfl⟩ hc0 hu hcall (fun r h1 H locs hp hS => ?_)
  obtain ⟨y, rfl, hc93, hp⟩ := hp
  refine lv_aload_n hx hb dl_396 rfl (lv_at hl 3 rfl) ?_
  refine lv_aload_n hx hb dl_397 rfl (lv_at hl 1 rfl) ?_
  refine lv_iload_n hx hb dl_398 rfl (lv_at hl 0 rfl) ?_
  refine lv_iconst (v := 1) hx hb dl_399 (by decide) ?_
  refine lv_iadd hx hb dl_400 ?_
  refine lw_ld C hS (j := i + 1) (nI_add i 1) (by omega) hL dl_401 ?_
  refine lw_callV (rest := [.int y]) C hS hl.1 (a := 93) [.inl (xs (i + 1))] dl_402 rfl rfl ⟨rfl, rfl⟩ (Nat.le_of_ble_eq_true rfl) ⟨rfl, rfl⟩ hc93 hu hp (fun r h2 H locs hp hS => ?_)
  obtain ⟨rfl, hp⟩ := hp
  refine lv_icmp_eq (tgt := 548) hx hb dl_405 (by decide) (fun c9 => ?_) (fun c9 => absurd rfl c9)
  exact kk h2 hp H locs hS
set_option maxRecDepth 100000 in
theorem lw_case_item {p : Program} {l : Launch} {e : Env} {s : State} {m : MethodId} {below : List Frame} {meth : Method} {c : Code} {Q : State → Prop} {D : va_G} {cA : Nat → ClassId} {b L : Nat} {xs : Nat → Int32} {h : mj_H} {H : Heap} {locs : List Loc} {uc us : Nat} {ls : Array Slot} (hL : L ≤ 1536) (C : lw_Cx D cA p s m meth c b L xs) {Inv : mj_H → Prop} {i : Nat} (hi : i + 3 ≤ L) (hop : lw_op Inv m_Main_item m_Mod_item [.inl (xs (i + 1)), .inl (xs (i + 2))]) (hI : Inv h) (hS : mj_S D cA s.heap.size s.heap h H locs) (hl : lv_has ls 4 [(3, .int (nI i)), (0, .ref b), (1, .ref (s.heap.size + 0)), (2, .ref (s.heap.size + 93))]) (hu : uc ≤ 600000 ∧ us ≤ 7302250)
    (kk : ∀ h2, Inv h2 → ∀ (H : Heap) (locs : List Loc), mj_S D cA s.heap.size s.heap h2 H locs → W p l e room_1 s m #[Value.ref b] below meth c H locs uc us Q (F0 m 548 ls [])) : W p l e room_1 s m #[Value.ref b] below meth c H locs uc us Q (F0 m 410 ls []) := by
  have hx := C.1.1
  have hb := C.1.2.1
  obtain ⟨hc0, hcall⟩ := hop h hI
  refine lv_aload_n hx hb dl_410 rfl (lv_at hl 2 rfl) ?_
  refine lv_aload_n hx hb dl_411 rfl (lv_at hl 1 rfl) ?_
  refine lv_iload_n hx hb dl_412 rfl (lv_at hl 0 rfl) ?_
  refine lv_iconst (v := 1) hx hb dl_413 (by decide) ?_
  refine lv_iadd hx hb dl_414 ?_
  refine lw_ld C hS (j := i + 1) (nI_add i 1) (by omega) hL dl_415 ?_
  refine lv_aload_n hx hb dl_416 rfl (lv_at hl 1 rfl) ?_
  refine lv_iload_n hx hb dl_417 rfl (lv_at hl 0 rfl) ?_
  refine lv_iconst (v := 2) hx hb dl_418 (by decide) ?_
  refine lv_iadd hx hb dl_419 ?_
  refine lw_ld C hS (j := i + 2) (nI_add i 2) (by omega) hL dl_420 ?_
  refine lw_callV (rest := []) C hS hl.1 (a := 0) [.inl (xs (i + 1)), .inl (xs (i + 2))] dl_421 rfl rfl ⟨rfl, rfl⟩ (Nat.le_of_ble_eq_true rfl) ⟨rfl, rfl⟩ hc0 hu hcall (fun r h1 H locs hp hS => ?_)
  obtain ⟨y, rfl, hc93, hp⟩ := hp
  refine lv_aload_n hx hb dl_424 rfl (lv_at hl 3 rfl) ?_
  refine lv_aload_n hx hb dl_425 rfl (lv_at hl 1 rfl) ?_
  refine lv_iload_n hx hb dl_426 rfl (lv_at hl 0 rfl) ?_
  refine lv_iconst (v := 1) hx hb dl_427 (by decide) ?_
  refine lv_iadd hx hb dl_428 ?_
  refine lw_ld C hS (j := i + 1) (nI_add i 1) (by omega) hL dl_429 ?_
  refine lv_aload_n hx hb dl_430 rfl (lv_at hl 1 rfl) ?_
  refine lv_iload_n hx hb dl_431 rfl (lv_at hl 0 rfl) ?_
  refine lv_iconst (v := 2) hx hb dl_432 (by decide) ?_
  refine lv_iadd hx hb dl_433 ?_
  refine lw_ld C hS (j := i + 2) (nI_add i 2) (by omega) hL dl_434 ?_
  refine lw_callV (rest := [.int y]) C hS hl.1 (a := 93) [.inl (xs (i + 1)), .inl (xs (i + 2))] dl_435 rfl rfl ⟨rfl, rfl⟩ (Nat.le_of_ble_eq_true rfl) ⟨rfl, rfl⟩ hc93 hu hp (fun r h2 H locs hp hS => ?_)
  obtain ⟨rfl, hp⟩ := hp
  refine lv_icmp_eq (tgt := 548) hx hb dl_438 (by decide) (fun c9 => ?_) (fun c9 => absurd rfl c9)
  exact kk h2 hp H locs hS
set_option maxRecDepth 100000 in
theorem lw_case_fewest {p : Program} {l : Launch} {e : Env} {s : State} {m : MethodId} {below : List Frame} {meth : Method} {c : Code} {Q : State → Prop} {D : va_G} {cA : Nat → ClassId} {b L : Nat} {xs : Nat → Int32} {h : mj_H} {H : Heap} {locs : List Loc} {uc us : Nat} {ls : Array Slot} (hL : L ≤ 1536) (C : lw_Cx D cA p s m meth c b L xs) {Inv : mj_H → Prop} {i : Nat} (hi : i + 3 ≤ L) (hop : lw_op Inv m_Main_fewest m_Mod_fewest []) (hI : Inv h) (hS : mj_S D cA s.heap.size s.heap h H locs) (hl : lv_has ls 4 [(3, .int (nI i)), (0, .ref b), (1, .ref (s.heap.size + 0)), (2, .ref (s.heap.size + 93))]) (hu : uc ≤ 600000 ∧ us ≤ 7302250)
    (kk : ∀ h2, Inv h2 → ∀ (H : Heap) (locs : List Loc), mj_S D cA s.heap.size s.heap h2 H locs → W p l e room_1 s m #[Value.ref b] below meth c H locs uc us Q (F0 m 548 ls [])) : W p l e room_1 s m #[Value.ref b] below meth c H locs uc us Q (F0 m 443 ls []) := by
  have hx := C.1.1
  have hb := C.1.2.1
  obtain ⟨hc0, hcall⟩ := hop h hI
  refine lv_aload_n hx hb dl_443 rfl (lv_at hl 2 rfl) ?_
  refine lw_callV (rest := []) C hS hl.1 (a := 0) [] dl_444 rfl rfl ⟨rfl, rfl⟩ (Nat.le_of_ble_eq_true rfl) ⟨rfl, rfl⟩ hc0 hu hcall (fun r h1 H locs hp hS => ?_)
  obtain ⟨y, rfl, hc93, hp⟩ := hp
  refine lv_aload_n hx hb dl_447 rfl (lv_at hl 3 rfl) ?_
  refine lw_callV (rest := [.int y]) C hS hl.1 (a := 93) [] dl_448 rfl rfl ⟨rfl, rfl⟩ (Nat.le_of_ble_eq_true rfl) ⟨rfl, rfl⟩ hc93 hu hp (fun r h2 H locs hp hS => ?_)
  obtain ⟨rfl, hp⟩ := hp
  refine lv_icmp_eq (tgt := 548) hx hb dl_451 (by decide) (fun c9 => ?_) (fun c9 => absurd rfl c9)
  exact kk h2 hp H locs hS
set_option maxRecDepth 100000 in
theorem lw_case_place {p : Program} {l : Launch} {e : Env} {s : State} {m : MethodId} {below : List Frame} {meth : Method} {c : Code} {Q : State → Prop} {D : va_G} {cA : Nat → ClassId} {b L : Nat} {xs : Nat → Int32} {h : mj_H} {H : Heap} {locs : List Loc} {uc us : Nat} {ls : Array Slot} (hL : L ≤ 1536) (C : lw_Cx D cA p s m meth c b L xs) {Inv : mj_H → Prop} {i : Nat} (hi : i + 3 ≤ L) (hop : lw_op Inv m_Main_place m_Mod_place [.inl (xs (i + 1))]) (hI : Inv h) (hS : mj_S D cA s.heap.size s.heap h H locs) (hl : lv_has ls 4 [(3, .int (nI i)), (0, .ref b), (1, .ref (s.heap.size + 0)), (2, .ref (s.heap.size + 93))]) (hu : uc ≤ 600000 ∧ us ≤ 7302250)
    (kk : ∀ h2, Inv h2 → ∀ (H : Heap) (locs : List Loc), mj_S D cA s.heap.size s.heap h2 H locs → W p l e room_1 s m #[Value.ref b] below meth c H locs uc us Q (F0 m 548 ls [])) : W p l e room_1 s m #[Value.ref b] below meth c H locs uc us Q (F0 m 456 ls []) := by
  have hx := C.1.1
  have hb := C.1.2.1
  obtain ⟨hc0, hcall⟩ := hop h hI
  refine lv_aload_n hx hb dl_456 rfl (lv_at hl 2 rfl) ?_
  refine lv_aload_n hx hb dl_457 rfl (lv_at hl 1 rfl) ?_
  refine lv_iload_n hx hb dl_458 rfl (lv_at hl 0 rfl) ?_
  refine lv_iconst (v := 1) hx hb dl_459 (by decide) ?_
  refine lv_iadd hx hb dl_460 ?_
  refine lw_ld C hS (j := i + 1) (nI_add i 1) (by omega) hL dl_461 ?_
  refine lw_callV (rest := []) C hS hl.1 (a := 0) [.inl (xs (i + 1))] dl_462 rfl rfl ⟨rfl, rfl⟩ (Nat.le_of_ble_eq_true rfl) ⟨rfl, rfl⟩ hc0 hu hcall (fun r h1 H locs hp hS => ?_)
  obtain ⟨y, rfl, hc93, hp⟩ := hp
  refine lv_aload_n hx hb dl_465 rfl (lv_at hl 3 rfl) ?_
  refine lv_aload_n hx hb dl_466 rfl (lv_at hl 1 rfl) ?_
  refine lv_iload_n hx hb dl_467 rfl (lv_at hl 0 rfl) ?_
  refine lv_iconst (v := 1) hx hb dl_468 (by decide) ?_
  refine lv_iadd hx hb dl_469 ?_
  refine lw_ld C hS (j := i + 1) (nI_add i 1) (by omega) hL dl_470 ?_
  refine lw_callV (rest := [.int y]) C hS hl.1 (a := 93) [.inl (xs (i + 1))] dl_471 rfl rfl ⟨rfl, rfl⟩ (Nat.le_of_ble_eq_true rfl) ⟨rfl, rfl⟩ hc93 hu hp (fun r h2 H locs hp hS => ?_)
  obtain ⟨rfl, hp⟩ := hp
  refine lv_icmp_eq (tgt := 548) hx hb dl_474 (by decide) (fun c9 => ?_) (fun c9 => absurd rfl c9)
  exact kk h2 hp H locs hS
set_option maxRecDepth 100000 in
theorem lw_case_route {p : Program} {l : Launch} {e : Env} {s : State} {m : MethodId} {below : List Frame} {meth : Method} {c : Code} {Q : State → Prop} {D : va_G} {cA : Nat → ClassId} {b L : Nat} {xs : Nat → Int32} {h : mj_H} {H : Heap} {locs : List Loc} {uc us : Nat} {ls : Array Slot} (hL : L ≤ 1536) (C : lw_Cx D cA p s m meth c b L xs) {Inv : mj_H → Prop} {i : Nat} (hi : i + 3 ≤ L) (hop : lw_op Inv m_Main_route m_Mod_route [.inl (xs (i + 1)), .inl (xs (i + 2))]) (hI : Inv h) (hS : mj_S D cA s.heap.size s.heap h H locs) (hl : lv_has ls 4 [(3, .int (nI i)), (0, .ref b), (1, .ref (s.heap.size + 0)), (2, .ref (s.heap.size + 93))]) (hu : uc ≤ 600000 ∧ us ≤ 7302250)
    (kk : ∀ h2, Inv h2 → ∀ (H : Heap) (locs : List Loc), mj_S D cA s.heap.size s.heap h2 H locs → W p l e room_1 s m #[Value.ref b] below meth c H locs uc us Q (F0 m 548 ls [])) : W p l e room_1 s m #[Value.ref b] below meth c H locs uc us Q (F0 m 479 ls []) := by
  have hx := C.1.1
  have hb := C.1.2.1
  obtain ⟨hc0, hcall⟩ := hop h hI
  refine lv_aload_n hx hb dl_479 rfl (lv_at hl 2 rfl) ?_
  refine lv_aload_n hx hb dl_480 rfl (lv_at hl 1 rfl) ?_
  refine lv_iload_n hx hb dl_481 rfl (lv_at hl 0 rfl) ?_
  refine lv_iconst (v := 1) hx hb dl_482 (by decide) ?_
  refine lv_iadd hx hb dl_483 ?_
  refine lw_ld C hS (j := i + 1) (nI_add i 1) (by omega) hL dl_484 ?_
  refine lv_aload_n hx hb dl_485 rfl (lv_at hl 1 rfl) ?_
  refine lv_iload_n hx hb dl_486 rfl (lv_at hl 0 rfl) ?_
  refine lv_iconst (v := 2) hx hb dl_487 (by decide) ?_
  refine lv_iadd hx hb dl_488 ?_
  refine lw_ld C hS (j := i + 2) (nI_add i 2) (by omega) hL dl_489 ?_
  refine lw_callV (rest := []) C hS hl.1 (a := 0) [.inl (xs (i + 1)), .inl (xs (i + 2))] dl_490 rfl rfl ⟨rfl, rfl⟩ (Nat.le_of_ble_eq_true rfl) ⟨rfl, rfl⟩ hc0 hu hcall (fun r h1 H locs hp hS => ?_)
  obtain ⟨y, rfl, hc93, hp⟩ := hp
  refine lv_aload_n hx hb dl_493 rfl (lv_at hl 3 rfl) ?_
  refine lv_aload_n hx hb dl_494 rfl (lv_at hl 1 rfl) ?_
  refine lv_iload_n hx hb dl_495 rfl (lv_at hl 0 rfl) ?_
  refine lv_iconst (v := 1) hx hb dl_496 (by decide) ?_
  refine lv_iadd hx hb dl_497 ?_
  refine lw_ld C hS (j := i + 1) (nI_add i 1) (by omega) hL dl_498 ?_
  refine lv_aload_n hx hb dl_499 rfl (lv_at hl 1 rfl) ?_
  refine lv_iload_n hx hb dl_500 rfl (lv_at hl 0 rfl) ?_
  refine lv_iconst (v := 2) hx hb dl_501 (by decide) ?_
  refine lv_iadd hx hb dl_502 ?_
  refine lw_ld C hS (j := i + 2) (nI_add i 2) (by omega) hL dl_503 ?_
  refine lw_callV (rest := [.int y]) C hS hl.1 (a := 93) [.inl (xs (i + 1)), .inl (xs (i + 2))] dl_504 rfl rfl ⟨rfl, rfl⟩ (Nat.le_of_ble_eq_true rfl) ⟨rfl, rfl⟩ hc93 hu hp (fun r h2 H locs hp hS => ?_)
  obtain ⟨rfl, hp⟩ := hp
  refine lv_icmp_eq (tgt := 548) hx hb dl_507 (by decide) (fun c9 => ?_) (fun c9 => absurd rfl c9)
  exact kk h2 hp H locs hS
set_option maxRecDepth 100000 in
theorem lw_case_wide {p : Program} {l : Launch} {e : Env} {s : State} {m : MethodId} {below : List Frame} {meth : Method} {c : Code} {Q : State → Prop} {D : va_G} {cA : Nat → ClassId} {b L : Nat} {xs : Nat → Int32} {h : mj_H} {H : Heap} {locs : List Loc} {uc us : Nat} {ls : Array Slot} (hL : L ≤ 1536) (C : lw_Cx D cA p s m meth c b L xs) {Inv : mj_H → Prop} {i : Nat} (hi : i + 3 ≤ L) (hop : lw_op Inv m_Main_wide m_Mod_wide []) (hI : Inv h) (hS : mj_S D cA s.heap.size s.heap h H locs) (hl : lv_has ls 4 [(3, .int (nI i)), (0, .ref b), (1, .ref (s.heap.size + 0)), (2, .ref (s.heap.size + 93))]) (hu : uc ≤ 600000 ∧ us ≤ 7302250)
    (kk : ∀ h2, Inv h2 → ∀ (H : Heap) (locs : List Loc), mj_S D cA s.heap.size s.heap h2 H locs → W p l e room_1 s m #[Value.ref b] below meth c H locs uc us Q (F0 m 548 ls [])) : W p l e room_1 s m #[Value.ref b] below meth c H locs uc us Q (F0 m 512 ls []) := by
  have hx := C.1.1
  have hb := C.1.2.1
  obtain ⟨hc0, hcall⟩ := hop h hI
  refine lv_aload_n hx hb dl_512 rfl (lv_at hl 2 rfl) ?_
  refine lw_callV (rest := []) C hS hl.1 (a := 0) [] dl_513 rfl rfl ⟨rfl, rfl⟩ (Nat.le_of_ble_eq_true rfl) ⟨rfl, rfl⟩ hc0 hu hcall (fun r h1 H locs hp hS => ?_)
  obtain ⟨y, rfl, hc93, hp⟩ := hp
  refine lv_aload_n hx hb dl_516 rfl (lv_at hl 3 rfl) ?_
  refine lw_callV (rest := [.int y]) C hS hl.1 (a := 93) [] dl_517 rfl rfl ⟨rfl, rfl⟩ (Nat.le_of_ble_eq_true rfl) ⟨rfl, rfl⟩ hc93 hu hp (fun r h2 H locs hp hS => ?_)
  obtain ⟨rfl, hp⟩ := hp
  refine lv_icmp_eq (tgt := 548) hx hb dl_520 (by decide) (fun c9 => ?_) (fun c9 => absurd rfl c9)
  exact kk h2 hp H locs hS
set_option maxRecDepth 100000 in
theorem lw_case_tidy {p : Program} {l : Launch} {e : Env} {s : State} {m : MethodId} {below : List Frame} {meth : Method} {c : Code} {Q : State → Prop} {D : va_G} {cA : Nat → ClassId} {b L : Nat} {xs : Nat → Int32} {h : mj_H} {H : Heap} {locs : List Loc} {uc us : Nat} {ls : Array Slot} (hL : L ≤ 1536) (C : lw_Cx D cA p s m meth c b L xs) {Inv : mj_H → Prop} {i : Nat} (hi : i + 3 ≤ L) (hop : lw_op Inv m_Main_tidy m_Mod_tidy [.inl (xs (i + 1))]) (hI : Inv h) (hS : mj_S D cA s.heap.size s.heap h H locs) (hl : lv_has ls 4 [(3, .int (nI i)), (0, .ref b), (1, .ref (s.heap.size + 0)), (2, .ref (s.heap.size + 93))]) (hu : uc ≤ 600000 ∧ us ≤ 7302250)
    (kk : ∀ h2, Inv h2 → ∀ (H : Heap) (locs : List Loc), mj_S D cA s.heap.size s.heap h2 H locs → W p l e room_1 s m #[Value.ref b] below meth c H locs uc us Q (F0 m 548 ls [])) : W p l e room_1 s m #[Value.ref b] below meth c H locs uc us Q (F0 m 525 ls []) := by
  have hx := C.1.1
  have hb := C.1.2.1
  obtain ⟨hc0, hcall⟩ := hop h hI
  refine lv_aload_n hx hb dl_525 rfl (lv_at hl 2 rfl) ?_
  refine lv_aload_n hx hb dl_526 rfl (lv_at hl 1 rfl) ?_
  refine lv_iload_n hx hb dl_527 rfl (lv_at hl 0 rfl) ?_
  refine lv_iconst (v := 1) hx hb dl_528 (by decide) ?_
  refine lv_iadd hx hb dl_529 ?_
  refine lw_ld C hS (j := i + 1) (nI_add i 1) (by omega) hL dl_530 ?_
  refine lw_callV (rest := []) C hS hl.1 (a := 0) [.inl (xs (i + 1))] dl_531 rfl rfl ⟨rfl, rfl⟩ (Nat.le_of_ble_eq_true rfl) ⟨rfl, rfl⟩ hc0 hu hcall (fun r h1 H locs hp hS => ?_)
  obtain ⟨y, rfl, hc93, hp⟩ := hp
  refine lv_aload_n hx hb dl_534 rfl (lv_at hl 3 rfl) ?_
  refine lv_aload_n hx hb dl_535 rfl (lv_at hl 1 rfl) ?_
  refine lv_iload_n hx hb dl_536 rfl (lv_at hl 0 rfl) ?_
  refine lv_iconst (v := 1) hx hb dl_537 (by decide) ?_
  refine lv_iadd hx hb dl_538 ?_
  refine lw_ld C hS (j := i + 1) (nI_add i 1) (by omega) hL dl_539 ?_
  refine lw_callV (rest := [.int y]) C hS hl.1 (a := 93) [.inl (xs (i + 1))] dl_540 rfl rfl ⟨rfl, rfl⟩ (Nat.le_of_ble_eq_true rfl) ⟨rfl, rfl⟩ hc93 hu hp (fun r h2 H locs hp hS => ?_)
  obtain ⟨rfl, hp⟩ := hp
  refine lv_icmp_eq (tgt := 548) hx hb dl_543 (by decide) (fun c9 => ?_) (fun c9 => absurd rfl c9)
  exact kk h2 hp H locs hS
end
section
set_option maxRecDepth 100000 in
set_option maxHeartbeats 4000000 in
theorem lw_loop {p : Program} {l : Launch} {e : Env} {s : State} {m : MethodId} {below : List Frame} {meth : Method} {c : Code} {D : va_G} {cA : Nat → ClassId} {b L : Nat} {xs : Nat → Int32} {uc us : Nat} (hL : L ≤ 1536) (C : lw_Cx D cA p s m meth c b L xs) {Inv : mj_H → Prop} (hA : lw_all Inv) (hu : uc ≤ 600000 ∧ us ≤ 7302250) : ∀ (n i : Nat), i ≤ L + 2 → L + 3 - i < n → ∀ h, Inv h → ∀ (H : Heap) (locs : List Loc), mj_S D cA s.heap.size s.heap h H locs → ∀ ls : Array Slot, lv_has ls 4 [(3, .int (nI i)), (0, .ref b), (1, .ref (s.heap.size + 0)), (2, .ref (s.heap.size + 93))] → W p l e room_1 s m #[Value.ref b] below meth c H locs uc us (lw_Z below #[Value.ref b] s) (F0 m 18 ls [])
  | 0, i, _, hn, _, _, _, _, _, _, _ => absurd hn (by omega)
  | n + 1, i, hi, hn, h, hI, H, locs, hS, ls, hl => by
    have hx := C.1.1
    have hb := C.1.2.1
    refine lv_iload_n hx hb dl_18 rfl (lv_at hl 0 rfl) ?_
    refine lv_aload_n hx hb dl_19 rfl (lv_at hl 1 rfl) ?_
    refine lw_len C hS dl_20 ?_
    refine lv_iconst (v := 3) hx hb dl_21 (by decide) ?_
    refine lv_isub hx hb dl_22 ?_
    refine lv_icmp_gt (tgt := 554) hx hb dl_23 (by decide) (fun c1 => ?_) (fun c1 => ?_)
    · refine lv_iconst (v := 1) hx hb dl_554 (by decide) ?_
      refine va_forget (fun q hq => hS.2.2 q hq) ?_
      refine W.widen hu.1 hu.2 ?_
      exact lw_ret hx hb C.1.2.2.1 C.1.2.2.2.2.2.2.2.2.1 dl_555
    · have hi3 : i + 3 ≤ L := lw_lt3 hL hi c1
      have kk : ∀ h2, Inv h2 → ∀ (H : Heap) (locs : List Loc), mj_S D cA s.heap.size s.heap h2 H locs → W p l e room_1 s m #[Value.ref b] below meth c H locs uc us (lw_Z below #[Value.ref b] s) (F0 m 548 ls []) := by
        intro h2 hI2 H locs hS
        refine lv_iinc (v := nI (i + 3)) (lv' := [(3, .int (nI (i + 3))), (0, .ref b), (1, .ref (s.heap.size + 0)), (2, .ref (s.heap.size + 93))]) hx hb dl_548 hl (k := 0) rfl (nI_add i 3) (by decide) rfl (fun ls hl => ?_)
        refine lv_goto (tgt := 18) hx hb dl_551 (by decide) ?_
        exact lw_loop hL C hA hu n (i + 3) (by omega) (by omega) h2 hI2 H locs hS ls hl
      refine lv_aload_n hx hb dl_26 rfl (lv_at hl 1 rfl) ?_
      refine lv_iload_n hx hb dl_27 rfl (lv_at hl 0 rfl) ?_
      refine lw_ld C hS (j := i) rfl (by omega) hL dl_28 ?_
      refine lv_bipush (v := 31) hx hb dl_29 (by decide) ?_
      refine lv_iand hx hb dl_31 ?_
      obtain ⟨j, hj, ej⟩ := pk_andE (xs i) (m := 31) 5 (by decide)
      rw [ej]
      have ht : (nI j).toInt = (j : Int) := nI_toInt (by omega)
      by_cases h0 : j = 0
      · subst h0
        refine lv_tableIn (off := 96) (tgt := 128) hx hb dl_32 (by rw [ht]; decide) (by rw [ht]; decide) (by rw [ht]; rfl) (by decide) ?_
        exact lw_case_node hL C hi3 (hA.2.1 (xs (i + 1))) hI hS hl hu kk
      by_cases h1 : j = 1
      · subst h1
        refine lv_tableIn (off := 119) (tgt := 151) hx hb dl_32 (by rw [ht]; decide) (by rw [ht]; decide) (by rw [ht]; rfl) (by decide) ?_
        exact lw_case_width hL C hi3 (hA.2.2.1 (xs (i + 1)) (xs (i + 2))) hI hS hl hu kk
      by_cases h2 : j = 2
      · subst h2
        refine lv_tableIn (off := 152) (tgt := 184) hx hb dl_32 (by rw [ht]; decide) (by rw [ht]; decide) (by rw [ht]; rfl) (by decide) ?_
        exact lw_case_arc hL C hi3 (hA.2.2.2.1 (xs (i + 1)) (xs (i + 2))) hI hS hl hu kk
      by_cases h3 : j = 3
      · subst h3
        refine lv_tableIn (off := 185) (tgt := 217) hx hb dl_32 (by rw [ht]; decide) (by rw [ht]; decide) (by rw [ht]; rfl) (by decide) ?_
        exact lw_case_drop hL C hi3 (hA.2.2.2.2.1 (xs (i + 1))) hI hS hl hu kk
      by_cases h4 : j = 4
      · subst h4
        refine lv_tableIn (off := 208) (tgt := 240) hx hb dl_32 (by rw [ht]; decide) (by rw [ht]; decide) (by rw [ht]; rfl) (by decide) ?_
        exact lw_case_clear hL C hi3 (hA.2.2.2.2.2.1 ()) hI hS hl hu kk
      by_cases h5 : j = 5
      · subst h5
        refine lv_tableIn (off := 221) (tgt := 253) hx hb dl_32 (by rw [ht]; decide) (by rw [ht]; decide) (by rw [ht]; rfl) (by decide) ?_
        exact lw_case_turns hL C hi3 (hA.2.2.2.2.2.2.1 ()) hI hS hl hu kk
      by_cases h6 : j = 6
      · subst h6
        refine lv_tableIn (off := 234) (tgt := 266) hx hb dl_32 (by rw [ht]; decide) (by rw [ht]; decide) (by rw [ht]; rfl) (by decide) ?_
        exact lw_case_turned hL C hi3 (hA.2.2.2.2.2.2.2.1 (xs (i + 1))) hI hS hl hu kk
      by_cases h7 : j = 7
      · subst h7
        refine lv_tableIn (off := 257) (tgt := 289) hx hb dl_32 (by rw [ht]; decide) (by rw [ht]; decide) (by rw [ht]; rfl) (by decide) ?_
        exact lw_case_layer hL C hi3 (hA.2.2.2.2.2.2.2.2.1 (xs (i + 1))) hI hS hl hu kk
      by_cases h8 : j = 8
      · subst h8
        refine lv_tableIn (off := 280) (tgt := 312) hx hb dl_32 (by rw [ht]; decide) (by rw [ht]; decide) (by rw [ht]; rfl) (by decide) ?_
        exact lw_case_layers hL C hi3 (hA.2.2.2.2.2.2.2.2.2.1 ()) hI hS hl hu kk
      by_cases h9 : j = 9
      · subst h9
        refine lv_tableIn (off := 293) (tgt := 325) hx hb dl_32 (by rw [ht]; decide) (by rw [ht]; decide) (by rw [ht]; rfl) (by decide) ?_
        exact lw_case_length hL C hi3 (hA.2.2.2.2.2.2.2.2.2.2.1 ()) hI hS hl hu kk
      by_cases h10 : j = 10
      · subst h10
        refine lv_tableIn (off := 306) (tgt := 338) hx hb dl_32 (by rw [ht]; decide) (by rw [ht]; decide) (by rw [ht]; rfl) (by decide) ?_
        exact lw_case_bends hL C hi3 (hA.2.2.2.2.2.2.2.2.2.2.2.1 ()) hI hS hl hu kk
      by_cases h11 : j = 11
      · subst h11
        refine lv_tableIn (off := 319) (tgt := 351) hx hb dl_32 (by rw [ht]; decide) (by rw [ht]; decide) (by rw [ht]; rfl) (by decide) ?_
        exact lw_case_run hL C hi3 (hA.2.2.2.2.2.2.2.2.2.2.2.2.1 (xs (i + 1))) hI hS hl hu kk
      by_cases h12 : j = 12
      · subst h12
        refine lv_tableIn (off := 342) (tgt := 374) hx hb dl_32 (by rw [ht]; decide) (by rw [ht]; decide) (by rw [ht]; rfl) (by decide) ?_
        exact lw_case_round hL C hi3 (hA.2.2.2.2.2.2.2.2.2.2.2.2.2.1 ()) hI hS hl hu kk
      by_cases h13 : j = 13
      · subst h13
        refine lv_tableIn (off := 355) (tgt := 387) hx hb dl_32 (by rw [ht]; decide) (by rw [ht]; decide) (by rw [ht]; rfl) (by decide) ?_
        exact lw_case_count hL C hi3 (hA.2.2.2.2.2.2.2.2.2.2.2.2.2.2.1 (xs (i + 1))) hI hS hl hu kk
      by_cases h14 : j = 14
      · subst h14
        refine lv_tableIn (off := 378) (tgt := 410) hx hb dl_32 (by rw [ht]; decide) (by rw [ht]; decide) (by rw [ht]; rfl) (by decide) ?_
        exact lw_case_item hL C hi3 (hA.2.2.2.2.2.2.2.2.2.2.2.2.2.2.2.1 (xs (i + 1)) (xs (i + 2))) hI hS hl hu kk
      by_cases h15 : j = 15
      · subst h15
        refine lv_tableIn (off := 411) (tgt := 443) hx hb dl_32 (by rw [ht]; decide) (by rw [ht]; decide) (by rw [ht]; rfl) (by decide) ?_
        exact lw_case_fewest hL C hi3 (hA.2.2.2.2.2.2.2.2.2.2.2.2.2.2.2.2.1 ()) hI hS hl hu kk
      by_cases h16 : j = 16
      · subst h16
        refine lv_tableIn (off := 424) (tgt := 456) hx hb dl_32 (by rw [ht]; decide) (by rw [ht]; decide) (by rw [ht]; rfl) (by decide) ?_
        exact lw_case_place hL C hi3 (hA.2.2.2.2.2.2.2.2.2.2.2.2.2.2.2.2.2.1 (xs (i + 1))) hI hS hl hu kk
      by_cases h17 : j = 17
      · subst h17
        refine lv_tableIn (off := 447) (tgt := 479) hx hb dl_32 (by rw [ht]; decide) (by rw [ht]; decide) (by rw [ht]; rfl) (by decide) ?_
        exact lw_case_route hL C hi3 (hA.2.2.2.2.2.2.2.2.2.2.2.2.2.2.2.2.2.2.1 (xs (i + 1)) (xs (i + 2))) hI hS hl hu kk
      by_cases h18 : j = 18
      · subst h18
        refine lv_tableIn (off := 480) (tgt := 512) hx hb dl_32 (by rw [ht]; decide) (by rw [ht]; decide) (by rw [ht]; rfl) (by decide) ?_
        exact lw_case_wide hL C hi3 (hA.2.2.2.2.2.2.2.2.2.2.2.2.2.2.2.2.2.2.2.1 ()) hI hS hl hu kk
      by_cases h19 : j = 19
      · subst h19
        refine lv_tableIn (off := 493) (tgt := 525) hx hb dl_32 (by rw [ht]; decide) (by rw [ht]; decide) (by rw [ht]; rfl) (by decide) ?_
        exact lw_case_tidy hL C hi3 (hA.2.2.2.2.2.2.2.2.2.2.2.2.2.2.2.2.2.2.2.2 (xs (i + 1))) hI hS hl hu kk
      refine lv_tableOut (tgt := 548) hx hb dl_32 (Or.inr (by rw [ht]; omega)) (by decide) ?_
      exact kk h hI H locs hS
set_option maxRecDepth 100000 in
set_option maxHeartbeats 4000000 in
theorem lw_open {Inv : mj_H → Prop} (hA : lw_all Inv) {p : Program} {e : Env} {s : State} {m : MethodId} {below : List Frame} {meth : Method} {c : Code} (l : Launch) {b L : Nat} {xs : Nat → Int32} (hL : L ≤ 1536) (C0 : lw_At p s m meth c b L xs) : W p l e room_1 s m #[Value.ref b] below meth c s.heap [] 0 0 (lw_Z below #[Value.ref b] s) (entryFrame m ([Value.ref b] : List Value).toArray 4) := by
  obtain ⟨hx, hb, hr, hml, hown, hts, hX, hbl, hlocks, hgv⟩ := id C0
  have hkn : ∀ ci, ci < 10 → ∃ (cC : ClassId) (iS : Nat → Nat), u_Kn s (pg_C ci) (pg_T ci) (pg_nf ci) cC iS := fun ci h => by
    obtain ⟨g1, g2, g3, g4, g5⟩ := mj_clok ci h
    exact u_known (ws := lw_tbl) hts (fun w hw => (List.mem_filter.mp (g2 w hw)).1) (hts _ (List.mem_filter.mp g3.1).1)
  have hkn2 : ∀ ci, ∃ (q : ClassId × (Nat → Nat)), ci < 10 → u_Kn s (pg_C ci) (pg_T ci) (pg_nf ci) q.1 q.2 := fun ci => by
    by_cases h : ci < 10
    · obtain ⟨cC, iS, hq⟩ := hkn ci h
      exact ⟨(cC, iS), fun _ => hq⟩
    · exact ⟨(0, fun _ => 0), fun g => absurd g h⟩
  obtain ⟨D, hD⟩ : ∃ D : va_G, ∀ ci, ci < 10 → u_Kn s (pg_C ci) (pg_T ci) (pg_nf ci) (D.1 ci) (D.2 ci) := ⟨(fun ci => (Classical.choose (hkn2 ci)).1, fun ci => (Classical.choose (hkn2 ci)).2), fun ci h => Classical.choose_spec (hkn2 ci) h⟩
  obtain ⟨c1, k1, p1, a1, a2, a3⟩ := Cond.arrayClass_spec (hts _ (pg_is_mem pg_w7))
  obtain ⟨c2, k2, p2, b1, b2, b3⟩ := Cond.arrayClass_spec (hts _ (pg_is_mem pg_w8))
  have hov := hts _ (pg_is_mem pg_w9)
  obtain ⟨comp, c3, k3, d1, d2, d3, d4, d5⟩ := arrayOverA_spec hov
  obtain ⟨cA, q1, q2, q3⟩ : ∃ cA : Nat → ClassId, cA 1 = c1 ∧ cA 2 = c2 ∧ cA 3 = c3 := ⟨fun k => if k = 1 then c1 else if k = 2 then c2 else c3, rfl, rfl, rfl⟩
  subst q1
  subst q2
  subst q3
  have hK : va_K D pg_cl (mj_ty cA) s := by
    refine ⟨fun ci q hq => ?_, fun k q hq => ?_⟩
    · have hci : ci < 10 := (List.getElem?_eq_some_iff.mp hq).1
      have e9 := (mj_clok ci hci).1.symm.trans hq
      cases e9
      exact hD ci hci
    · have hk : k < 3 := (List.getElem?_eq_some_iff.mp hq).1
      rcases (show k = 0 ∨ k = 1 ∨ k = 2 by omega) with rfl | rfl | rfl
      · cases hq
        exact ⟨fun N z => ⟨fun k h => (by cases h), k1, a2, p1, a3⟩, a1⟩
      · cases hq
        exact ⟨fun N z => ⟨fun k h => (by cases h), k2, b2, p2, b3⟩, b1⟩
      · cases hq
        exact ⟨fun N z => ⟨fun k h => (by cases h), k3, d3, comp, d4⟩, d5⟩
  have hE : mj_Ex s := ⟨fun own i y host hm => va_Nw.of rfl (hts _ hm), hov⟩
  have C : lw_Cx D cA p s m meth c b L xs := ⟨C0, hK, hE⟩
  have hS : mj_S D cA s.heap.size s.heap lw_h0 s.heap [] := ⟨⟨rfl, fun a ha => absurd ha (Nat.not_lt_zero a)⟩, fun _ _ => rfl, fun x hx => by cases hx⟩
  have hl := lv_entry ([.ref b]) (n := 4) (Nat.le_of_ble_eq_true rfl)
  rw [lg_entry_eq]
  generalize (lg_sl ([.ref b]) ++ List.replicate (4 - (lg_sl ([.ref b])).length) Slot.unset).toArray = ls at hl ⊢
  have hl : lv_has ls 4 [(0, .ref b)] := hl
  refine lw_new C hS dl_0 rfl ⟨by decide, by decide⟩ (fun H hS => ?_)
  refine lv_dup hx hb dl_3 rfl ?_
  refine lw_callI C hS hl.1 (z := m_Main_init) (a := 0) dl_4 (by decide) (pg_is_mem (p := 78) (by decide +kernel)) rfl (Nat.le_of_ble_eq_true rfl) ⟨by decide, by decide⟩ hA.1 (fun r h1 H locs hp hS => ?_)
  obtain ⟨rfl, hn1, hp⟩ := hp
  refine lv_astore_n (lv' := [(1, .ref (s.heap.size + 0)), (0, .ref b)]) hx hb dl_7 rfl hl (by decide) rfl (fun ls hl => ?_)
  refine lw_new C hS dl_8 rfl ⟨by decide, by decide⟩ (fun H hS => ?_)
  rw [hn1]
  refine lv_dup hx hb dl_11 rfl ?_
  refine lw_callI C hS hl.1 (z := m_Mod_init) (a := 93) dl_12 (by decide) (pg_is_mem (p := 761) (by decide +kernel)) rfl (Nat.le_of_ble_eq_true rfl) ⟨by decide, by decide⟩ hp (fun r h2 H locs hp hS => ?_)
  obtain ⟨rfl, hp⟩ := hp
  refine lv_astore_n (lv' := [(2, .ref (s.heap.size + 93)), (1, .ref (s.heap.size + 0)), (0, .ref b)]) hx hb dl_15 rfl hl (by decide) rfl (fun ls hl => ?_)
  refine lv_iconst (v := 0) hx hb dl_16 (by decide) ?_
  refine lv_istore_n (lv' := [(3, .int 0), (2, .ref (s.heap.size + 93)), (1, .ref (s.heap.size + 0)), (0, .ref b)]) hx hb dl_17 rfl hl (by decide) rfl (fun ls hl => ?_)
  exact lw_loop hL C hA ⟨by decide, by decide⟩ (L + 4) 0 (by omega) (by omega) h2 hp H locs hS ls (lv_sub hl [0, 3, 2, 1] rfl)
end
section
section mq_rows
variable {d : Nat} {b : ByteArray} {o rt mc ms : Nat} {post : Option mj_V → mj_H → Prop} {pc : Nat} {lv : mj_L} {st : List mj_V} {nn : Nat} {K : Nat → Nat × Nat} {σ : Nat → Nat → Int32} {ρ : Nat → Nat → Option Nat} {uc us : Nat}
theorem mq_iconst {i : Int} {v : Int32} (e0 : decode b pc = .ok (.iconst i, 1)) (e1 : Int32.ofInt i = v) (k0 : mj_W (mj_lv d) b o rt mc ms post (pc + 1) lv (.inl v :: st) (nn, K, σ, ρ) uc us) : mj_W (mj_lv d) b o rt mc ms post pc lv (st) (nn, K, σ, ρ) uc us :=
  mj_iconst (h := (nn, K, σ, ρ)) e0 e1 k0
theorem mq_bipush {i : Int} {v : Int32} (e0 : decode b pc = .ok (.bipush i, 2)) (e1 : (Int8.ofInt i).toInt32 = v) (k0 : mj_W (mj_lv d) b o rt mc ms post (pc + 2) lv (.inl v :: st) (nn, K, σ, ρ) uc us) : mj_W (mj_lv d) b o rt mc ms post pc lv (st) (nn, K, σ, ρ) uc us :=
  mj_bipush (h := (nn, K, σ, ρ)) e0 e1 k0
theorem mq_sipush {i : Int} {v : Int32} (e0 : decode b pc = .ok (.sipush i, 3)) (e1 : (Int16.ofInt i).toInt32 = v) (k0 : mj_W (mj_lv d) b o rt mc ms post (pc + 3) lv (.inl v :: st) (nn, K, σ, ρ) uc us) : mj_W (mj_lv d) b o rt mc ms post pc lv (st) (nn, K, σ, ρ) uc us :=
  mj_sipush (h := (nn, K, σ, ρ)) e0 e1 k0
theorem mq_iadd {x z : Int32} (e0 : decode b pc = .ok (.iadd, 1)) (k0 : mj_W (mj_lv d) b o rt mc ms post (pc + 1) lv (.inl (x + z) :: st) (nn, K, σ, ρ) uc us) : mj_W (mj_lv d) b o rt mc ms post pc lv (.inl z :: .inl x :: st) (nn, K, σ, ρ) uc us :=
  mj_iadd (h := (nn, K, σ, ρ)) e0 k0
theorem mq_isub {x z : Int32} (e0 : decode b pc = .ok (.isub, 1)) (k0 : mj_W (mj_lv d) b o rt mc ms post (pc + 1) lv (.inl (x - z) :: st) (nn, K, σ, ρ) uc us) : mj_W (mj_lv d) b o rt mc ms post pc lv (.inl z :: .inl x :: st) (nn, K, σ, ρ) uc us :=
  mj_isub (h := (nn, K, σ, ρ)) e0 k0
theorem mq_imul {x z : Int32} (e0 : decode b pc = .ok (.imul, 1)) (k0 : mj_W (mj_lv d) b o rt mc ms post (pc + 1) lv (.inl (x * z) :: st) (nn, K, σ, ρ) uc us) : mj_W (mj_lv d) b o rt mc ms post pc lv (.inl z :: .inl x :: st) (nn, K, σ, ρ) uc us :=
  mj_imul (h := (nn, K, σ, ρ)) e0 k0
theorem mq_iand {x z : Int32} (e0 : decode b pc = .ok (.iand, 1)) (k0 : mj_W (mj_lv d) b o rt mc ms post (pc + 1) lv (.inl (x &&& z) :: st) (nn, K, σ, ρ) uc us) : mj_W (mj_lv d) b o rt mc ms post pc lv (.inl z :: .inl x :: st) (nn, K, σ, ρ) uc us :=
  mj_iand (h := (nn, K, σ, ρ)) e0 k0
theorem mq_ior {x z : Int32} (e0 : decode b pc = .ok (.ior, 1)) (k0 : mj_W (mj_lv d) b o rt mc ms post (pc + 1) lv (.inl (x ||| z) :: st) (nn, K, σ, ρ) uc us) : mj_W (mj_lv d) b o rt mc ms post pc lv (.inl z :: .inl x :: st) (nn, K, σ, ρ) uc us :=
  mj_ior (h := (nn, K, σ, ρ)) e0 k0
theorem mq_ixor {x z : Int32} (e0 : decode b pc = .ok (.ixor, 1)) (k0 : mj_W (mj_lv d) b o rt mc ms post (pc + 1) lv (.inl (x ^^^ z) :: st) (nn, K, σ, ρ) uc us) : mj_W (mj_lv d) b o rt mc ms post pc lv (.inl z :: .inl x :: st) (nn, K, σ, ρ) uc us :=
  mj_ixor (h := (nn, K, σ, ρ)) e0 k0
theorem mq_ishl {x z : Int32} (e0 : decode b pc = .ok (.ishl, 1)) (k0 : mj_W (mj_lv d) b o rt mc ms post (pc + 1) lv (.inl (x <<< (z &&& 31)) :: st) (nn, K, σ, ρ) uc us) : mj_W (mj_lv d) b o rt mc ms post pc lv (.inl z :: .inl x :: st) (nn, K, σ, ρ) uc us :=
  mj_ishl (h := (nn, K, σ, ρ)) e0 k0
theorem mq_ishr {x z : Int32} (e0 : decode b pc = .ok (.ishr, 1)) (k0 : mj_W (mj_lv d) b o rt mc ms post (pc + 1) lv (.inl (x >>> (z &&& 31)) :: st) (nn, K, σ, ρ) uc us) : mj_W (mj_lv d) b o rt mc ms post pc lv (.inl z :: .inl x :: st) (nn, K, σ, ρ) uc us :=
  mj_ishr (h := (nn, K, σ, ρ)) e0 k0
theorem mq_iushr {x z : Int32} (e0 : decode b pc = .ok (.iushr, 1)) (k0 : mj_W (mj_lv d) b o rt mc ms post (pc + 1) lv (.inl ((x.toUInt32 >>> (z.toUInt32 &&& Int32.toUInt32 31)).toInt32) :: st) (nn, K, σ, ρ) uc us) : mj_W (mj_lv d) b o rt mc ms post pc lv (.inl z :: .inl x :: st) (nn, K, σ, ρ) uc us :=
  mj_iushr (h := (nn, K, σ, ρ)) e0 k0
theorem mq_idiv {x z : Int32} (e0 : decode b pc = .ok (.idiv, 1)) (e1 : ¬ z = 0) (k0 : mj_W (mj_lv d) b o rt mc ms post (pc + 1) lv (.inl (x / z) :: st) (nn, K, σ, ρ) uc us) : mj_W (mj_lv d) b o rt mc ms post pc lv (.inl z :: .inl x :: st) (nn, K, σ, ρ) uc us :=
  mj_idiv (h := (nn, K, σ, ρ)) e0 e1 k0
theorem mq_irem {x z : Int32} (e0 : decode b pc = .ok (.irem, 1)) (e1 : ¬ z = 0) (k0 : mj_W (mj_lv d) b o rt mc ms post (pc + 1) lv (.inl (x - x / z * z) :: st) (nn, K, σ, ρ) uc us) : mj_W (mj_lv d) b o rt mc ms post pc lv (.inl z :: .inl x :: st) (nn, K, σ, ρ) uc us :=
  mj_irem (h := (nn, K, σ, ρ)) e0 e1 k0
theorem mq_ineg {x : Int32} (e0 : decode b pc = .ok (.ineg, 1)) (k0 : mj_W (mj_lv d) b o rt mc ms post (pc + 1) lv (.inl (-x) :: st) (nn, K, σ, ρ) uc us) : mj_W (mj_lv d) b o rt mc ms post pc lv (.inl x :: st) (nn, K, σ, ρ) uc us :=
  mj_ineg (h := (nn, K, σ, ρ)) e0 k0
theorem mq_dup {v : mj_V} (e0 : decode b pc = .ok (.dup, 1)) (e1 : mj_ca v = 1) (k0 : mj_W (mj_lv d) b o rt mc ms post (pc + 1) lv (v :: v :: st) (nn, K, σ, ρ) uc us) : mj_W (mj_lv d) b o rt mc ms post pc lv (v :: st) (nn, K, σ, ρ) uc us :=
  mj_dup (h := (nn, K, σ, ρ)) e0 e1 k0
theorem mq_pop {v : mj_V} (e0 : decode b pc = .ok (.pop, 1)) (e1 : mj_ca v = 1) (k0 : mj_W (mj_lv d) b o rt mc ms post (pc + 1) lv (st) (nn, K, σ, ρ) uc us) : mj_W (mj_lv d) b o rt mc ms post pc lv (v :: st) (nn, K, σ, ρ) uc us :=
  mj_pop (h := (nn, K, σ, ρ)) e0 e1 k0
theorem mq_dup2 {v w : mj_V} (e0 : decode b pc = .ok (.dup2, 1)) (e1 : mj_ca v = 1) (e2 : mj_ca w = 1) (k0 : mj_W (mj_lv d) b o rt mc ms post (pc + 1) lv (v :: w :: v :: w :: st) (nn, K, σ, ρ) uc us) : mj_W (mj_lv d) b o rt mc ms post pc lv (v :: w :: st) (nn, K, σ, ρ) uc us :=
  mj_dup2 (h := (nn, K, σ, ρ)) e0 e1 e2 k0
theorem mq_dup_x1 {v w : mj_V} (e0 : decode b pc = .ok (.dup_x1, 1)) (e1 : mj_ca v = 1) (e2 : mj_ca w = 1) (k0 : mj_W (mj_lv d) b o rt mc ms post (pc + 1) lv (v :: w :: v :: st) (nn, K, σ, ρ) uc us) : mj_W (mj_lv d) b o rt mc ms post pc lv (v :: w :: st) (nn, K, σ, ρ) uc us :=
  mj_dup_x1 (h := (nn, K, σ, ρ)) e0 e1 e2 k0
theorem mq_lconst {f : Fin 2} {v : Int64} (e0 : decode b pc = .ok (.lconst f, 1)) (e1 : Int64.ofNat (f : Nat) = v) (k0 : mj_W (mj_lv d) b o rt mc ms post (pc + 1) lv (.inr (.inr v) :: st) (nn, K, σ, ρ) uc us) : mj_W (mj_lv d) b o rt mc ms post pc lv (st) (nn, K, σ, ρ) uc us :=
  mj_lconst (h := (nn, K, σ, ρ)) e0 e1 k0
theorem mq_lmul {x z : Int64} (e0 : decode b pc = .ok (.lmul, 1)) (k0 : mj_W (mj_lv d) b o rt mc ms post (pc + 1) lv (.inr (.inr (x * z)) :: st) (nn, K, σ, ρ) uc us) : mj_W (mj_lv d) b o rt mc ms post pc lv (.inr (.inr z) :: .inr (.inr x) :: st) (nn, K, σ, ρ) uc us :=
  mj_lmul (h := (nn, K, σ, ρ)) e0 k0
theorem mq_lcmp {x z : Int64} (e0 : decode b pc = .ok (.lcmp, 1)) (k0 : mj_W (mj_lv d) b o rt mc ms post (pc + 1) lv (.inl (lg_cmp x z) :: st) (nn, K, σ, ρ) uc us) : mj_W (mj_lv d) b o rt mc ms post pc lv (.inr (.inr z) :: .inr (.inr x) :: st) (nn, K, σ, ρ) uc us :=
  mj_lcmp (h := (nn, K, σ, ρ)) e0 k0
theorem mq_i2l {x : Int32} (e0 : decode b pc = .ok (.i2l, 1)) (k0 : mj_W (mj_lv d) b o rt mc ms post (pc + 1) lv (.inr (.inr x.toInt64) :: st) (nn, K, σ, ρ) uc us) : mj_W (mj_lv d) b o rt mc ms post pc lv (.inl x :: st) (nn, K, σ, ρ) uc us :=
  mj_i2l (h := (nn, K, σ, ρ)) e0 k0
theorem mq_icmp_eq {x z : Int32} {off : Int} {tgt : Nat} (e0 : decode b pc = .ok (.if_icmp .eq off, 3)) (e1 : (pc : Int) + off = (tgt : Int)) (k0 : (x = z → mj_W (mj_lv d) b o rt mc ms post tgt lv st (nn, K, σ, ρ) uc us)) (k1 : (¬ x = z → mj_W (mj_lv d) b o rt mc ms post (pc + 3) lv st (nn, K, σ, ρ) uc us)) : mj_W (mj_lv d) b o rt mc ms post pc lv (.inl z :: .inl x :: st) (nn, K, σ, ρ) uc us :=
  mj_icmp_eq (h := (nn, K, σ, ρ)) e0 e1 k0 k1
theorem mq_icmp_ne {x z : Int32} {off : Int} {tgt : Nat} (e0 : decode b pc = .ok (.if_icmp .ne off, 3)) (e1 : (pc : Int) + off = (tgt : Int)) (k0 : (¬ x = z → mj_W (mj_lv d) b o rt mc ms post tgt lv st (nn, K, σ, ρ) uc us)) (k1 : (x = z → mj_W (mj_lv d) b o rt mc ms post (pc + 3) lv st (nn, K, σ, ρ) uc us)) : mj_W (mj_lv d) b o rt mc ms post pc lv (.inl z :: .inl x :: st) (nn, K, σ, ρ) uc us :=
  mj_icmp_ne (h := (nn, K, σ, ρ)) e0 e1 k0 k1
theorem mq_icmp_lt {x z : Int32} {off : Int} {tgt : Nat} (e0 : decode b pc = .ok (.if_icmp .lt off, 3)) (e1 : (pc : Int) + off = (tgt : Int)) (k0 : (x < z → mj_W (mj_lv d) b o rt mc ms post tgt lv st (nn, K, σ, ρ) uc us)) (k1 : (¬ x < z → mj_W (mj_lv d) b o rt mc ms post (pc + 3) lv st (nn, K, σ, ρ) uc us)) : mj_W (mj_lv d) b o rt mc ms post pc lv (.inl z :: .inl x :: st) (nn, K, σ, ρ) uc us :=
  mj_icmp_lt (h := (nn, K, σ, ρ)) e0 e1 k0 k1
theorem mq_icmp_ge {x z : Int32} {off : Int} {tgt : Nat} (e0 : decode b pc = .ok (.if_icmp .ge off, 3)) (e1 : (pc : Int) + off = (tgt : Int)) (k0 : (z ≤ x → mj_W (mj_lv d) b o rt mc ms post tgt lv st (nn, K, σ, ρ) uc us)) (k1 : (¬ z ≤ x → mj_W (mj_lv d) b o rt mc ms post (pc + 3) lv st (nn, K, σ, ρ) uc us)) : mj_W (mj_lv d) b o rt mc ms post pc lv (.inl z :: .inl x :: st) (nn, K, σ, ρ) uc us :=
  mj_icmp_ge (h := (nn, K, σ, ρ)) e0 e1 k0 k1
theorem mq_icmp_gt {x z : Int32} {off : Int} {tgt : Nat} (e0 : decode b pc = .ok (.if_icmp .gt off, 3)) (e1 : (pc : Int) + off = (tgt : Int)) (k0 : (z < x → mj_W (mj_lv d) b o rt mc ms post tgt lv st (nn, K, σ, ρ) uc us)) (k1 : (¬ z < x → mj_W (mj_lv d) b o rt mc ms post (pc + 3) lv st (nn, K, σ, ρ) uc us)) : mj_W (mj_lv d) b o rt mc ms post pc lv (.inl z :: .inl x :: st) (nn, K, σ, ρ) uc us :=
  mj_icmp_gt (h := (nn, K, σ, ρ)) e0 e1 k0 k1
theorem mq_icmp_le {x z : Int32} {off : Int} {tgt : Nat} (e0 : decode b pc = .ok (.if_icmp .le off, 3)) (e1 : (pc : Int) + off = (tgt : Int)) (k0 : (x ≤ z → mj_W (mj_lv d) b o rt mc ms post tgt lv st (nn, K, σ, ρ) uc us)) (k1 : (¬ x ≤ z → mj_W (mj_lv d) b o rt mc ms post (pc + 3) lv st (nn, K, σ, ρ) uc us)) : mj_W (mj_lv d) b o rt mc ms post pc lv (.inl z :: .inl x :: st) (nn, K, σ, ρ) uc us :=
  mj_icmp_le (h := (nn, K, σ, ρ)) e0 e1 k0 k1
theorem mq_if_eq {x : Int32} {off : Int} {tgt : Nat} (e0 : decode b pc = .ok (.ifCond .eq off, 3)) (e1 : (pc : Int) + off = (tgt : Int)) (k0 : (x = 0 → mj_W (mj_lv d) b o rt mc ms post tgt lv st (nn, K, σ, ρ) uc us)) (k1 : (¬ x = 0 → mj_W (mj_lv d) b o rt mc ms post (pc + 3) lv st (nn, K, σ, ρ) uc us)) : mj_W (mj_lv d) b o rt mc ms post pc lv (.inl x :: st) (nn, K, σ, ρ) uc us :=
  mj_if_eq (h := (nn, K, σ, ρ)) e0 e1 k0 k1
theorem mq_if_ne {x : Int32} {off : Int} {tgt : Nat} (e0 : decode b pc = .ok (.ifCond .ne off, 3)) (e1 : (pc : Int) + off = (tgt : Int)) (k0 : (¬ x = 0 → mj_W (mj_lv d) b o rt mc ms post tgt lv st (nn, K, σ, ρ) uc us)) (k1 : (x = 0 → mj_W (mj_lv d) b o rt mc ms post (pc + 3) lv st (nn, K, σ, ρ) uc us)) : mj_W (mj_lv d) b o rt mc ms post pc lv (.inl x :: st) (nn, K, σ, ρ) uc us :=
  mj_if_ne (h := (nn, K, σ, ρ)) e0 e1 k0 k1
theorem mq_if_lt {x : Int32} {off : Int} {tgt : Nat} (e0 : decode b pc = .ok (.ifCond .lt off, 3)) (e1 : (pc : Int) + off = (tgt : Int)) (k0 : (x < 0 → mj_W (mj_lv d) b o rt mc ms post tgt lv st (nn, K, σ, ρ) uc us)) (k1 : (¬ x < 0 → mj_W (mj_lv d) b o rt mc ms post (pc + 3) lv st (nn, K, σ, ρ) uc us)) : mj_W (mj_lv d) b o rt mc ms post pc lv (.inl x :: st) (nn, K, σ, ρ) uc us :=
  mj_if_lt (h := (nn, K, σ, ρ)) e0 e1 k0 k1
theorem mq_if_ge {x : Int32} {off : Int} {tgt : Nat} (e0 : decode b pc = .ok (.ifCond .ge off, 3)) (e1 : (pc : Int) + off = (tgt : Int)) (k0 : (0 ≤ x → mj_W (mj_lv d) b o rt mc ms post tgt lv st (nn, K, σ, ρ) uc us)) (k1 : (¬ 0 ≤ x → mj_W (mj_lv d) b o rt mc ms post (pc + 3) lv st (nn, K, σ, ρ) uc us)) : mj_W (mj_lv d) b o rt mc ms post pc lv (.inl x :: st) (nn, K, σ, ρ) uc us :=
  mj_if_ge (h := (nn, K, σ, ρ)) e0 e1 k0 k1
theorem mq_if_gt {x : Int32} {off : Int} {tgt : Nat} (e0 : decode b pc = .ok (.ifCond .gt off, 3)) (e1 : (pc : Int) + off = (tgt : Int)) (k0 : (0 < x → mj_W (mj_lv d) b o rt mc ms post tgt lv st (nn, K, σ, ρ) uc us)) (k1 : (¬ 0 < x → mj_W (mj_lv d) b o rt mc ms post (pc + 3) lv st (nn, K, σ, ρ) uc us)) : mj_W (mj_lv d) b o rt mc ms post pc lv (.inl x :: st) (nn, K, σ, ρ) uc us :=
  mj_if_gt (h := (nn, K, σ, ρ)) e0 e1 k0 k1
theorem mq_if_le {x : Int32} {off : Int} {tgt : Nat} (e0 : decode b pc = .ok (.ifCond .le off, 3)) (e1 : (pc : Int) + off = (tgt : Int)) (k0 : (x ≤ 0 → mj_W (mj_lv d) b o rt mc ms post tgt lv st (nn, K, σ, ρ) uc us)) (k1 : (¬ x ≤ 0 → mj_W (mj_lv d) b o rt mc ms post (pc + 3) lv st (nn, K, σ, ρ) uc us)) : mj_W (mj_lv d) b o rt mc ms post pc lv (.inl x :: st) (nn, K, σ, ρ) uc us :=
  mj_if_le (h := (nn, K, σ, ρ)) e0 e1 k0 k1
theorem mq_goto {off : Int} {tgt : Nat} (e0 : decode b pc = .ok (.goto off, 3)) (e1 : (pc : Int) + off = (tgt : Int)) (k0 : mj_W (mj_lv d) b o rt mc ms post tgt lv st (nn, K, σ, ρ) uc us) : mj_W (mj_lv d) b o rt mc ms post pc lv (st) (nn, K, σ, ρ) uc us :=
  mj_goto (h := (nn, K, σ, ρ)) e0 e1 k0
theorem mq_iload {i : Nat} {x : Int32} (e0 : decode b pc = .ok (.iload i, 2)) (e1 : lv[i]? = some (some (.inl x))) (k0 : mj_W (mj_lv d) b o rt mc ms post (pc + 2) lv (.inl x :: st) (nn, K, σ, ρ) uc us) : mj_W (mj_lv d) b o rt mc ms post pc lv (st) (nn, K, σ, ρ) uc us :=
  mj_iload (h := (nn, K, σ, ρ)) e0 e1 k0
theorem mq_iload_n {f : Fin 4} {i : Nat} {x : Int32} (e0 : decode b pc = .ok (.iload_n f, 1)) (e1 : (f : Nat) = i) (e2 : lv[i]? = some (some (.inl x))) (k0 : mj_W (mj_lv d) b o rt mc ms post (pc + 1) lv (.inl x :: st) (nn, K, σ, ρ) uc us) : mj_W (mj_lv d) b o rt mc ms post pc lv (st) (nn, K, σ, ρ) uc us :=
  mj_iload_n (h := (nn, K, σ, ρ)) e0 e1 e2 k0
theorem mq_aload {i : Nat} {x : Nat} (e0 : decode b pc = .ok (.aload i, 2)) (e1 : lv[i]? = some (some (.inr (.inl (some x))))) (k0 : mj_W (mj_lv d) b o rt mc ms post (pc + 2) lv (.inr (.inl (some x)) :: st) (nn, K, σ, ρ) uc us) : mj_W (mj_lv d) b o rt mc ms post pc lv (st) (nn, K, σ, ρ) uc us :=
  mj_aload (h := (nn, K, σ, ρ)) e0 e1 k0
theorem mq_aload_n {f : Fin 4} {i : Nat} {x : Nat} (e0 : decode b pc = .ok (.aload_n f, 1)) (e1 : (f : Nat) = i) (e2 : lv[i]? = some (some (.inr (.inl (some x))))) (k0 : mj_W (mj_lv d) b o rt mc ms post (pc + 1) lv (.inr (.inl (some x)) :: st) (nn, K, σ, ρ) uc us) : mj_W (mj_lv d) b o rt mc ms post pc lv (st) (nn, K, σ, ρ) uc us :=
  mj_aload_n (h := (nn, K, σ, ρ)) e0 e1 e2 k0
theorem mq_istore {i : Nat} {x : Int32} (e0 : decode b pc = .ok (.istore i, 2)) (e1 : i < lv.length) (e2 : mj_ok lv i = true) (k0 : mj_W (mj_lv d) b o rt mc ms post (pc + 2) (lv.set i (some (.inl x))) st (nn, K, σ, ρ) uc us) : mj_W (mj_lv d) b o rt mc ms post pc lv (.inl x :: st) (nn, K, σ, ρ) uc us :=
  mj_istore (h := (nn, K, σ, ρ)) e0 e1 e2 k0
theorem mq_istore_n {f : Fin 4} {i : Nat} {x : Int32} (e0 : decode b pc = .ok (.istore_n f, 1)) (e1 : (f : Nat) = i) (e2 : i < lv.length) (e3 : mj_ok lv i = true) (k0 : mj_W (mj_lv d) b o rt mc ms post (pc + 1) (lv.set i (some (.inl x))) st (nn, K, σ, ρ) uc us) : mj_W (mj_lv d) b o rt mc ms post pc lv (.inl x :: st) (nn, K, σ, ρ) uc us :=
  mj_istore_n (h := (nn, K, σ, ρ)) e0 e1 e2 e3 k0
theorem mq_astore {i : Nat} {x : Nat} (e0 : decode b pc = .ok (.astore i, 2)) (e1 : i < lv.length) (e2 : mj_ok lv i = true) (k0 : mj_W (mj_lv d) b o rt mc ms post (pc + 2) (lv.set i (some (.inr (.inl (some x))))) st (nn, K, σ, ρ) uc us) : mj_W (mj_lv d) b o rt mc ms post pc lv (.inr (.inl (some x)) :: st) (nn, K, σ, ρ) uc us :=
  mj_astore (h := (nn, K, σ, ρ)) e0 e1 e2 k0
theorem mq_astore_n {f : Fin 4} {i : Nat} {x : Nat} (e0 : decode b pc = .ok (.astore_n f, 1)) (e1 : (f : Nat) = i) (e2 : i < lv.length) (e3 : mj_ok lv i = true) (k0 : mj_W (mj_lv d) b o rt mc ms post (pc + 1) (lv.set i (some (.inr (.inl (some x))))) st (nn, K, σ, ρ) uc us) : mj_W (mj_lv d) b o rt mc ms post pc lv (.inr (.inl (some x)) :: st) (nn, K, σ, ρ) uc us :=
  mj_astore_n (h := (nn, K, σ, ρ)) e0 e1 e2 e3 k0
theorem mq_iinc {i : Nat} {k : Int} {x v : Int32} (e0 : decode b pc = .ok (.iinc i k, 3)) (e1 : lv[i]? = some (some (.inl x))) (e2 : x + Int32.ofInt k = v) (e3 : mj_ok lv i = true) (k0 : mj_W (mj_lv d) b o rt mc ms post (pc + 3) (lv.set i (some (.inl v))) st (nn, K, σ, ρ) uc us) : mj_W (mj_lv d) b o rt mc ms post pc lv (st) (nn, K, σ, ρ) uc us :=
  mj_iinc (h := (nn, K, σ, ρ)) e0 e1 e2 e3 k0
theorem mq_lload_n {f : Fin 4} {i : Nat} {x : Int64} (e0 : decode b pc = .ok (.lload_n f, 1)) (e1 : (f : Nat) = i) (e2 : lv[i]? = some (some (.inr (.inr x)))) (k0 : mj_W (mj_lv d) b o rt mc ms post (pc + 1) lv (.inr (.inr x) :: st) (nn, K, σ, ρ) uc us) : mj_W (mj_lv d) b o rt mc ms post pc lv (st) (nn, K, σ, ρ) uc us :=
  mj_lload_n (h := (nn, K, σ, ρ)) e0 e1 e2 k0
theorem mq_lstore_n {f : Fin 4} {i : Nat} {x : Int64} (e0 : decode b pc = .ok (.lstore_n f, 1)) (e1 : (f : Nat) = i) (e2 : i + 1 < lv.length) (e3 : mj_ok lv i = true) (k0 : mj_W (mj_lv d) b o rt mc ms post (pc + 1) ((lv.set i (some (.inr (.inr x)))).set (i + 1) none) st (nn, K, σ, ρ) uc us) : mj_W (mj_lv d) b o rt mc ms post pc lv (.inr (.inr x) :: st) (nn, K, σ, ρ) uc us :=
  mj_lstore_n (h := (nn, K, σ, ρ)) e0 e1 e2 e3 k0
theorem mq_ldc2 {i : Nat} {v : Int64} (e0 : decode b pc = .ok (.ldc2_w i, 3)) (e1 : pg_ldl o i = some v) (k0 : mj_W (mj_lv d) b o rt mc ms post (pc + 3) lv (.inr (.inr v) :: st) (nn, K, σ, ρ) uc us) : mj_W (mj_lv d) b o rt mc ms post pc lv (st) (nn, K, σ, ρ) uc us :=
  mj_ldc2 (h := (nn, K, σ, ρ)) e0 e1 k0
theorem mq_ldc {i : Nat} {v : Int32} (e0 : decode b pc = .ok (.ldc i, 2)) (e1 : pg_ldc o i = some v) (k0 : mj_W (mj_lv d) b o rt mc ms post (pc + 2) lv (.inl v :: st) (nn, K, σ, ρ) uc us) : mj_W (mj_lv d) b o rt mc ms post pc lv (st) (nn, K, σ, ρ) uc us :=
  mj_ldc (h := (nn, K, σ, ρ)) e0 e1 k0
theorem mq_getI {i ci k c : Nat} (e0 : decode b pc = .ok (.getfield i, 3)) (e1 : pg_fld o i = some (ci, k)) (e2 : pg_fr ci k = false) (e3 : (c < nn ∧ K c = (0, ci))) (k0 : mj_W (mj_lv d) b o rt mc ms post (pc + 3) lv (.inl (σ c k) :: st) (nn, K, σ, ρ) uc us) : mj_W (mj_lv d) b o rt mc ms post pc lv (.inr (.inl (some c)) :: st) (nn, K, σ, ρ) uc us :=
  mj_getI (h := (nn, K, σ, ρ)) e0 e1 e2 e3 k0
theorem mq_getR {i ci k c : Nat} {r : Option Nat} (e0 : decode b pc = .ok (.getfield i, 3)) (e1 : pg_fld o i = some (ci, k)) (e2 : pg_fr ci k = true) (e3 : (c < nn ∧ K c = (0, ci))) (e4 : ρ c k = r) (k0 : mj_W (mj_lv d) b o rt mc ms post (pc + 3) lv (.inr (.inl r) :: st) (nn, K, σ, ρ) uc us) : mj_W (mj_lv d) b o rt mc ms post pc lv (.inr (.inl (some c)) :: st) (nn, K, σ, ρ) uc us :=
  mj_getR (h := (nn, K, σ, ρ)) e0 e1 e2 e3 e4 k0
theorem mq_putI {i ci k c : Nat} {x : Int32} (e0 : decode b pc = .ok (.putfield i, 3)) (e1 : pg_fld o i = some (ci, k)) (e2 : pg_fr ci k = false) (e3 : pg_fin ci k = false) (e4 : (narrow (pg_ty ci k) (.int x) = .int x ∧ fits (pg_ty ci k) (.int x) = true)) (e5 : (c < nn ∧ K c = (0, ci))) (k0 : mj_W (mj_lv d) b o rt mc ms post (pc + 3) lv st (nn, K, mj_u2 σ c k x, ρ) uc us) : mj_W (mj_lv d) b o rt mc ms post pc lv (.inl x :: .inr (.inl (some c)) :: st) (nn, K, σ, ρ) uc us :=
  mj_putI (h := (nn, K, σ, ρ)) e0 e1 e2 e3 e4 e5 k0
theorem mq_putF {i ci k c x : Nat} (e0 : rt = 9) (e1 : decode b pc = .ok (.putfield i, 3)) (e2 : pg_fld o i = some (ci, k)) (e3 : pg_fr ci k = true) (e4 : pg_fin ci k = true) (e5 : o = ci) (e6 : (c < nn ∧ K c = (0, ci))) (k0 : mj_W (mj_lv d) b o rt mc ms post (pc + 3) lv st (nn, K, σ, mj_u2 ρ c k (some x)) uc us) : mj_W (mj_lv d) b o rt mc ms post pc lv (.inr (.inl (some x)) :: .inr (.inl (some c)) :: st) (nn, K, σ, ρ) uc us :=
  mj_putF (h := (nn, K, σ, ρ)) e0 e1 e2 e3 e4 e5 e6 k0
theorem mq_iald {c n : Nat} {i : Int32} (e0 : decode b pc = .ok (.iaload, 1)) (e1 : (c < nn ∧ K c = (1, n))) (e2 : vp_in i n) (k0 : mj_W (mj_lv d) b o rt mc ms post (pc + 1) lv (.inl (σ c i.toNatClampNeg) :: st) (nn, K, σ, ρ) uc us) : mj_W (mj_lv d) b o rt mc ms post pc lv (.inl i :: .inr (.inl (some c)) :: st) (nn, K, σ, ρ) uc us :=
  mj_iald (h := (nn, K, σ, ρ)) e0 e1 e2 k0
theorem mq_zald {c n : Nat} {i : Int32} (e0 : decode b pc = .ok (.baload, 1)) (e1 : (c < nn ∧ K c = (2, n))) (e2 : vp_in i n) (k0 : mj_W (mj_lv d) b o rt mc ms post (pc + 1) lv (.inl (σ c i.toNatClampNeg) :: st) (nn, K, σ, ρ) uc us) : mj_W (mj_lv d) b o rt mc ms post pc lv (.inl i :: .inr (.inl (some c)) :: st) (nn, K, σ, ρ) uc us :=
  mj_zald (h := (nn, K, σ, ρ)) e0 e1 e2 k0
theorem mq_iast {c n : Nat} {i x : Int32} (e0 : decode b pc = .ok (.iastore, 1)) (e1 : (c < nn ∧ K c = (1, n))) (e2 : vp_in i n) (k0 : mj_W (mj_lv d) b o rt mc ms post (pc + 1) lv st (nn, K, mj_u2 σ c i.toNatClampNeg x, ρ) uc us) : mj_W (mj_lv d) b o rt mc ms post pc lv (.inl x :: .inl i :: .inr (.inl (some c)) :: st) (nn, K, σ, ρ) uc us :=
  mj_iast (h := (nn, K, σ, ρ)) e0 e1 e2 k0
theorem mq_zast {c n : Nat} {i x : Int32} (e0 : decode b pc = .ok (.bastore, 1)) (e1 : (c < nn ∧ K c = (2, n))) (e2 : vp_in i n) (e3 : narrow .boolean (.int x) = .int x) (k0 : mj_W (mj_lv d) b o rt mc ms post (pc + 1) lv st (nn, K, mj_u2 σ c i.toNatClampNeg x, ρ) uc us) : mj_W (mj_lv d) b o rt mc ms post pc lv (.inl x :: .inl i :: .inr (.inl (some c)) :: st) (nn, K, σ, ρ) uc us :=
  mj_zast (h := (nn, K, σ, ρ)) e0 e1 e2 e3 k0
theorem mq_aald {c n : Nat} {i : Int32} {r : Option Nat} (e0 : decode b pc = .ok (.aaload, 1)) (e1 : (c < nn ∧ K c = (3, n))) (e2 : vp_in i n) (e3 : ρ c i.toNatClampNeg = r) (k0 : mj_W (mj_lv d) b o rt mc ms post (pc + 1) lv (.inr (.inl r) :: st) (nn, K, σ, ρ) uc us) : mj_W (mj_lv d) b o rt mc ms post pc lv (.inl i :: .inr (.inl (some c)) :: st) (nn, K, σ, ρ) uc us :=
  mj_aald (h := (nn, K, σ, ρ)) e0 e1 e2 e3 k0
theorem mq_alen {c t n : Nat} (e0 : decode b pc = .ok (.arraylength, 1)) (e1 : (c < nn ∧ K c = (t, n))) (e2 : (0 < t ∧ t < 4)) (k0 : mj_W (mj_lv d) b o rt mc ms post (pc + 1) lv (.inl (Int32.ofNat n) :: st) (nn, K, σ, ρ) uc us) : mj_W (mj_lv d) b o rt mc ms post pc lv (.inr (.inl (some c)) :: st) (nn, K, σ, ρ) uc us :=
  mj_alen (h := (nn, K, σ, ρ)) e0 e1 e2 k0
theorem mq_new {i ci : Nat} (e0 : decode b pc = .ok (.new i, 3)) (e1 : pg_new o i = some ci) (e2 : uc + 1 ≤ mc) (e3 : us + pg_nf ci ≤ ms) (k0 : mj_W (mj_lv d) b o rt mc ms post (pc + 3) lv (.inr (.inl (some nn)) :: st) (nn + 1, va_up K nn (0, ci), va_up σ nn (fun _ => 0), va_up ρ nn (fun _ => none)) (uc + 1) (us + pg_nf ci)) : mj_W (mj_lv d) b o rt mc ms post pc lv (st) (nn, K, σ, ρ) uc us :=
  mj_new (h := (nn, K, σ, ρ)) e0 e1 e2 e3 k0
theorem mq_newi {x : Int32} {n : Nat} (e0 : decode b pc = .ok (.newarray .int, 2)) (e1 : ¬ x < 0) (e2 : x.toNatClampNeg = n) (e3 : n ≤ 100000) (e4 : uc + 1 ≤ mc) (e5 : us + n ≤ ms) (k0 : mj_W (mj_lv d) b o rt mc ms post (pc + 2) lv (.inr (.inl (some nn)) :: st) (nn + 1, va_up K nn (1, n), va_up σ nn (fun _ => 0), va_up ρ nn (fun _ => none)) (uc + 1) (us + n)) : mj_W (mj_lv d) b o rt mc ms post pc lv (.inl x :: st) (nn, K, σ, ρ) uc us :=
  mj_newi (h := (nn, K, σ, ρ)) e0 e1 e2 e3 e4 e5 k0
theorem mq_newz {x : Int32} {n : Nat} (e0 : decode b pc = .ok (.newarray .boolean, 2)) (e1 : ¬ x < 0) (e2 : x.toNatClampNeg = n) (e3 : n ≤ 100000) (e4 : uc + 1 ≤ mc) (e5 : us + n ≤ ms) (k0 : mj_W (mj_lv d) b o rt mc ms post (pc + 2) lv (.inr (.inl (some nn)) :: st) (nn + 1, va_up K nn (2, n), va_up σ nn (fun _ => 0), va_up ρ nn (fun _ => none)) (uc + 1) (us + n)) : mj_W (mj_lv d) b o rt mc ms post pc lv (.inl x :: st) (nn, K, σ, ρ) uc us :=
  mj_newz (h := (nn, K, σ, ρ)) e0 e1 e2 e3 e4 e5 k0
theorem mq_newm {i : Nat} {x z : Int32} {n k : Nat} (e0 : decode b pc = .ok (.multianewarray i 2, 4)) (e1 : pg_gr o i = some 1) (e2 : ¬ x < 0) (e3 : ¬ z < 0) (e4 : x.toNatClampNeg = n) (e5 : z.toNatClampNeg = k) (e6 : n ≤ 100000) (e7 : k ≤ 100000) (e8 : uc + (1 + n) ≤ mc) (e9 : us + (n + n * k) ≤ ms) (k0 : mj_W (mj_lv d) b o rt mc ms post (pc + 4) lv (.inr (.inl (some nn)) :: st) (nn + 1 + n, (fun c => if c = nn then (3, n) else if nn < c ∧ c ≤ nn + n then (1, k) else K c), (fun c => if nn ≤ c ∧ c ≤ nn + n then (fun _ => 0) else σ c), (fun c => if c = nn then (fun j => if j < n then some (nn + 1 + j) else none) else ρ c)) (uc + 1 + n) (us + n + n * k)) : mj_W (mj_lv d) b o rt mc ms post pc lv (.inl z :: .inl x :: st) (nn, K, σ, ρ) uc us :=
  mj_newm (h := (nn, K, σ, ρ)) e0 e1 e2 e3 e4 e5 e6 e7 e8 e9 k0
theorem mq_objI {i c : Nat} (e0 : decode b pc = .ok (.invokespecial i, 3)) (e1 : pg_sp o i = some 1) (e2 : Nat.ble (mj_ct st) 8 = true) (k0 : mj_W (mj_lv d) b o rt mc ms post (pc + 3) lv st (nn, K, σ, ρ) uc us) : mj_W (mj_lv d) b o rt mc ms post pc lv (.inr (.inl (some c)) :: st) (nn, K, σ, ρ) uc us :=
  mj_objI (h := (nn, K, σ, ρ)) e0 e1 e2 k0
theorem mq_max {i : Nat} {x z : Int32} (e0 : decode b pc = .ok (.invokestatic i, 3)) (e1 : pg_sp o i = some 2) (e2 : Nat.ble (mj_ct st) 8 = true) (k0 : mj_W (mj_lv d) b o rt mc ms post (pc + 3) lv (.inl (if x < z then z else x) :: st) (nn, K, σ, ρ) uc us) : mj_W (mj_lv d) b o rt mc ms post pc lv (.inl z :: .inl x :: st) (nn, K, σ, ρ) uc us :=
  mj_max (h := (nn, K, σ, ρ)) e0 e1 e2 k0
theorem mq_min {i : Nat} {x z : Int32} (e0 : decode b pc = .ok (.invokestatic i, 3)) (e1 : pg_sp o i = some 3) (e2 : Nat.ble (mj_ct st) 8 = true) (k0 : mj_W (mj_lv d) b o rt mc ms post (pc + 3) lv (.inl (if z < x then z else x) :: st) (nn, K, σ, ρ) uc us) : mj_W (mj_lv d) b o rt mc ms post pc lv (.inl z :: .inl x :: st) (nn, K, σ, ρ) uc us :=
  mj_min (h := (nn, K, σ, ρ)) e0 e1 e2 k0
theorem mq_copy {i a0 a1 n0 n1 : Nat} {sp dp n : Int32} (e0 : decode b pc = .ok (.invokestatic i, 3)) (e1 : pg_sp o i = some 4) (e2 : (a0 < nn ∧ K a0 = (1, n0))) (e3 : (a1 < nn ∧ K a1 = (1, n1))) (e4 : ¬ sp < 0) (e5 : ¬ dp < 0) (e6 : ¬ n < 0) (e7 : sp.toNatClampNeg + n.toNatClampNeg ≤ n0) (e8 : dp.toNatClampNeg + n.toNatClampNeg ≤ n1) (e9 : Nat.ble (mj_ct st) 8 = true) (k0 : mj_W (mj_lv d) b o rt mc ms post (pc + 3) lv st (nn, K, va_up σ a1 (va_cpy (σ a0) (σ a1) sp.toNatClampNeg dp.toNatClampNeg n.toNatClampNeg), ρ) uc us) : mj_W (mj_lv d) b o rt mc ms post pc lv (.inl n :: .inl dp :: .inr (.inl (some a1)) :: .inl sp :: .inr (.inl (some a0)) :: st) (nn, K, σ, ρ) uc us :=
  mj_copy (h := (nn, K, σ, ρ)) e0 e1 e2 e3 e4 e5 e6 e7 e8 e9 k0
end mq_rows
def iZ (z : Int) : Int32 := Int32.ofInt z
theorem iZ_add (a b : Int) : iZ a + iZ b = iZ (a + b) := (Int32.ofInt_add a b).symm
theorem iZ_sub (a b : Int) : iZ a - iZ b = iZ (a - b) := (Int32.ofInt_sub a b).symm
theorem iZ_mul (a b : Int) : iZ a * iZ b = iZ (a * b) := (Int32.ofInt_mul a b).symm
theorem iZ_neg (a : Int) : - iZ a = iZ (-a) := (Int32.ofInt_neg a).symm
theorem iZ_toInt {a : Int} (h1 : -2147483648 ≤ a) (h2 : a < 2147483648) : (iZ a).toInt = a := Int32.toInt_ofInt_of_le h1 h2
theorem iZ_nI (n : Nat) : iZ (n : Int) = nI n := rfl
theorem iZ_of (x : Int32) : x = iZ x.toInt := (Int32.ofInt_toInt x).symm
theorem iZ_lt {a b : Int} (h1 : -2147483648 ≤ a ∧ a < 2147483648) (h2 : -2147483648 ≤ b ∧ b < 2147483648) : iZ a < iZ b ↔ a < b := by
  rw [Int32.lt_iff_toInt_lt, iZ_toInt h1.1 h1.2, iZ_toInt h2.1 h2.2]
theorem iZ_le {a b : Int} (h1 : -2147483648 ≤ a ∧ a < 2147483648) (h2 : -2147483648 ≤ b ∧ b < 2147483648) : iZ a ≤ iZ b ↔ a ≤ b := by
  rw [Int32.le_iff_toInt_le, iZ_toInt h1.1 h1.2, iZ_toInt h2.1 h2.2]
theorem iZ_eq {a b : Int} (h1 : -2147483648 ≤ a ∧ a < 2147483648) (h2 : -2147483648 ≤ b ∧ b < 2147483648) : iZ a = iZ b ↔ a = b := by
  rw [← Int32.toInt_inj, iZ_toInt h1.1 h1.2, iZ_toInt h2.1 h2.2]
theorem iZ_clamp {a : Int} (h1 : 0 ≤ a) (h2 : a < 2147483648) : (iZ a).toNatClampNeg = a.toNat := by
  show (iZ a).toInt.toNat = a.toNat
  rw [iZ_toInt (by omega) h2]
theorem iZ_in {a : Int} {n : Nat} (h1 : 0 ≤ a) (h2 : a < n) (hn : n < 2147483648) : vp_in (iZ a) n := by
  rw [vp_in_iff, iZ_toInt (by omega) (by omega)]
  exact ⟨h1, h2⟩
section zq_rows
variable {d : Nat} {b : ByteArray} {o rt mc ms : Nat} {post : Option mj_V → mj_H → Prop} {pc : Nat} {lv : mj_L} {st : List mj_V} {nn : Nat} {K : Nat → Nat × Nat} {σ : Nat → Nat → Int32} {ρ : Nat → Nat → Option Nat} {uc us : Nat}
theorem zq_iadd {x z : Int} (e0 : decode b pc = .ok (.iadd, 1)) (k : mj_W (mj_lv d) b o rt mc ms post (pc + 1) lv (.inl (iZ (x + z)) :: st) (nn, K, σ, ρ) uc us) : mj_W (mj_lv d) b o rt mc ms post pc lv (.inl (iZ z) :: .inl (iZ x) :: st) (nn, K, σ, ρ) uc us := mq_iadd e0 (by rw [iZ_add]; exact k)
theorem zq_isub {x z : Int} (e0 : decode b pc = .ok (.isub, 1)) (k : mj_W (mj_lv d) b o rt mc ms post (pc + 1) lv (.inl (iZ (x - z)) :: st) (nn, K, σ, ρ) uc us) : mj_W (mj_lv d) b o rt mc ms post pc lv (.inl (iZ z) :: .inl (iZ x) :: st) (nn, K, σ, ρ) uc us := mq_isub e0 (by rw [iZ_sub]; exact k)
theorem zq_imul {x z : Int} (e0 : decode b pc = .ok (.imul, 1)) (k : mj_W (mj_lv d) b o rt mc ms post (pc + 1) lv (.inl (iZ (x * z)) :: st) (nn, K, σ, ρ) uc us) : mj_W (mj_lv d) b o rt mc ms post pc lv (.inl (iZ z) :: .inl (iZ x) :: st) (nn, K, σ, ρ) uc us := mq_imul e0 (by rw [iZ_mul]; exact k)
theorem zq_ineg {x : Int} (e0 : decode b pc = .ok (.ineg, 1)) (k : mj_W (mj_lv d) b o rt mc ms post (pc + 1) lv (.inl (iZ (-x)) :: st) (nn, K, σ, ρ) uc us) : mj_W (mj_lv d) b o rt mc ms post pc lv (.inl (iZ x) :: st) (nn, K, σ, ρ) uc us := mq_ineg e0 (by rw [iZ_neg]; exact k)
theorem zq_iconst {i : Int} (e0 : decode b pc = .ok (.iconst i, 1)) (k : mj_W (mj_lv d) b o rt mc ms post (pc + 1) lv (.inl (iZ i) :: st) (nn, K, σ, ρ) uc us) : mj_W (mj_lv d) b o rt mc ms post pc lv st (nn, K, σ, ρ) uc us := mq_iconst e0 rfl k
theorem zq_bipush {i : Int} (e0 : decode b pc = .ok (.bipush i, 2)) (e1 : (Int8.ofInt i).toInt32 = iZ i) (k : mj_W (mj_lv d) b o rt mc ms post (pc + 2) lv (.inl (iZ i) :: st) (nn, K, σ, ρ) uc us) : mj_W (mj_lv d) b o rt mc ms post pc lv st (nn, K, σ, ρ) uc us := mq_bipush e0 e1 k
theorem zq_sipush {i : Int} (e0 : decode b pc = .ok (.sipush i, 3)) (e1 : (Int16.ofInt i).toInt32 = iZ i) (k : mj_W (mj_lv d) b o rt mc ms post (pc + 3) lv (.inl (iZ i) :: st) (nn, K, σ, ρ) uc us) : mj_W (mj_lv d) b o rt mc ms post pc lv st (nn, K, σ, ρ) uc us := mq_sipush e0 e1 k
theorem zq_icmp_eq {x z off : Int} {tgt : Nat} (e0 : decode b pc = .ok (.if_icmp .eq off, 3)) (e1 : (pc : Int) + off = (tgt : Int)) (r1 : (-2147483648 ≤ x ∧ x < 2147483648)) (r2 : (-2147483648 ≤ z ∧ z < 2147483648)) (k0 : x = z → mj_W (mj_lv d) b o rt mc ms post tgt lv st (nn, K, σ, ρ) uc us) (k1 : ¬ x = z → mj_W (mj_lv d) b o rt mc ms post (pc + 3) lv st (nn, K, σ, ρ) uc us) : mj_W (mj_lv d) b o rt mc ms post pc lv (.inl (iZ z) :: .inl (iZ x) :: st) (nn, K, σ, ρ) uc us := mq_icmp_eq e0 e1 (fun g => k0 ((iZ_eq r1 r2).mp g)) (fun g => k1 (by have := mt (iZ_eq r1 r2).mpr g; omega))
theorem zq_if_eq {x off : Int} {tgt : Nat} (e0 : decode b pc = .ok (.ifCond .eq off, 3)) (e1 : (pc : Int) + off = (tgt : Int)) (r1 : (-2147483648 ≤ x ∧ x < 2147483648)) (k0 : x = 0 → mj_W (mj_lv d) b o rt mc ms post tgt lv st (nn, K, σ, ρ) uc us) (k1 : ¬ x = 0 → mj_W (mj_lv d) b o rt mc ms post (pc + 3) lv st (nn, K, σ, ρ) uc us) : mj_W (mj_lv d) b o rt mc ms post pc lv (.inl (iZ x) :: st) (nn, K, σ, ρ) uc us := by
  have r2 : (-2147483648 : Int) ≤ 0 ∧ (0 : Int) < 2147483648 := by decide
  exact mq_if_eq e0 e1 (fun g => k0 ((iZ_eq r1 r2).mp g)) (fun g => k1 (by have := mt (iZ_eq r1 r2).mpr g; omega))
theorem zq_icmp_ne {x z off : Int} {tgt : Nat} (e0 : decode b pc = .ok (.if_icmp .ne off, 3)) (e1 : (pc : Int) + off = (tgt : Int)) (r1 : (-2147483648 ≤ x ∧ x < 2147483648)) (r2 : (-2147483648 ≤ z ∧ z < 2147483648)) (k0 : ¬ x = z → mj_W (mj_lv d) b o rt mc ms post tgt lv st (nn, K, σ, ρ) uc us) (k1 : x = z → mj_W (mj_lv d) b o rt mc ms post (pc + 3) lv st (nn, K, σ, ρ) uc us) : mj_W (mj_lv d) b o rt mc ms post pc lv (.inl (iZ z) :: .inl (iZ x) :: st) (nn, K, σ, ρ) uc us := mq_icmp_ne e0 e1 (fun g => k0 (fun q => g ((iZ_eq r1 r2).mpr q))) (fun g => k1 ((iZ_eq r1 r2).mp g))
theorem zq_if_ne {x off : Int} {tgt : Nat} (e0 : decode b pc = .ok (.ifCond .ne off, 3)) (e1 : (pc : Int) + off = (tgt : Int)) (r1 : (-2147483648 ≤ x ∧ x < 2147483648)) (k0 : ¬ x = 0 → mj_W (mj_lv d) b o rt mc ms post tgt lv st (nn, K, σ, ρ) uc us) (k1 : x = 0 → mj_W (mj_lv d) b o rt mc ms post (pc + 3) lv st (nn, K, σ, ρ) uc us) : mj_W (mj_lv d) b o rt mc ms post pc lv (.inl (iZ x) :: st) (nn, K, σ, ρ) uc us := by
  have r2 : (-2147483648 : Int) ≤ 0 ∧ (0 : Int) < 2147483648 := by decide
  exact mq_if_ne e0 e1 (fun g => k0 (fun q => g ((iZ_eq r1 r2).mpr q))) (fun g => k1 ((iZ_eq r1 r2).mp g))
theorem zq_icmp_lt {x z off : Int} {tgt : Nat} (e0 : decode b pc = .ok (.if_icmp .lt off, 3)) (e1 : (pc : Int) + off = (tgt : Int)) (r1 : (-2147483648 ≤ x ∧ x < 2147483648)) (r2 : (-2147483648 ≤ z ∧ z < 2147483648)) (k0 : x < z → mj_W (mj_lv d) b o rt mc ms post tgt lv st (nn, K, σ, ρ) uc us) (k1 : z ≤ x → mj_W (mj_lv d) b o rt mc ms post (pc + 3) lv st (nn, K, σ, ρ) uc us) : mj_W (mj_lv d) b o rt mc ms post pc lv (.inl (iZ z) :: .inl (iZ x) :: st) (nn, K, σ, ρ) uc us := mq_icmp_lt e0 e1 (fun g => k0 ((iZ_lt r1 r2).mp g)) (fun g => k1 (by have := mt (iZ_lt r1 r2).mpr g; omega))
theorem zq_if_lt {x off : Int} {tgt : Nat} (e0 : decode b pc = .ok (.ifCond .lt off, 3)) (e1 : (pc : Int) + off = (tgt : Int)) (r1 : (-2147483648 ≤ x ∧ x < 2147483648)) (k0 : x < 0 → mj_W (mj_lv d) b o rt mc ms post tgt lv st (nn, K, σ, ρ) uc us) (k1 : 0 ≤ x → mj_W (mj_lv d) b o rt mc ms post (pc + 3) lv st (nn, K, σ, ρ) uc us) : mj_W (mj_lv d) b o rt mc ms post pc lv (.inl (iZ x) :: st) (nn, K, σ, ρ) uc us := by
  have r2 : (-2147483648 : Int) ≤ 0 ∧ (0 : Int) < 2147483648 := by decide
  exact mq_if_lt e0 e1 (fun g => k0 ((iZ_lt r1 r2).mp g)) (fun g => k1 (by have := mt (iZ_lt r1 r2).mpr g; omega))
theorem zq_icmp_ge {x z off : Int} {tgt : Nat} (e0 : decode b pc = .ok (.if_icmp .ge off, 3)) (e1 : (pc : Int) + off = (tgt : Int)) (r1 : (-2147483648 ≤ x ∧ x < 2147483648)) (r2 : (-2147483648 ≤ z ∧ z < 2147483648)) (k0 : z ≤ x → mj_W (mj_lv d) b o rt mc ms post tgt lv st (nn, K, σ, ρ) uc us) (k1 : x < z → mj_W (mj_lv d) b o rt mc ms post (pc + 3) lv st (nn, K, σ, ρ) uc us) : mj_W (mj_lv d) b o rt mc ms post pc lv (.inl (iZ z) :: .inl (iZ x) :: st) (nn, K, σ, ρ) uc us := mq_icmp_ge e0 e1 (fun g => k0 ((iZ_le r2 r1).mp g)) (fun g => k1 (by have := mt (iZ_le r2 r1).mpr g; omega))
theorem zq_if_ge {x off : Int} {tgt : Nat} (e0 : decode b pc = .ok (.ifCond .ge off, 3)) (e1 : (pc : Int) + off = (tgt : Int)) (r1 : (-2147483648 ≤ x ∧ x < 2147483648)) (k0 : 0 ≤ x → mj_W (mj_lv d) b o rt mc ms post tgt lv st (nn, K, σ, ρ) uc us) (k1 : x < 0 → mj_W (mj_lv d) b o rt mc ms post (pc + 3) lv st (nn, K, σ, ρ) uc us) : mj_W (mj_lv d) b o rt mc ms post pc lv (.inl (iZ x) :: st) (nn, K, σ, ρ) uc us := by
  have r2 : (-2147483648 : Int) ≤ 0 ∧ (0 : Int) < 2147483648 := by decide
  exact mq_if_ge e0 e1 (fun g => k0 ((iZ_le r2 r1).mp g)) (fun g => k1 (by have := mt (iZ_le r2 r1).mpr g; omega))
theorem zq_icmp_gt {x z off : Int} {tgt : Nat} (e0 : decode b pc = .ok (.if_icmp .gt off, 3)) (e1 : (pc : Int) + off = (tgt : Int)) (r1 : (-2147483648 ≤ x ∧ x < 2147483648)) (r2 : (-2147483648 ≤ z ∧ z < 2147483648)) (k0 : z < x → mj_W (mj_lv d) b o rt mc ms post tgt lv st (nn, K, σ, ρ) uc us) (k1 : x ≤ z → mj_W (mj_lv d) b o rt mc ms post (pc + 3) lv st (nn, K, σ, ρ) uc us) : mj_W (mj_lv d) b o rt mc ms post pc lv (.inl (iZ z) :: .inl (iZ x) :: st) (nn, K, σ, ρ) uc us := mq_icmp_gt e0 e1 (fun g => k0 ((iZ_lt r2 r1).mp g)) (fun g => k1 (by have := mt (iZ_lt r2 r1).mpr g; omega))
theorem zq_if_gt {x off : Int} {tgt : Nat} (e0 : decode b pc = .ok (.ifCond .gt off, 3)) (e1 : (pc : Int) + off = (tgt : Int)) (r1 : (-2147483648 ≤ x ∧ x < 2147483648)) (k0 : 0 < x → mj_W (mj_lv d) b o rt mc ms post tgt lv st (nn, K, σ, ρ) uc us) (k1 : x ≤ 0 → mj_W (mj_lv d) b o rt mc ms post (pc + 3) lv st (nn, K, σ, ρ) uc us) : mj_W (mj_lv d) b o rt mc ms post pc lv (.inl (iZ x) :: st) (nn, K, σ, ρ) uc us := by
  have r2 : (-2147483648 : Int) ≤ 0 ∧ (0 : Int) < 2147483648 := by decide
  exact mq_if_gt e0 e1 (fun g => k0 ((iZ_lt r2 r1).mp g)) (fun g => k1 (by have := mt (iZ_lt r2 r1).mpr g; omega))
theorem zq_icmp_le {x z off : Int} {tgt : Nat} (e0 : decode b pc = .ok (.if_icmp .le off, 3)) (e1 : (pc : Int) + off = (tgt : Int)) (r1 : (-2147483648 ≤ x ∧ x < 2147483648)) (r2 : (-2147483648 ≤ z ∧ z < 2147483648)) (k0 : x ≤ z → mj_W (mj_lv d) b o rt mc ms post tgt lv st (nn, K, σ, ρ) uc us) (k1 : z < x → mj_W (mj_lv d) b o rt mc ms post (pc + 3) lv st (nn, K, σ, ρ) uc us) : mj_W (mj_lv d) b o rt mc ms post pc lv (.inl (iZ z) :: .inl (iZ x) :: st) (nn, K, σ, ρ) uc us := mq_icmp_le e0 e1 (fun g => k0 ((iZ_le r1 r2).mp g)) (fun g => k1 (by have := mt (iZ_le r1 r2).mpr g; omega))
theorem zq_if_le {x off : Int} {tgt : Nat} (e0 : decode b pc = .ok (.ifCond .le off, 3)) (e1 : (pc : Int) + off = (tgt : Int)) (r1 : (-2147483648 ≤ x ∧ x < 2147483648)) (k0 : x ≤ 0 → mj_W (mj_lv d) b o rt mc ms post tgt lv st (nn, K, σ, ρ) uc us) (k1 : 0 < x → mj_W (mj_lv d) b o rt mc ms post (pc + 3) lv st (nn, K, σ, ρ) uc us) : mj_W (mj_lv d) b o rt mc ms post pc lv (.inl (iZ x) :: st) (nn, K, σ, ρ) uc us := by
  have r2 : (-2147483648 : Int) ≤ 0 ∧ (0 : Int) < 2147483648 := by decide
  exact mq_if_le e0 e1 (fun g => k0 ((iZ_le r1 r2).mp g)) (fun g => k1 (by have := mt (iZ_le r1 r2).mpr g; omega))
theorem zq_iald {c n : Nat} {i v : Int} (e0 : decode b pc = .ok (.iaload, 1)) (e1 : c < nn ∧ K c = (1, n)) (r : 0 ≤ i ∧ i < n ∧ n < 2147483648) (e2 : σ c i.toNat = iZ v) (k : mj_W (mj_lv d) b o rt mc ms post (pc + 1) lv (.inl (iZ v) :: st) (nn, K, σ, ρ) uc us) : mj_W (mj_lv d) b o rt mc ms post pc lv (.inl (iZ i) :: .inr (.inl (some c)) :: st) (nn, K, σ, ρ) uc us := mq_iald e0 e1 (iZ_in r.1 r.2.1 r.2.2) (by rw [iZ_clamp r.1 (by omega), e2]; exact k)
theorem zq_zald {c n : Nat} {i v : Int} (e0 : decode b pc = .ok (.baload, 1)) (e1 : c < nn ∧ K c = (2, n)) (r : 0 ≤ i ∧ i < n ∧ n < 2147483648) (e2 : σ c i.toNat = iZ v) (k : mj_W (mj_lv d) b o rt mc ms post (pc + 1) lv (.inl (iZ v) :: st) (nn, K, σ, ρ) uc us) : mj_W (mj_lv d) b o rt mc ms post pc lv (.inl (iZ i) :: .inr (.inl (some c)) :: st) (nn, K, σ, ρ) uc us := mq_zald e0 e1 (iZ_in r.1 r.2.1 r.2.2) (by rw [iZ_clamp r.1 (by omega), e2]; exact k)
theorem zq_iast {c n : Nat} {i : Int} {x : Int32} {pc1 : Nat} (e0 : decode b pc = .ok (.iastore, 1)) (e1 : c < nn ∧ K c = (1, n)) (r : 0 ≤ i ∧ i < n ∧ n < 2147483648) (k : mj_W (mj_lv d) b o rt mc ms post pc1 lv st (nn, K, mj_u2 σ c i.toNat x, ρ) uc us) (hp : pc1 = pc + 1) : mj_W (mj_lv d) b o rt mc ms post pc lv (.inl x :: .inl (iZ i) :: .inr (.inl (some c)) :: st) (nn, K, σ, ρ) uc us := mq_iast e0 e1 (iZ_in r.1 r.2.1 r.2.2) (by rw [iZ_clamp r.1 (by omega), ← hp]; exact k)
theorem zq_zast {c n : Nat} {i : Int} {x : Int32} {pc1 : Nat} (e0 : decode b pc = .ok (.bastore, 1)) (e1 : c < nn ∧ K c = (2, n)) (r : 0 ≤ i ∧ i < n ∧ n < 2147483648) (hn : narrow .boolean (.int x) = .int x) (k : mj_W (mj_lv d) b o rt mc ms post pc1 lv st (nn, K, mj_u2 σ c i.toNat x, ρ) uc us) (hp : pc1 = pc + 1) : mj_W (mj_lv d) b o rt mc ms post pc lv (.inl x :: .inl (iZ i) :: .inr (.inl (some c)) :: st) (nn, K, σ, ρ) uc us := mq_zast e0 e1 (iZ_in r.1 r.2.1 r.2.2) hn (by rw [iZ_clamp r.1 (by omega), ← hp]; exact k)
theorem zq_getI {i ci k c : Nat} {v : Int} (e0 : decode b pc = .ok (.getfield i, 3)) (e1 : pg_fld o i = some (ci, k)) (e2 : pg_fr ci k = false) (e3 : c < nn ∧ K c = (0, ci)) (e4 : σ c k = iZ v) (kk : mj_W (mj_lv d) b o rt mc ms post (pc + 3) lv (.inl (iZ v) :: st) (nn, K, σ, ρ) uc us) : mj_W (mj_lv d) b o rt mc ms post pc lv (.inr (.inl (some c)) :: st) (nn, K, σ, ρ) uc us := mq_getI e0 e1 e2 e3 (by rw [e4]; exact kk)
theorem zq_iinc {i : Nat} {k v : Int} (e0 : decode b pc = .ok (.iinc i k, 3)) (e1 : lv[i]? = some (some (.inl (iZ v)))) (e2 : mj_ok lv i = true) (kk : mj_W (mj_lv d) b o rt mc ms post (pc + 3) (lv.set i (some (.inl (iZ (v + k))))) st (nn, K, σ, ρ) uc us) : mj_W (mj_lv d) b o rt mc ms post pc lv st (nn, K, σ, ρ) uc us := mq_iinc e0 e1 (iZ_add v k) e2 kk
end zq_rows
end
section
def ly_k : List (Nat × Nat) := [(0, 8), (0, 0), (1, 12), (1, 24), (1, 24), (2, 24), (0, 7), (1, 4096), (1, 144), (1, 12), (0, 1), (1, 24), (1, 24), (1, 24), (1, 12), (1, 12), (0, 4), (1, 24), (1, 72), (1, 12), (3, 12), (1, 24), (1, 24), (1, 24), (1, 24), (1, 24), (1, 24), (1, 24), (1, 24), (1, 24), (1, 24), (1, 24), (1, 24), (3, 12), (1, 24), (1, 24), (1, 24), (1, 24), (1, 24), (1, 24), (1, 24), (1, 24), (1, 24), (1, 24), (1, 24), (1, 24), (0, 2), (1, 12), (3, 12), (1, 36), (1, 36), (1, 36), (1, 36), (1, 36), (1, 36), (1, 36), (1, 36), (1, 36), (1, 36), (1, 36), (1, 36), (3, 12), (1, 36), (1, 36), (1, 36), (1, 36), (1, 36), (1, 36), (1, 36), (1, 36), (1, 36), (1, 36), (1, 36), (1, 36), (1, 72), (1, 72), (1, 72), (0, 3), (1, 720), (1, 720), (1, 6), (1, 6), (1, 6), (1, 36), (0, 5), (1, 72), (1, 72), (1, 72), (0, 6), (1, 12), (1, 12), (1, 12), (1, 12), (0, 9), (1, 12), (1, 24), (1, 24), (2, 24), (2, 24), (1, 12), (1, 24), (1, 24), (1, 24), (1, 4096), (1, 144), (1, 49152), (1, 80), (2, 80), (1, 24), (1, 100), (1, 100), (1, 960), (1, 12), (1, 80), (1, 960), (1, 80), (1, 80), (1, 80), (1, 12), (1, 12), (1, 12), (1, 12), (1, 12)]
def ly_kd (c : Nat) : Nat × Nat := ly_k.getD c (0, 0)
def ly_r : List (List (Option Nat)) := [[some 1, some 6, some 10, some 16, some 46, some 77, some 84, some 88], [some 2, some 3, some 4, some 5], [], [], [], [], [some 7, some 8, some 9], [], [], [], [some 11, some 12, some 13, some 14, some 15], [], [], [], [], [], [some 17, some 18, some 19, some 20, some 33], [], [], [], [some 21, some 22, some 23, some 24, some 25, some 26, some 27, some 28, some 29, some 30, some 31, some 32], [], [], [], [], [], [], [], [], [], [], [], [], [some 34, some 35, some 36, some 37, some 38, some 39, some 40, some 41, some 42, some 43, some 44, some 45], [], [], [], [], [], [], [], [], [], [], [], [], [some 47, some 48, some 61, some 74, some 75, some 76], [], [some 49, some 50, some 51, some 52, some 53, some 54, some 55, some 56, some 57, some 58, some 59, some 60], [], [], [], [], [], [], [], [], [], [], [], [], [some 62, some 63, some 64, some 65, some 66, some 67, some 68, some 69, some 70, some 71, some 72, some 73], [], [], [], [], [], [], [], [], [], [], [], [], [], [], [], [some 78, some 79, some 80, some 81, some 82, some 83], [], [], [], [], [], [], [some 85, some 86, some 87], [], [], [], [some 89, some 90, some 91, some 92], [], [], [], [], [none, none, none, some 94, some 95, some 96, some 97, none, none, some 98, some 99, some 100, some 101, some 102, some 103, some 104, some 105, some 106, some 107, some 108, some 109, some 110, none, some 111, some 112, some 113, some 114, none, none, some 115, some 116, some 117, some 118, some 119, some 120, some 121, some 122], [], [], [], [], [], [], [], [], [], [], [], [], [], [], [], [], [], [], [], [], [], [], [], [], [], [], [], [], []]
def ly_rf (c k : Nat) : Option Nat := (ly_r.getD c []).getD k none
/-- the ints of objects at the start -/
def ly_i (c k : Nat) : Int32 := if c = 93 ∧ k = 7 then 1 else if c = 16 ∧ k = 5 then 12 else 0
set_option maxRecDepth 100000 in
set_option maxHeartbeats 8000000 in
theorem lw_ini_of {Inv : mj_H → Prop} : (∀ (K : Nat → Nat × Nat) (σ : Nat → Nat → Int32) (ρ : Nat → Nat → Option Nat), (∀ c, c < 123 → K c = ly_kd c) → (∀ c, c < 123 → ∀ k, k < 40 → ρ c k = ly_rf c k) → (∀ c, c < 123 → (ly_kd c).1 ≠ 0 → ∀ k, σ c k = 0) → (∀ c, c < 123 → (ly_kd c).1 = 0 → ∀ k, k < 40 → σ c k = ly_i c k) → Inv (123, K, σ, ρ)) → lw_ini Inv := by
  intro hI
  show mj_W (mj_lv 5) prog_1_method_1_code 8 9 92 8064 _ 0 [some (.inr (.inl (some 0)))] [] _ 0 0
  refine mq_aload_n d0_0 rfl rfl ?_
  refine mq_objI d0_1 rfl rfl ?_
  refine mq_aload_n d0_4 rfl rfl ?_
  refine mq_new d0_5 rfl (by decide) (by decide) ?_
  refine mq_dup d0_8 rfl ?_
  refine mj_callI (z := 73) [.inr (.inl (some 1))] d0_9 rfl rfl ⟨rfl, rfl⟩ rfl (by decide) (by decide) ⟨_, rfl⟩ ?_
  show mj_W (mj_lv 4) prog_2_method_1_code 0 9 4 84 _ 0 [some (.inr (.inl (some 1)))] [] _ 0 0
  refine mq_aload_n d73_0 rfl rfl ?_
  refine mq_objI d73_1 rfl rfl ?_
  refine mq_aload_n d73_4 rfl rfl ?_
  refine mq_bipush (v := 12) d73_5 (by decide) ?_
  refine mq_newi (n := 12) d73_7 (by decide) (by decide) (by decide) (by decide) (by decide) ?_
  refine mq_putF rfl d73_9 rfl rfl rfl rfl ⟨by decide, rfl⟩ ?_
  refine mq_aload_n d73_12 rfl rfl ?_
  refine mq_bipush (v := 24) d73_13 (by decide) ?_
  refine mq_newi (n := 24) d73_15 (by decide) (by decide) (by decide) (by decide) (by decide) ?_
  refine mq_putF rfl d73_17 rfl rfl rfl rfl ⟨by decide, rfl⟩ ?_
  refine mq_aload_n d73_20 rfl rfl ?_
  refine mq_bipush (v := 24) d73_21 (by decide) ?_
  refine mq_newi (n := 24) d73_23 (by decide) (by decide) (by decide) (by decide) (by decide) ?_
  refine mq_putF rfl d73_25 rfl rfl rfl rfl ⟨by decide, rfl⟩ ?_
  refine mq_aload_n d73_28 rfl rfl ?_
  refine mq_bipush (v := 24) d73_29 (by decide) ?_
  refine mq_newz (n := 24) d73_31 (by decide) (by decide) (by decide) (by decide) (by decide) ?_
  refine mq_putF rfl d73_33 rfl rfl rfl rfl ⟨by decide, rfl⟩ ?_
  refine mq_aload_n d73_36 rfl rfl ?_
  refine mq_iconst (v := 0) d73_37 (by decide) ?_
  refine mq_putI d73_38 rfl rfl rfl ⟨rfl, rfl⟩ ⟨by decide, rfl⟩ ?_
  refine mq_aload_n d73_41 rfl rfl ?_
  refine mq_iconst (v := 0) d73_42 (by decide) ?_
  refine mq_putI d73_43 rfl rfl rfl ⟨rfl, rfl⟩ ⟨by decide, rfl⟩ ?_
  refine mq_aload_n d73_46 rfl rfl ?_
  refine mq_iconst (v := 0) d73_47 (by decide) ?_
  refine mq_putI d73_48 rfl rfl rfl ⟨rfl, rfl⟩ ⟨by decide, rfl⟩ ?_
  refine mj_retv d73_51 (Or.inr rfl) ?_
  refine mq_putF rfl d0_12 rfl rfl rfl rfl ⟨by decide, rfl⟩ ?_
  refine mq_aload_n d0_15 rfl rfl ?_
  refine mq_new d0_16 rfl (by decide) (by decide) ?_
  refine mq_dup d0_19 rfl ?_
  refine mj_callI (z := 131) [.inr (.inl (some 6))] d0_20 rfl rfl ⟨rfl, rfl⟩ rfl (by decide) (by decide) ⟨_, rfl⟩ ?_
  show mj_W (mj_lv 4) prog_9_method_1_code 7 9 3 4252 _ 0 [some (.inr (.inl (some 6)))] [] _ 0 0
  refine mq_aload_n d131_0 rfl rfl ?_
  refine mq_objI d131_1 rfl rfl ?_
  refine mq_aload_n d131_4 rfl rfl ?_
  refine mq_sipush (v := 4096) d131_5 (by decide) ?_
  refine mq_newi (n := 4096) d131_8 (by decide) (by decide) (by decide) (by decide) (by decide) ?_
  refine mq_putF rfl d131_10 rfl rfl rfl rfl ⟨by decide, rfl⟩ ?_
  refine mq_aload_n d131_13 rfl rfl ?_
  refine mq_sipush (v := 144) d131_14 (by decide) ?_
  refine mq_newi (n := 144) d131_17 (by decide) (by decide) (by decide) (by decide) (by decide) ?_
  refine mq_putF rfl d131_19 rfl rfl rfl rfl ⟨by decide, rfl⟩ ?_
  refine mq_aload_n d131_22 rfl rfl ?_
  refine mq_bipush (v := 12) d131_23 (by decide) ?_
  refine mq_newi (n := 12) d131_25 (by decide) (by decide) (by decide) (by decide) (by decide) ?_
  refine mq_putF rfl d131_27 rfl rfl rfl rfl ⟨by decide, rfl⟩ ?_
  refine mq_aload_n d131_30 rfl rfl ?_
  refine mq_iconst (v := 0) d131_31 (by decide) ?_
  refine mq_putI d131_32 rfl rfl rfl ⟨rfl, rfl⟩ ⟨by decide, rfl⟩ ?_
  refine mq_aload_n d131_35 rfl rfl ?_
  refine mq_iconst (v := 0) d131_36 (by decide) ?_
  refine mq_putI d131_37 rfl rfl rfl ⟨rfl, rfl⟩ ⟨by decide, rfl⟩ ?_
  refine mj_retv d131_40 (Or.inr rfl) ?_
  refine mq_putF rfl d0_23 rfl rfl rfl rfl ⟨by decide, rfl⟩ ?_
  refine mq_aload_n d0_26 rfl rfl ?_
  refine mq_new d0_27 rfl (by decide) (by decide) ?_
  refine mq_dup d0_30 rfl ?_
  refine mj_callI (z := 80) [.inr (.inl (some 10))] d0_31 rfl rfl ⟨rfl, rfl⟩ rfl (by decide) (by decide) ⟨_, rfl⟩ ?_
  show mj_W (mj_lv 4) prog_3_method_1_code 1 9 5 96 _ 0 [some (.inr (.inl (some 10)))] [] _ 0 0
  refine mq_aload_n d80_0 rfl rfl ?_
  refine mq_objI d80_1 rfl rfl ?_
  refine mq_aload_n d80_4 rfl rfl ?_
  refine mq_bipush (v := 24) d80_5 (by decide) ?_
  refine mq_newi (n := 24) d80_7 (by decide) (by decide) (by decide) (by decide) (by decide) ?_
  refine mq_putF rfl d80_9 rfl rfl rfl rfl ⟨by decide, rfl⟩ ?_
  refine mq_aload_n d80_12 rfl rfl ?_
  refine mq_bipush (v := 24) d80_13 (by decide) ?_
  refine mq_newi (n := 24) d80_15 (by decide) (by decide) (by decide) (by decide) (by decide) ?_
  refine mq_putF rfl d80_17 rfl rfl rfl rfl ⟨by decide, rfl⟩ ?_
  refine mq_aload_n d80_20 rfl rfl ?_
  refine mq_bipush (v := 24) d80_21 (by decide) ?_
  refine mq_newi (n := 24) d80_23 (by decide) (by decide) (by decide) (by decide) (by decide) ?_
  refine mq_putF rfl d80_25 rfl rfl rfl rfl ⟨by decide, rfl⟩ ?_
  refine mq_aload_n d80_28 rfl rfl ?_
  refine mq_bipush (v := 12) d80_29 (by decide) ?_
  refine mq_newi (n := 12) d80_31 (by decide) (by decide) (by decide) (by decide) (by decide) ?_
  refine mq_putF rfl d80_33 rfl rfl rfl rfl ⟨by decide, rfl⟩ ?_
  refine mq_aload_n d80_36 rfl rfl ?_
  refine mq_bipush (v := 12) d80_37 (by decide) ?_
  refine mq_newi (n := 12) d80_39 (by decide) (by decide) (by decide) (by decide) (by decide) ?_
  refine mq_putF rfl d80_41 rfl rfl rfl rfl ⟨by decide, rfl⟩ ?_
  refine mq_aload_n d80_44 rfl rfl ?_
  refine mq_iconst (v := 0) d80_45 (by decide) ?_
  refine mq_putI d80_46 rfl rfl rfl ⟨rfl, rfl⟩ ⟨by decide, rfl⟩ ?_
  refine mq_aload_n d80_49 rfl rfl ?_
  refine mq_iconst (v := 0) d80_50 (by decide) ?_
  refine mq_putI d80_51 rfl rfl rfl ⟨rfl, rfl⟩ ⟨by decide, rfl⟩ ?_
  refine mq_aload_n d80_54 rfl rfl ?_
  refine mq_iconst (v := 0) d80_55 (by decide) ?_
  refine mq_putI d80_56 rfl rfl rfl ⟨rfl, rfl⟩ ⟨by decide, rfl⟩ ?_
  refine mj_retv d80_59 (Or.inr rfl) ?_
  refine mq_putF rfl d0_34 rfl rfl rfl rfl ⟨by decide, rfl⟩ ?_
  refine mq_aload_n d0_37 rfl rfl ?_
  refine mq_new d0_38 rfl (by decide) (by decide) ?_
  refine mq_dup d0_41 rfl ?_
  refine mj_callI (z := 113) [.inr (.inl (some 16))] d0_42 rfl rfl ⟨rfl, rfl⟩ rfl (by decide) (by decide) ⟨_, rfl⟩ ?_
  show mj_W (mj_lv 4) prog_6_method_1_code 4 9 29 708 _ 0 [some (.inr (.inl (some 16)))] [] _ 0 0
  refine mq_aload_n d113_0 rfl rfl ?_
  refine mq_objI d113_1 rfl rfl ?_
  refine mq_aload_n d113_4 rfl rfl ?_
  refine mq_bipush (v := 24) d113_5 (by decide) ?_
  refine mq_newi (n := 24) d113_7 (by decide) (by decide) (by decide) (by decide) (by decide) ?_
  refine mq_putF rfl d113_9 rfl rfl rfl rfl ⟨by decide, rfl⟩ ?_
  refine mq_aload_n d113_12 rfl rfl ?_
  refine mq_bipush (v := 72) d113_13 (by decide) ?_
  refine mq_newi (n := 72) d113_15 (by decide) (by decide) (by decide) (by decide) (by decide) ?_
  refine mq_putF rfl d113_17 rfl rfl rfl rfl ⟨by decide, rfl⟩ ?_
  refine mq_aload_n d113_20 rfl rfl ?_
  refine mq_bipush (v := 12) d113_21 (by decide) ?_
  refine mq_newi (n := 12) d113_23 (by decide) (by decide) (by decide) (by decide) (by decide) ?_
  refine mq_putF rfl d113_25 rfl rfl rfl rfl ⟨by decide, rfl⟩ ?_
  refine mq_aload_n d113_28 rfl rfl ?_
  refine mq_bipush (v := 12) d113_29 (by decide) ?_
  refine mq_bipush (v := 24) d113_31 (by decide) ?_
  refine mq_newm (n := 12) (k := 24) d113_33 rfl (by decide) (by decide) (by decide) (by decide) (by decide) (by decide) (by decide) (by decide) ?_
  refine mq_putF rfl d113_37 rfl rfl rfl rfl ⟨by decide, rfl⟩ ?_
  refine mq_aload_n d113_40 rfl rfl ?_
  refine mq_bipush (v := 12) d113_41 (by decide) ?_
  refine mq_bipush (v := 24) d113_43 (by decide) ?_
  refine mq_newm (n := 12) (k := 24) d113_45 rfl (by decide) (by decide) (by decide) (by decide) (by decide) (by decide) (by decide) (by decide) ?_
  refine mq_putF rfl d113_49 rfl rfl rfl rfl ⟨by decide, rfl⟩ ?_
  refine mq_aload_n d113_52 rfl rfl ?_
  refine mq_bipush (v := 12) d113_53 (by decide) ?_
  refine mq_putI d113_55 rfl rfl rfl ⟨rfl, rfl⟩ ⟨by decide, rfl⟩ ?_
  refine mj_retv d113_58 (Or.inr rfl) ?_
  refine mq_putF rfl d0_45 rfl rfl rfl rfl ⟨by decide, rfl⟩ ?_
  refine mq_aload_n d0_48 rfl rfl ?_
  refine mq_new d0_49 rfl (by decide) (by decide) ?_
  refine mq_dup d0_52 rfl ?_
  refine mj_callI (z := 89) [.inr (.inl (some 46))] d0_53 rfl rfl ⟨rfl, rfl⟩ rfl (by decide) (by decide) ⟨_, rfl⟩ ?_
  show mj_W (mj_lv 4) prog_4_method_1_code 2 9 30 1116 _ 0 [some (.inr (.inl (some 46)))] [] _ 0 0
  refine mq_aload_n d89_0 rfl rfl ?_
  refine mq_objI d89_1 rfl rfl ?_
  refine mq_aload_n d89_4 rfl rfl ?_
  refine mq_bipush (v := 12) d89_5 (by decide) ?_
  refine mq_newi (n := 12) d89_7 (by decide) (by decide) (by decide) (by decide) (by decide) ?_
  refine mq_putF rfl d89_9 rfl rfl rfl rfl ⟨by decide, rfl⟩ ?_
  refine mq_aload_n d89_12 rfl rfl ?_
  refine mq_bipush (v := 12) d89_13 (by decide) ?_
  refine mq_bipush (v := 36) d89_15 (by decide) ?_
  refine mq_newm (n := 12) (k := 36) d89_17 rfl (by decide) (by decide) (by decide) (by decide) (by decide) (by decide) (by decide) (by decide) ?_
  refine mq_putF rfl d89_21 rfl rfl rfl rfl ⟨by decide, rfl⟩ ?_
  refine mq_aload_n d89_24 rfl rfl ?_
  refine mq_bipush (v := 12) d89_25 (by decide) ?_
  refine mq_bipush (v := 36) d89_27 (by decide) ?_
  refine mq_newm (n := 12) (k := 36) d89_29 rfl (by decide) (by decide) (by decide) (by decide) (by decide) (by decide) (by decide) (by decide) ?_
  refine mq_putF rfl d89_33 rfl rfl rfl rfl ⟨by decide, rfl⟩ ?_
  refine mq_aload_n d89_36 rfl rfl ?_
  refine mq_bipush (v := 72) d89_37 (by decide) ?_
  refine mq_newi (n := 72) d89_39 (by decide) (by decide) (by decide) (by decide) (by decide) ?_
  refine mq_putF rfl d89_41 rfl rfl rfl rfl ⟨by decide, rfl⟩ ?_
  refine mq_aload_n d89_44 rfl rfl ?_
  refine mq_bipush (v := 72) d89_45 (by decide) ?_
  refine mq_newi (n := 72) d89_47 (by decide) (by decide) (by decide) (by decide) (by decide) ?_
  refine mq_putF rfl d89_49 rfl rfl rfl rfl ⟨by decide, rfl⟩ ?_
  refine mq_aload_n d89_52 rfl rfl ?_
  refine mq_bipush (v := 72) d89_53 (by decide) ?_
  refine mq_newi (n := 72) d89_55 (by decide) (by decide) (by decide) (by decide) (by decide) ?_
  refine mq_putF rfl d89_57 rfl rfl rfl rfl ⟨by decide, rfl⟩ ?_
  refine mq_aload_n d89_60 rfl rfl ?_
  refine mq_iconst (v := 0) d89_61 (by decide) ?_
  refine mq_putI d89_62 rfl rfl rfl ⟨rfl, rfl⟩ ⟨by decide, rfl⟩ ?_
  refine mq_aload_n d89_65 rfl rfl ?_
  refine mq_iconst (v := 0) d89_66 (by decide) ?_
  refine mq_putI d89_67 rfl rfl rfl ⟨rfl, rfl⟩ ⟨by decide, rfl⟩ ?_
  refine mq_aload_n d89_70 rfl rfl ?_
  refine mq_iconst (v := 0) d89_71 (by decide) ?_
  refine mq_putI d89_72 rfl rfl rfl ⟨rfl, rfl⟩ ⟨by decide, rfl⟩ ?_
  refine mj_retv d89_75 (Or.inr rfl) ?_
  refine mq_putF rfl d0_56 rfl rfl rfl rfl ⟨by decide, rfl⟩ ?_
  refine mq_aload_n d0_59 rfl rfl ?_
  refine mq_new d0_60 rfl (by decide) (by decide) ?_
  refine mq_dup d0_63 rfl ?_
  refine mj_callI (z := 102) [.inr (.inl (some 77))] d0_64 rfl rfl ⟨rfl, rfl⟩ rfl (by decide) (by decide) ⟨_, rfl⟩ ?_
  show mj_W (mj_lv 4) prog_5_method_1_code 3 9 6 1494 _ 0 [some (.inr (.inl (some 77)))] [] _ 0 0
  refine mq_aload_n d102_0 rfl rfl ?_
  refine mq_objI d102_1 rfl rfl ?_
  refine mq_aload_n d102_4 rfl rfl ?_
  refine mq_sipush (v := 720) d102_5 (by decide) ?_
  refine mq_newi (n := 720) d102_8 (by decide) (by decide) (by decide) (by decide) (by decide) ?_
  refine mq_putF rfl d102_10 rfl rfl rfl rfl ⟨by decide, rfl⟩ ?_
  refine mq_aload_n d102_13 rfl rfl ?_
  refine mq_sipush (v := 720) d102_14 (by decide) ?_
  refine mq_newi (n := 720) d102_17 (by decide) (by decide) (by decide) (by decide) (by decide) ?_
  refine mq_putF rfl d102_19 rfl rfl rfl rfl ⟨by decide, rfl⟩ ?_
  refine mq_aload_n d102_22 rfl rfl ?_
  refine mq_bipush (v := 6) d102_23 (by decide) ?_
  refine mq_newi (n := 6) d102_25 (by decide) (by decide) (by decide) (by decide) (by decide) ?_
  refine mq_putF rfl d102_27 rfl rfl rfl rfl ⟨by decide, rfl⟩ ?_
  refine mq_aload_n d102_30 rfl rfl ?_
  refine mq_bipush (v := 6) d102_31 (by decide) ?_
  refine mq_newi (n := 6) d102_33 (by decide) (by decide) (by decide) (by decide) (by decide) ?_
  refine mq_putF rfl d102_35 rfl rfl rfl rfl ⟨by decide, rfl⟩ ?_
  refine mq_aload_n d102_38 rfl rfl ?_
  refine mq_bipush (v := 6) d102_39 (by decide) ?_
  refine mq_newi (n := 6) d102_41 (by decide) (by decide) (by decide) (by decide) (by decide) ?_
  refine mq_putF rfl d102_43 rfl rfl rfl rfl ⟨by decide, rfl⟩ ?_
  refine mq_aload_n d102_46 rfl rfl ?_
  refine mq_bipush (v := 36) d102_47 (by decide) ?_
  refine mq_newi (n := 36) d102_49 (by decide) (by decide) (by decide) (by decide) (by decide) ?_
  refine mq_putF rfl d102_51 rfl rfl rfl rfl ⟨by decide, rfl⟩ ?_
  refine mq_aload_n d102_54 rfl rfl ?_
  refine mq_iconst (v := 0) d102_55 (by decide) ?_
  refine mq_putI d102_56 rfl rfl rfl ⟨rfl, rfl⟩ ⟨by decide, rfl⟩ ?_
  refine mj_retv d102_59 (Or.inr rfl) ?_
  refine mq_putF rfl d0_67 rfl rfl rfl rfl ⟨by decide, rfl⟩ ?_
  refine mq_aload_n d0_70 rfl rfl ?_
  refine mq_new d0_71 rfl (by decide) (by decide) ?_
  refine mq_dup d0_74 rfl ?_
  refine mj_callI (z := 118) [.inr (.inl (some 84))] d0_75 rfl rfl ⟨rfl, rfl⟩ rfl (by decide) (by decide) ⟨_, rfl⟩ ?_
  show mj_W (mj_lv 4) prog_7_method_1_code 5 9 3 216 _ 0 [some (.inr (.inl (some 84)))] [] _ 0 0
  refine mq_aload_n d118_0 rfl rfl ?_
  refine mq_objI d118_1 rfl rfl ?_
  refine mq_aload_n d118_4 rfl rfl ?_
  refine mq_bipush (v := 72) d118_5 (by decide) ?_
  refine mq_newi (n := 72) d118_7 (by decide) (by decide) (by decide) (by decide) (by decide) ?_
  refine mq_putF rfl d118_9 rfl rfl rfl rfl ⟨by decide, rfl⟩ ?_
  refine mq_aload_n d118_12 rfl rfl ?_
  refine mq_bipush (v := 72) d118_13 (by decide) ?_
  refine mq_newi (n := 72) d118_15 (by decide) (by decide) (by decide) (by decide) (by decide) ?_
  refine mq_putF rfl d118_17 rfl rfl rfl rfl ⟨by decide, rfl⟩ ?_
  refine mq_aload_n d118_20 rfl rfl ?_
  refine mq_bipush (v := 72) d118_21 (by decide) ?_
  refine mq_newi (n := 72) d118_23 (by decide) (by decide) (by decide) (by decide) (by decide) ?_
  refine mq_putF rfl d118_25 rfl rfl rfl rfl ⟨by decide, rfl⟩ ?_
  refine mq_aload_n d118_28 rfl rfl ?_
  refine mq_iconst (v := 0) d118_29 (by decide) ?_
  refine mq_putI d118_30 rfl rfl rfl ⟨rfl, rfl⟩ ⟨by decide, rfl⟩ ?_
  refine mj_retv d118_33 (Or.inr rfl) ?_
  refine mq_putF rfl d0_78 rfl rfl rfl rfl ⟨by decide, rfl⟩ ?_
  refine mq_aload_n d0_81 rfl rfl ?_
  refine mq_new d0_82 rfl (by decide) (by decide) ?_
  refine mq_dup d0_85 rfl ?_
  refine mj_callI (z := 122) [.inr (.inl (some 88))] d0_86 rfl rfl ⟨rfl, rfl⟩ rfl (by decide) (by decide) ⟨_, rfl⟩ ?_
  show mj_W (mj_lv 4) prog_8_method_1_code 6 9 4 48 _ 0 [some (.inr (.inl (some 88)))] [] _ 0 0
  refine mq_aload_n d122_0 rfl rfl ?_
  refine mq_objI d122_1 rfl rfl ?_
  refine mq_aload_n d122_4 rfl rfl ?_
  refine mq_bipush (v := 12) d122_5 (by decide) ?_
  refine mq_newi (n := 12) d122_7 (by decide) (by decide) (by decide) (by decide) (by decide) ?_
  refine mq_putF rfl d122_9 rfl rfl rfl rfl ⟨by decide, rfl⟩ ?_
  refine mq_aload_n d122_12 rfl rfl ?_
  refine mq_bipush (v := 12) d122_13 (by decide) ?_
  refine mq_newi (n := 12) d122_15 (by decide) (by decide) (by decide) (by decide) (by decide) ?_
  refine mq_putF rfl d122_17 rfl rfl rfl rfl ⟨by decide, rfl⟩ ?_
  refine mq_aload_n d122_20 rfl rfl ?_
  refine mq_bipush (v := 12) d122_21 (by decide) ?_
  refine mq_newi (n := 12) d122_23 (by decide) (by decide) (by decide) (by decide) (by decide) ?_
  refine mq_putF rfl d122_25 rfl rfl rfl rfl ⟨by decide, rfl⟩ ?_
  refine mq_aload_n d122_28 rfl rfl ?_
  refine mq_bipush (v := 12) d122_29 (by decide) ?_
  refine mq_newi (n := 12) d122_31 (by decide) (by decide) (by decide) (by decide) (by decide) ?_
  refine mq_putF rfl d122_33 rfl rfl rfl rfl ⟨by decide, rfl⟩ ?_
  refine mj_retv d122_36 (Or.inr rfl) ?_
  refine mq_putF rfl d0_89 rfl rfl rfl rfl ⟨by decide, rfl⟩ ?_
  refine mq_aload_n d0_92 rfl rfl ?_
  refine mq_iconst (v := 0) d0_93 (by decide) ?_
  refine mq_putI d0_94 rfl rfl rfl ⟨rfl, rfl⟩ ⟨by decide, rfl⟩ ?_
  refine mq_aload_n d0_97 rfl rfl ?_
  refine mq_iconst (v := 0) d0_98 (by decide) ?_
  refine mq_putI d0_99 rfl rfl rfl ⟨rfl, rfl⟩ ⟨by decide, rfl⟩ ?_
  refine mq_aload_n d0_102 rfl rfl ?_
  refine mq_iconst (v := 0) d0_103 (by decide) ?_
  refine mq_putI d0_104 rfl rfl rfl ⟨rfl, rfl⟩ ⟨by decide, rfl⟩ ?_
  refine mq_aload_n d0_107 rfl rfl ?_
  refine mq_iconst (v := 0) d0_108 (by decide) ?_
  refine mq_putI d0_109 rfl rfl rfl ⟨rfl, rfl⟩ ⟨by decide, rfl⟩ ?_
  refine mj_retv d0_112 (Or.inr rfl) ?_
  refine ⟨rfl, rfl, ?_⟩
  show mj_W (mj_lv 5) prog_11_method_1_code 9 9 29 56280 _ 0 [some (.inr (.inl (some 93)))] [] _ 0 0
  refine mq_aload_n d25_0 rfl rfl ?_
  refine mq_objI d25_1 rfl rfl ?_
  refine mq_aload_n d25_4 rfl rfl ?_
  refine mq_bipush (v := 12) d25_5 (by decide) ?_
  refine mq_newi (n := 12) d25_7 (by decide) (by decide) (by decide) (by decide) (by decide) ?_
  refine mq_putF rfl d25_9 rfl rfl rfl rfl ⟨by decide, rfl⟩ ?_
  refine mq_aload_n d25_12 rfl rfl ?_
  refine mq_bipush (v := 24) d25_13 (by decide) ?_
  refine mq_newi (n := 24) d25_15 (by decide) (by decide) (by decide) (by decide) (by decide) ?_
  refine mq_putF rfl d25_17 rfl rfl rfl rfl ⟨by decide, rfl⟩ ?_
  refine mq_aload_n d25_20 rfl rfl ?_
  refine mq_bipush (v := 24) d25_21 (by decide) ?_
  refine mq_newi (n := 24) d25_23 (by decide) (by decide) (by decide) (by decide) (by decide) ?_
  refine mq_putF rfl d25_25 rfl rfl rfl rfl ⟨by decide, rfl⟩ ?_
  refine mq_aload_n d25_28 rfl rfl ?_
  refine mq_bipush (v := 24) d25_29 (by decide) ?_
  refine mq_newz (n := 24) d25_31 (by decide) (by decide) (by decide) (by decide) (by decide) ?_
  refine mq_putF rfl d25_33 rfl rfl rfl rfl ⟨by decide, rfl⟩ ?_
  refine mq_aload_n d25_36 rfl rfl ?_
  refine mq_iconst (v := 1) d25_37 (by decide) ?_
  refine mq_putI d25_38 rfl rfl rfl ⟨rfl, rfl⟩ ⟨by decide, rfl⟩ ?_
  refine mq_aload_n d25_41 rfl rfl ?_
  refine mq_bipush (v := 24) d25_42 (by decide) ?_
  refine mq_newz (n := 24) d25_44 (by decide) (by decide) (by decide) (by decide) (by decide) ?_
  refine mq_putF rfl d25_46 rfl rfl rfl rfl ⟨by decide, rfl⟩ ?_
  refine mq_aload_n d25_49 rfl rfl ?_
  refine mq_bipush (v := 12) d25_50 (by decide) ?_
  refine mq_newi (n := 12) d25_52 (by decide) (by decide) (by decide) (by decide) (by decide) ?_
  refine mq_putF rfl d25_54 rfl rfl rfl rfl ⟨by decide, rfl⟩ ?_
  refine mq_aload_n d25_57 rfl rfl ?_
  refine mq_bipush (v := 24) d25_58 (by decide) ?_
  refine mq_newi (n := 24) d25_60 (by decide) (by decide) (by decide) (by decide) (by decide) ?_
  refine mq_putF rfl d25_62 rfl rfl rfl rfl ⟨by decide, rfl⟩ ?_
  refine mq_aload_n d25_65 rfl rfl ?_
  refine mq_bipush (v := 24) d25_66 (by decide) ?_
  refine mq_newi (n := 24) d25_68 (by decide) (by decide) (by decide) (by decide) (by decide) ?_
  refine mq_putF rfl d25_70 rfl rfl rfl rfl ⟨by decide, rfl⟩ ?_
  refine mq_aload_n d25_73 rfl rfl ?_
  refine mq_bipush (v := 24) d25_74 (by decide) ?_
  refine mq_newi (n := 24) d25_76 (by decide) (by decide) (by decide) (by decide) (by decide) ?_
  refine mq_putF rfl d25_78 rfl rfl rfl rfl ⟨by decide, rfl⟩ ?_
  refine mq_aload_n d25_81 rfl rfl ?_
  refine mq_sipush (v := 4096) d25_82 (by decide) ?_
  refine mq_newi (n := 4096) d25_85 (by decide) (by decide) (by decide) (by decide) (by decide) ?_
  refine mq_putF rfl d25_87 rfl rfl rfl rfl ⟨by decide, rfl⟩ ?_
  refine mq_aload_n d25_90 rfl rfl ?_
  refine mq_sipush (v := 144) d25_91 (by decide) ?_
  refine mq_newi (n := 144) d25_94 (by decide) (by decide) (by decide) (by decide) (by decide) ?_
  refine mq_putF rfl d25_96 rfl rfl rfl rfl ⟨by decide, rfl⟩ ?_
  refine mq_aload_n d25_99 rfl rfl ?_
  refine mq_ldc (v := 49152) d25_100 rfl ?_
  refine mq_newi (n := 49152) d25_102 (by decide) (by decide) (by decide) (by decide) (by decide) ?_
  refine mq_putF rfl d25_104 rfl rfl rfl rfl ⟨by decide, rfl⟩ ?_
  refine mq_aload_n d25_107 rfl rfl ?_
  refine mq_bipush (v := 80) d25_108 (by decide) ?_
  refine mq_newi (n := 80) d25_110 (by decide) (by decide) (by decide) (by decide) (by decide) ?_
  refine mq_putF rfl d25_112 rfl rfl rfl rfl ⟨by decide, rfl⟩ ?_
  refine mq_aload_n d25_115 rfl rfl ?_
  refine mq_bipush (v := 80) d25_116 (by decide) ?_
  refine mq_newz (n := 80) d25_118 (by decide) (by decide) (by decide) (by decide) (by decide) ?_
  refine mq_putF rfl d25_120 rfl rfl rfl rfl ⟨by decide, rfl⟩ ?_
  refine mq_aload_n d25_123 rfl rfl ?_
  refine mq_bipush (v := 24) d25_124 (by decide) ?_
  refine mq_newi (n := 24) d25_126 (by decide) (by decide) (by decide) (by decide) (by decide) ?_
  refine mq_putF rfl d25_128 rfl rfl rfl rfl ⟨by decide, rfl⟩ ?_
  refine mq_aload_n d25_131 rfl rfl ?_
  refine mq_bipush (v := 100) d25_132 (by decide) ?_
  refine mq_newi (n := 100) d25_134 (by decide) (by decide) (by decide) (by decide) (by decide) ?_
  refine mq_putF rfl d25_136 rfl rfl rfl rfl ⟨by decide, rfl⟩ ?_
  refine mq_aload_n d25_139 rfl rfl ?_
  refine mq_bipush (v := 100) d25_140 (by decide) ?_
  refine mq_newi (n := 100) d25_142 (by decide) (by decide) (by decide) (by decide) (by decide) ?_
  refine mq_putF rfl d25_144 rfl rfl rfl rfl ⟨by decide, rfl⟩ ?_
  refine mq_aload_n d25_147 rfl rfl ?_
  refine mq_sipush (v := 960) d25_148 (by decide) ?_
  refine mq_newi (n := 960) d25_151 (by decide) (by decide) (by decide) (by decide) (by decide) ?_
  refine mq_putF rfl d25_153 rfl rfl rfl rfl ⟨by decide, rfl⟩ ?_
  refine mq_aload_n d25_156 rfl rfl ?_
  refine mq_bipush (v := 12) d25_157 (by decide) ?_
  refine mq_newi (n := 12) d25_159 (by decide) (by decide) (by decide) (by decide) (by decide) ?_
  refine mq_putF rfl d25_161 rfl rfl rfl rfl ⟨by decide, rfl⟩ ?_
  refine mq_aload_n d25_164 rfl rfl ?_
  refine mq_bipush (v := 80) d25_165 (by decide) ?_
  refine mq_newi (n := 80) d25_167 (by decide) (by decide) (by decide) (by decide) (by decide) ?_
  refine mq_putF rfl d25_169 rfl rfl rfl rfl ⟨by decide, rfl⟩ ?_
  refine mq_aload_n d25_172 rfl rfl ?_
  refine mq_sipush (v := 960) d25_173 (by decide) ?_
  refine mq_newi (n := 960) d25_176 (by decide) (by decide) (by decide) (by decide) (by decide) ?_
  refine mq_putF rfl d25_178 rfl rfl rfl rfl ⟨by decide, rfl⟩ ?_
  refine mq_aload_n d25_181 rfl rfl ?_
  refine mq_bipush (v := 80) d25_182 (by decide) ?_
  refine mq_newi (n := 80) d25_184 (by decide) (by decide) (by decide) (by decide) (by decide) ?_
  refine mq_putF rfl d25_186 rfl rfl rfl rfl ⟨by decide, rfl⟩ ?_
  refine mq_aload_n d25_189 rfl rfl ?_
  refine mq_bipush (v := 80) d25_190 (by decide) ?_
  refine mq_newi (n := 80) d25_192 (by decide) (by decide) (by decide) (by decide) (by decide) ?_
  refine mq_putF rfl d25_194 rfl rfl rfl rfl ⟨by decide, rfl⟩ ?_
  refine mq_aload_n d25_197 rfl rfl ?_
  refine mq_bipush (v := 80) d25_198 (by decide) ?_
  refine mq_newi (n := 80) d25_200 (by decide) (by decide) (by decide) (by decide) (by decide) ?_
  refine mq_putF rfl d25_202 rfl rfl rfl rfl ⟨by decide, rfl⟩ ?_
  refine mq_aload_n d25_205 rfl rfl ?_
  refine mq_bipush (v := 12) d25_206 (by decide) ?_
  refine mq_newi (n := 12) d25_208 (by decide) (by decide) (by decide) (by decide) (by decide) ?_
  refine mq_putF rfl d25_210 rfl rfl rfl rfl ⟨by decide, rfl⟩ ?_
  refine mq_aload_n d25_213 rfl rfl ?_
  refine mq_bipush (v := 12) d25_214 (by decide) ?_
  refine mq_newi (n := 12) d25_216 (by decide) (by decide) (by decide) (by decide) (by decide) ?_
  refine mq_putF rfl d25_218 rfl rfl rfl rfl ⟨by decide, rfl⟩ ?_
  refine mq_aload_n d25_221 rfl rfl ?_
  refine mq_bipush (v := 12) d25_222 (by decide) ?_
  refine mq_newi (n := 12) d25_224 (by decide) (by decide) (by decide) (by decide) (by decide) ?_
  refine mq_putF rfl d25_226 rfl rfl rfl rfl ⟨by decide, rfl⟩ ?_
  refine mq_aload_n d25_229 rfl rfl ?_
  refine mq_bipush (v := 12) d25_230 (by decide) ?_
  refine mq_newi (n := 12) d25_232 (by decide) (by decide) (by decide) (by decide) (by decide) ?_
  refine mq_putF rfl d25_234 rfl rfl rfl rfl ⟨by decide, rfl⟩ ?_
  refine mq_aload_n d25_237 rfl rfl ?_
  refine mq_bipush (v := 12) d25_238 (by decide) ?_
  refine mq_newi (n := 12) d25_240 (by decide) (by decide) (by decide) (by decide) (by decide) ?_
  refine mq_putF rfl d25_242 rfl rfl rfl rfl ⟨by decide, rfl⟩ ?_
  refine mj_retv d25_245 (Or.inr rfl) ?_
  refine ⟨rfl, ?_⟩
  refine hI _ _ _ ?_ ?_ ?_ ?_
  · decide +kernel
  · decide +kernel
  · intro c hc hk k
    match c, hc, hk with
    | 0, _, hk => exact absurd rfl hk
    | 1, _, hk => exact absurd rfl hk
    | 2, _, _ => rfl
    | 3, _, _ => rfl
    | 4, _, _ => rfl
    | 5, _, _ => rfl
    | 6, _, hk => exact absurd rfl hk
    | 7, _, _ => rfl
    | 8, _, _ => rfl
    | 9, _, _ => rfl
    | 10, _, hk => exact absurd rfl hk
    | 11, _, _ => rfl
    | 12, _, _ => rfl
    | 13, _, _ => rfl
    | 14, _, _ => rfl
    | 15, _, _ => rfl
    | 16, _, hk => exact absurd rfl hk
    | 17, _, _ => rfl
    | 18, _, _ => rfl
    | 19, _, _ => rfl
    | 20, _, _ => rfl
    | 21, _, _ => rfl
    | 22, _, _ => rfl
    | 23, _, _ => rfl
    | 24, _, _ => rfl
    | 25, _, _ => rfl
    | 26, _, _ => rfl
    | 27, _, _ => rfl
    | 28, _, _ => rfl
    | 29, _, _ => rfl
    | 30, _, _ => rfl
    | 31, _, _ => rfl
    | 32, _, _ => rfl
    | 33, _, _ => rfl
    | 34, _, _ => rfl
    | 35, _, _ => rfl
    | 36, _, _ => rfl
    | 37, _, _ => rfl
    | 38, _, _ => rfl
    | 39, _, _ => rfl
    | 40, _, _ => rfl
    | 41, _, _ => rfl
    | 42, _, _ => rfl
    | 43, _, _ => rfl
    | 44, _, _ => rfl
    | 45, _, _ => rfl
    | 46, _, hk => exact absurd rfl hk
    | 47, _, _ => rfl
    | 48, _, _ => rfl
    | 49, _, _ => rfl
    | 50, _, _ => rfl
    | 51, _, _ => rfl
    | 52, _, _ => rfl
    | 53, _, _ => rfl
    | 54, _, _ => rfl
    | 55, _, _ => rfl
    | 56, _, _ => rfl
    | 57, _, _ => rfl
    | 58, _, _ => rfl
    | 59, _, _ => rfl
    | 60, _, _ => rfl
    | 61, _, _ => rfl
    | 62, _, _ => rfl
    | 63, _, _ => rfl
    | 64, _, _ => rfl
    | 65, _, _ => rfl
    | 66, _, _ => rfl
    | 67, _, _ => rfl
    | 68, _, _ => rfl
    | 69, _, _ => rfl
    | 70, _, _ => rfl
    | 71, _, _ => rfl
    | 72, _, _ => rfl
    | 73, _, _ => rfl
    | 74, _, _ => rfl
    | 75, _, _ => rfl
    | 76, _, _ => rfl
    | 77, _, hk => exact absurd rfl hk
    | 78, _, _ => rfl
    | 79, _, _ => rfl
    | 80, _, _ => rfl
    | 81, _, _ => rfl
    | 82, _, _ => rfl
    | 83, _, _ => rfl
    | 84, _, hk => exact absurd rfl hk
    | 85, _, _ => rfl
    | 86, _, _ => rfl
    | 87, _, _ => rfl
    | 88, _, hk => exact absurd rfl hk
    | 89, _, _ => rfl
    | 90, _, _ => rfl
    | 91, _, _ => rfl
    | 92, _, _ => rfl
    | 93, _, hk => exact absurd rfl hk
    | 94, _, _ => rfl
    | 95, _, _ => rfl
    | 96, _, _ => rfl
    | 97, _, _ => rfl
    | 98, _, _ => rfl
    | 99, _, _ => rfl
    | 100, _, _ => rfl
    | 101, _, _ => rfl
    | 102, _, _ => rfl
    | 103, _, _ => rfl
    | 104, _, _ => rfl
    | 105, _, _ => rfl
    | 106, _, _ => rfl
    | 107, _, _ => rfl
    | 108, _, _ => rfl
    | 109, _, _ => rfl
    | 110, _, _ => rfl
    | 111, _, _ => rfl
    | 112, _, _ => rfl
    | 113, _, _ => rfl
    | 114, _, _ => rfl
    | 115, _, _ => rfl
    | 116, _, _ => rfl
    | 117, _, _ => rfl
    | 118, _, _ => rfl
    | 119, _, _ => rfl
    | 120, _, _ => rfl
    | 121, _, _ => rfl
    | 122, _, _ => rfl
    | _ + 123, hc, _ => exact absurd hc (by omega)
  · decide +kernel
end
section
/-- the ints of the cells as whole numbers -/
def zs (A : Nat → Nat → Int) : Nat → Nat → Int32 := fun c k => iZ (A c k)
theorem zs_u2 {A : Nat → Nat → Int} {c k : Nat} {v : Int} : mj_u2 (zs A) c k (iZ v) = zs (mj_u2 A c k v) := by
  funext a j
  unfold zs mj_u2
  by_cases h : a = c
  · subst h
    rw [va_up_self, va_up_self]
    by_cases g : j = k
    · subst g
      rw [va_up_self, va_up_self]
    · rw [va_up_ne _ _ g, va_up_ne _ _ g]
  · rw [va_up_ne _ _ h, va_up_ne _ _ h]
theorem zs_of (σ : Nat → Nat → Int32) : σ = zs (fun c k => (σ c k).toInt) := by
  funext c k
  exact iZ_of _
theorem u2_self {A : Nat → Nat → Int} {c k : Nat} {v : Int} : mj_u2 A c k v c k = v := by unfold mj_u2; rw [va_up_self, va_up_self]
theorem u2_c {A : Nat → Nat → Int} {c k a j : Nat} {v : Int} (h : a ≠ c) : mj_u2 A c k v a j = A a j := by unfold mj_u2; rw [va_up_ne _ _ h]
theorem u2_k {A : Nat → Nat → Int} {c k a j : Nat} {v : Int} (h : j ≠ k) : mj_u2 A c k v a j = A a j := by
  unfold mj_u2
  by_cases g : a = c
  · subst g
    rw [va_up_self, va_up_ne _ _ h]
  · rw [va_up_ne _ _ g]
theorem u2_at {A : Nat → Nat → Int} {c k a j : Nat} {v : Int} : mj_u2 A c k v a j = if a = c ∧ j = k then v else A a j := by
  by_cases g : a = c
  · subst g
    by_cases h : j = k
    · subst h
      rw [u2_self, if_pos ⟨rfl, rfl⟩]
    · rw [u2_k h, if_neg (fun q => h q.2)]
  · rw [u2_c g, if_neg (fun q => g q.1)]
def Lay (K : Nat → Nat × Nat) (ρ : Nat → Nat → Option Nat) : Prop := (∀ c, c < 123 → K c = ly_kd c) ∧ ∀ c, c < 123 → ∀ k, k < 40 → ρ c k = ly_rf c k
section zg_rows
variable {d : Nat} {b : ByteArray} {o rt mc ms : Nat} {post : Option mj_V → mj_H → Prop} {pc : Nat} {lv : mj_L} {st : List mj_V} {K : Nat → Nat × Nat} {A : Nat → Nat → Int} {ρ : Nat → Nat → Option Nat} {uc us : Nat}
theorem lyk (L : Lay K ρ) {c : Nat} {kd : Nat × Nat} (h : c < 123) (e : ly_kd c = kd) : c < 123 ∧ K c = kd := ⟨h, (L.1 c h).trans e⟩
theorem lyr (L : Lay K ρ) {c k : Nat} {r : Option Nat} (h : c < 123) (hk : k < 40) (e : ly_rf c k = r) : ρ c k = r := (L.2 c h k hk).trans e
theorem zg_getI (L : Lay K ρ) {i ci k c : Nat} (e0 : decode b pc = .ok (.getfield i, 3)) (e1 : pg_fld o i = some (ci, k)) (e2 : pg_fr ci k = false) (hc : c < 123) (e3 : ly_kd c = (0, ci)) (kk : mj_W (mj_lv d) b o rt mc ms post (pc + 3) lv (.inl (iZ (A c k)) :: st) (123, K, zs A, ρ) uc us) : mj_W (mj_lv d) b o rt mc ms post pc lv (.inr (.inl (some c)) :: st) (123, K, zs A, ρ) uc us := mq_getI e0 e1 e2 (lyk L hc e3) kk
theorem zg_getIe (L : Lay K ρ) {i ci k c : Nat} (v : Int) (e0 : decode b pc = .ok (.getfield i, 3)) (e1 : pg_fld o i = some (ci, k)) (e2 : pg_fr ci k = false) (hc : c < 123) (e3 : ly_kd c = (0, ci)) (e4 : A c k = v) (kk : mj_W (mj_lv d) b o rt mc ms post (pc + 3) lv (.inl (iZ v) :: st) (123, K, zs A, ρ) uc us) : mj_W (mj_lv d) b o rt mc ms post pc lv (.inr (.inl (some c)) :: st) (123, K, zs A, ρ) uc us := zg_getI L e0 e1 e2 hc e3 (by rw [e4]; exact kk)
theorem zg_getR (L : Lay K ρ) {i ci k c : Nat} (r : Nat) (e0 : decode b pc = .ok (.getfield i, 3)) (e1 : pg_fld o i = some (ci, k)) (e2 : pg_fr ci k = true) (hc : c < 123) (e3 : ly_kd c = (0, ci)) (hk : k < 40) (e4 : ly_rf c k = some r) (kk : mj_W (mj_lv d) b o rt mc ms post (pc + 3) lv (.inr (.inl (some r)) :: st) (123, K, zs A, ρ) uc us) : mj_W (mj_lv d) b o rt mc ms post pc lv (.inr (.inl (some c)) :: st) (123, K, zs A, ρ) uc us := mq_getR e0 e1 e2 (lyk L hc e3) (lyr L hc hk e4) kk
theorem zg_putI (L : Lay K ρ) {i ci k c : Nat} {v : Int} (e0 : decode b pc = .ok (.putfield i, 3)) (e1 : pg_fld o i = some (ci, k)) (e2 : pg_fr ci k = false) (e5 : pg_fin ci k = false) (e6 : pg_ty ci k = .int) (hc : c < 123) (e3 : ly_kd c = (0, ci)) (kk : mj_W (mj_lv d) b o rt mc ms post (pc + 3) lv st (123, K, zs (mj_u2 A c k v), ρ) uc us) : mj_W (mj_lv d) b o rt mc ms post pc lv (.inl (iZ v) :: .inr (.inl (some c)) :: st) (123, K, zs A, ρ) uc us := mq_putI e0 e1 e2 e5 (by rw [e6]; exact ⟨rfl, rfl⟩) (lyk L hc e3) (by rw [zs_u2]; exact kk)
theorem zb_ok {v : Int} (h : v = 0 ∨ v = 1) : narrow .boolean (.int (iZ v)) = .int (iZ v) ∧ fits .boolean (.int (iZ v)) = true := by rcases h with rfl | rfl <;> exact ⟨rfl, rfl⟩
theorem zg_putZ (L : Lay K ρ) {i ci k c : Nat} {v : Int} (e0 : decode b pc = .ok (.putfield i, 3)) (e1 : pg_fld o i = some (ci, k)) (e2 : pg_fr ci k = false) (e5 : pg_fin ci k = false) (e6 : pg_ty ci k = .boolean) (hv : v = 0 ∨ v = 1) (hc : c < 123) (e3 : ly_kd c = (0, ci)) (kk : mj_W (mj_lv d) b o rt mc ms post (pc + 3) lv st (123, K, zs (mj_u2 A c k v), ρ) uc us) : mj_W (mj_lv d) b o rt mc ms post pc lv (.inl (iZ v) :: .inr (.inl (some c)) :: st) (123, K, zs A, ρ) uc us := mq_putI e0 e1 e2 e5 (by rw [e6]; exact zb_ok hv) (lyk L hc e3) (by rw [zs_u2]; exact kk)
theorem zg_iald (L : Lay K ρ) {c n : Nat} {i : Int} (e0 : decode b pc = .ok (.iaload, 1)) (hc : c < 123) (e3 : ly_kd c = (1, n)) (r : 0 ≤ i ∧ i < n ∧ n < 5000000) (k : mj_W (mj_lv d) b o rt mc ms post (pc + 1) lv (.inl (iZ (A c i.toNat)) :: st) (123, K, zs A, ρ) uc us) : mj_W (mj_lv d) b o rt mc ms post pc lv (.inl (iZ i) :: .inr (.inl (some c)) :: st) (123, K, zs A, ρ) uc us := mq_iald e0 (lyk L hc e3) (iZ_in r.1 r.2.1 (by omega)) (by rw [iZ_clamp r.1 (by omega)]; exact k)
theorem zg_zald (L : Lay K ρ) {c n : Nat} {i : Int} (e0 : decode b pc = .ok (.baload, 1)) (hc : c < 123) (e3 : ly_kd c = (2, n)) (r : 0 ≤ i ∧ i < n ∧ n < 5000000) (k : mj_W (mj_lv d) b o rt mc ms post (pc + 1) lv (.inl (iZ (A c i.toNat)) :: st) (123, K, zs A, ρ) uc us) : mj_W (mj_lv d) b o rt mc ms post pc lv (.inl (iZ i) :: .inr (.inl (some c)) :: st) (123, K, zs A, ρ) uc us := mq_zald e0 (lyk L hc e3) (iZ_in r.1 r.2.1 (by omega)) (by rw [iZ_clamp r.1 (by omega)]; exact k)
theorem zg_ialde (L : Lay K ρ) {c n : Nat} {i : Int} (v : Int) (e0 : decode b pc = .ok (.iaload, 1)) (hc : c < 123) (e3 : ly_kd c = (1, n)) (r : 0 ≤ i ∧ i < n ∧ n < 5000000) (e4 : A c i.toNat = v) (k : mj_W (mj_lv d) b o rt mc ms post (pc + 1) lv (.inl (iZ v) :: st) (123, K, zs A, ρ) uc us) : mj_W (mj_lv d) b o rt mc ms post pc lv (.inl (iZ i) :: .inr (.inl (some c)) :: st) (123, K, zs A, ρ) uc us := zg_iald L e0 hc e3 r (by rw [e4]; exact k)
theorem zg_zalde (L : Lay K ρ) {c n : Nat} {i : Int} (v : Int) (e0 : decode b pc = .ok (.baload, 1)) (hc : c < 123) (e3 : ly_kd c = (2, n)) (r : 0 ≤ i ∧ i < n ∧ n < 5000000) (e4 : A c i.toNat = v) (k : mj_W (mj_lv d) b o rt mc ms post (pc + 1) lv (.inl (iZ v) :: st) (123, K, zs A, ρ) uc us) : mj_W (mj_lv d) b o rt mc ms post pc lv (.inl (iZ i) :: .inr (.inl (some c)) :: st) (123, K, zs A, ρ) uc us := zg_zald L e0 hc e3 r (by rw [e4]; exact k)
theorem zg_iast (L : Lay K ρ) {c n : Nat} {i v : Int} (e0 : decode b pc = .ok (.iastore, 1)) (hc : c < 123) (e3 : ly_kd c = (1, n)) (r : 0 ≤ i ∧ i < n ∧ n < 5000000) (k : mj_W (mj_lv d) b o rt mc ms post (pc + 1) lv st (123, K, zs (mj_u2 A c i.toNat v), ρ) uc us) : mj_W (mj_lv d) b o rt mc ms post pc lv (.inl (iZ v) :: .inl (iZ i) :: .inr (.inl (some c)) :: st) (123, K, zs A, ρ) uc us := mq_iast e0 (lyk L hc e3) (iZ_in r.1 r.2.1 (by omega)) (by rw [iZ_clamp r.1 (by omega), zs_u2]; exact k)
theorem zg_zast (L : Lay K ρ) {c n : Nat} {i v : Int} (e0 : decode b pc = .ok (.bastore, 1)) (hc : c < 123) (e3 : ly_kd c = (2, n)) (r : 0 ≤ i ∧ i < n ∧ n < 5000000) (hv : v = 0 ∨ v = 1) (k : mj_W (mj_lv d) b o rt mc ms post (pc + 1) lv st (123, K, zs (mj_u2 A c i.toNat v), ρ) uc us) : mj_W (mj_lv d) b o rt mc ms post pc lv (.inl (iZ v) :: .inl (iZ i) :: .inr (.inl (some c)) :: st) (123, K, zs A, ρ) uc us := mq_zast e0 (lyk L hc e3) (iZ_in r.1 r.2.1 (by omega)) (zb_ok hv).1 (by rw [iZ_clamp r.1 (by omega), zs_u2]; exact k)
theorem zg_reti {v : Int} (e0 : decode b pc = .ok (.ireturn, 1)) (e1 : rt = 1) (k : post (some (.inl (iZ v))) (123, K, zs A, ρ)) : mj_W (mj_lv d) b o rt mc ms post pc lv [.inl (iZ v)] (123, K, zs A, ρ) uc us := mj_reti e0 (Or.inl e1) k
theorem zg_retz {v : Int} (e0 : decode b pc = .ok (.ireturn, 1)) (e1 : rt = 2) (hv : v = 0 ∨ v = 1) (k : post (some (.inl (iZ v))) (123, K, zs A, ρ)) : mj_W (mj_lv d) b o rt mc ms post pc lv [.inl (iZ v)] (123, K, zs A, ρ) uc us := mj_reti e0 (Or.inr ⟨e1, (zb_ok hv).1⟩) k
theorem zg_retv (e0 : decode b pc = .ok (.return_, 1)) (e1 : rt = 0 ∨ rt = 9) (k : post none (123, K, zs A, ρ)) : mj_W (mj_lv d) b o rt mc ms post pc lv [] (123, K, zs A, ρ) uc us := mj_retv e0 e1 k
theorem zg_callV {i z c : Nat} (L : Lay K ρ) (w : List mj_V) (e0 : decode b pc = .ok (.invokevirtual i, 3)) (e1 : pg_mth o i = some z) (e2 : pg_kd z = 1) (e3 : (.inr (.inl (some c)) :: w : List mj_V).length = pg_na z ∧ mj_ct (.inr (.inl (some c)) :: w) = pg_na z) (e4 : Nat.ble (mj_ct st) 8 = true) (e5 : pg_mc z = 0 ∧ pg_ms z = 0) (hu : uc ≤ mc ∧ us ≤ ms) (hc : c < 123) (e6 : ly_kd c = (0, pg_own z)) (k : mj_lv d z (.inr (.inl (some c)) :: w) (123, K, zs A, ρ) (fun r h2 => mj_W (mj_lv d) b o rt mc ms post (pc + 3) lv (r.toList ++ st) h2 uc us)) : mj_W (mj_lv d) b o rt mc ms post pc lv ((.inr (.inl (some c)) :: w : List mj_V).reverse ++ st) (123, K, zs A, ρ) uc us := mj_callV (.inr (.inl (some c)) :: w) e0 e1 e2 e3 e4 (by rw [e5.1]; exact hu.1) (by rw [e5.2]; exact hu.2) ⟨c, rfl, lyk L hc e6⟩ (by rw [e5.1, e5.2]; exact k)
theorem zg_callS {i z : Nat} (w : List mj_V) (e0 : decode b pc = .ok (.invokestatic i, 3)) (e1 : pg_mth o i = some z) (e2 : pg_kd z = 0) (e3 : w.length = pg_na z ∧ mj_ct w = pg_na z) (e4 : Nat.ble (mj_ct st) 8 = true) (e5 : pg_mc z = 0 ∧ pg_ms z = 0) (hu : uc ≤ mc ∧ us ≤ ms) (k : mj_lv d z w (123, K, zs A, ρ) (fun r h2 => mj_W (mj_lv d) b o rt mc ms post (pc + 3) lv (r.toList ++ st) h2 uc us)) : mj_W (mj_lv d) b o rt mc ms post pc lv (w.reverse ++ st) (123, K, zs A, ρ) uc us := mj_callS w e0 e1 e2 e3 e4 (by rw [e5.1]; exact hu.1) (by rw [e5.2]; exact hu.2) (by rw [e5.1, e5.2]; exact k)
end zg_rows
end
section
section sp_leaf
variable {d : Nat} {post : Option mj_V → mj_H → Prop} {K : Nat → Nat × Nat} {A : Nat → Nat → Int} {ρ : Nat → Nat → Option Nat}
set_option maxRecDepth 100000 in
theorem s_isWidth (L : Lay K ρ) {x : Int} (rx : -2147483648 ≤ x ∧ x < 2147483648)  (k1 : (1 ≤ x ∧ x ≤ 9) → post (some (.inl (iZ 1))) (123, K, zs A, ρ)) (k0 : ¬ (1 ≤ x ∧ x ≤ 9) → post (some (.inl (iZ 0))) (123, K, zs A, ρ)) : mj_lv (d + 1) m_Main_isWidth [.inl (iZ x)] (123, K, zs A, ρ) post := by
  show mj_W (mj_lv d) prog_1_method_22_code 8 2 0 0 post 0 [some (.inl (iZ x))] [] (123, K, zs A, ρ) 0 0
  refine mq_iload_n d21_0 rfl rfl ?_
  refine zq_iconst d21_1 ?_
  refine zq_icmp_lt (tgt := 15) d21_2 (by decide) (by omega) (by omega) (fun g1 => ?_) (fun g1 => ?_)
  · refine zq_iconst d21_15 ?_
    refine zg_retz d21_16 rfl (by first | decide | omega) ?_
    first | exact k1 (by omega) | exact k0 (by omega)
  · refine mq_iload_n d21_5 rfl rfl ?_
    refine zq_bipush d21_6 rfl ?_
    refine zq_icmp_gt (tgt := 15) d21_8 (by decide) (by omega) (by omega) (fun g2 => ?_) (fun g2 => ?_)
    · refine zq_iconst d21_15 ?_
      refine zg_retz d21_16 rfl (by first | decide | omega) ?_
      first | exact k1 (by omega) | exact k0 (by omega)
    · refine zq_iconst d21_11 ?_
      refine mq_goto (tgt := 16) d21_12 (by decide) ?_
      refine zg_retz d21_16 rfl (by first | decide | omega) ?_
      first | exact k1 (by omega) | exact k0 (by omega)
set_option maxRecDepth 100000 in
theorem s_hasNode (L : Lay K ρ) {x : Int} (rx : -2147483648 ≤ x ∧ x < 2147483648) (rn : 0 ≤ A 1 4 ∧ A 1 4 ≤ 12) (k1 : (0 ≤ x ∧ x < A 1 4) → post (some (.inl (iZ 1))) (123, K, zs A, ρ)) (k0 : ¬ (0 ≤ x ∧ x < A 1 4) → post (some (.inl (iZ 0))) (123, K, zs A, ρ)) : mj_lv (d + 1) m_Graph_hasNode [.inr (.inl (some 1)), .inl (iZ x)] (123, K, zs A, ρ) post := by
  show mj_W (mj_lv d) prog_2_method_2_code 0 2 0 0 post 0 [some (.inr (.inl (some 1))), some (.inl (iZ x))] [] (123, K, zs A, ρ) 0 0
  refine mq_iload_n d74_0 rfl rfl ?_
  refine zq_if_lt (tgt := 16) d74_1 (by decide) (by omega) (fun g1 => ?_) (fun g1 => ?_)
  · refine zq_iconst d74_16 ?_
    refine zg_retz d74_17 rfl (by first | decide | omega) ?_
    first | exact k1 (by omega) | exact k0 (by omega)
  · refine mq_iload_n d74_4 rfl rfl ?_
    refine mq_aload_n d74_5 rfl rfl ?_
    refine zg_getI L d74_6 rfl rfl (by decide) rfl ?_
    refine zq_icmp_ge (tgt := 16) d74_9 (by decide) (by omega) (by omega) (fun g2 => ?_) (fun g2 => ?_)
    · refine zq_iconst d74_16 ?_
      refine zg_retz d74_17 rfl (by first | decide | omega) ?_
      first | exact k1 (by omega) | exact k0 (by omega)
    · refine zq_iconst d74_12 ?_
      refine mq_goto (tgt := 17) d74_13 (by decide) ?_
      refine zg_retz d74_17 rfl (by first | decide | omega) ?_
      first | exact k1 (by omega) | exact k0 (by omega)
set_option maxRecDepth 100000 in
theorem s_hasArc (L : Lay K ρ) {x : Int} (rx : -2147483648 ≤ x ∧ x < 2147483648) (rm : 0 ≤ A 1 5 ∧ A 1 5 ≤ 24) (rt : ∀ a : Nat, (a : Int) < A 1 5 → A 5 a = 0 ∨ A 5 a = 1) (k1 : (0 ≤ x ∧ x < A 1 5 ∧ A 5 x.toNat = 1) → post (some (.inl (iZ 1))) (123, K, zs A, ρ)) (k0 : ¬ (0 ≤ x ∧ x < A 1 5 ∧ A 5 x.toNat = 1) → post (some (.inl (iZ 0))) (123, K, zs A, ρ)) : mj_lv (d + 1) m_Graph_hasArc [.inr (.inl (some 1)), .inl (iZ x)] (123, K, zs A, ρ) post := by
  show mj_W (mj_lv d) prog_2_method_3_code 0 2 0 0 post 0 [some (.inr (.inl (some 1))), some (.inl (iZ x))] [] (123, K, zs A, ρ) 0 0
  refine mq_iload_n d75_0 rfl rfl ?_
  refine zq_if_lt (tgt := 25) d75_1 (by decide) (by omega) (fun g1 => ?_) (fun g1 => ?_)
  · refine zq_iconst d75_25 ?_
    refine zg_retz d75_26 rfl (by first | decide | omega) ?_
    first | exact k1 (by omega) | exact k0 (by omega)
  · refine mq_iload_n d75_4 rfl rfl ?_
    refine mq_aload_n d75_5 rfl rfl ?_
    refine zg_getI L d75_6 rfl rfl (by decide) rfl ?_
    refine zq_icmp_ge (tgt := 25) d75_9 (by decide) (by omega) (by omega) (fun g2 => ?_) (fun g2 => ?_)
    · refine zq_iconst d75_25 ?_
      refine zg_retz d75_26 rfl (by first | decide | omega) ?_
      first | exact k1 (by omega) | exact k0 (by omega)
    · refine mq_aload_n d75_12 rfl rfl ?_
      refine zg_getR L 5 d75_13 rfl rfl (by decide) rfl (by decide) rfl ?_
      refine mq_iload_n d75_16 rfl rfl ?_
      refine zg_zald L d75_17 (by decide) rfl (by omega) ?_
      have q0 := rt x.toNat (by omega)
      refine zq_if_eq (tgt := 25) d75_18 (by decide) (by omega) (fun g3 => ?_) (fun g3 => ?_)
      · refine zq_iconst d75_25 ?_
        refine zg_retz d75_26 rfl (by first | decide | omega) ?_
        first | exact k1 (by omega) | exact k0 (by omega)
      · refine zq_iconst d75_21 ?_
        refine mq_goto (tgt := 26) d75_22 (by decide) ?_
        refine zg_retz d75_26 rfl (by first | decide | omega) ?_
        first | exact k1 (by omega) | exact k0 (by omega)
set_option maxRecDepth 100000 in
theorem s_isNode (L : Lay K ρ) {x : Int} (rx : -2147483648 ≤ x ∧ x < 2147483648) (rn : 0 ≤ A 93 0 ∧ A 93 0 ≤ 12) (k1 : (0 ≤ x ∧ x < A 93 0) → post (some (.inl (iZ 1))) (123, K, zs A, ρ)) (k0 : ¬ (0 ≤ x ∧ x < A 93 0) → post (some (.inl (iZ 0))) (123, K, zs A, ρ)) : mj_lv (d + 1) m_Mod_isNode [.inr (.inl (some 93)), .inl (iZ x)] (123, K, zs A, ρ) post := by
  show mj_W (mj_lv d) prog_11_method_3_code 9 2 0 0 post 0 [some (.inr (.inl (some 93))), some (.inl (iZ x))] [] (123, K, zs A, ρ) 0 0
  refine mq_iload_n d27_0 rfl rfl ?_
  refine zq_if_lt (tgt := 16) d27_1 (by decide) (by omega) (fun g1 => ?_) (fun g1 => ?_)
  · refine zq_iconst d27_16 ?_
    refine zg_retz d27_17 rfl (by first | decide | omega) ?_
    first | exact k1 (by omega) | exact k0 (by omega)
  · refine mq_iload_n d27_4 rfl rfl ?_
    refine mq_aload_n d27_5 rfl rfl ?_
    refine zg_getI L d27_6 rfl rfl (by decide) rfl ?_
    refine zq_icmp_ge (tgt := 16) d27_9 (by decide) (by omega) (by omega) (fun g2 => ?_) (fun g2 => ?_)
    · refine zq_iconst d27_16 ?_
      refine zg_retz d27_17 rfl (by first | decide | omega) ?_
      first | exact k1 (by omega) | exact k0 (by omega)
    · refine zq_iconst d27_12 ?_
      refine mq_goto (tgt := 17) d27_13 (by decide) ?_
      refine zg_retz d27_17 rfl (by first | decide | omega) ?_
      first | exact k1 (by omega) | exact k0 (by omega)
set_option maxRecDepth 100000 in
theorem s_isArc (L : Lay K ρ) {x : Int} (rx : -2147483648 ≤ x ∧ x < 2147483648) (rm : 0 ≤ A 93 1 ∧ A 93 1 ≤ 24) (rt : ∀ a : Nat, (a : Int) < A 93 1 → A 97 a = 0 ∨ A 97 a = 1) (k1 : (0 ≤ x ∧ x < A 93 1 ∧ A 97 x.toNat = 1) → post (some (.inl (iZ 1))) (123, K, zs A, ρ)) (k0 : ¬ (0 ≤ x ∧ x < A 93 1 ∧ A 97 x.toNat = 1) → post (some (.inl (iZ 0))) (123, K, zs A, ρ)) : mj_lv (d + 1) m_Mod_isArc [.inr (.inl (some 93)), .inl (iZ x)] (123, K, zs A, ρ) post := by
  show mj_W (mj_lv d) prog_11_method_4_code 9 2 0 0 post 0 [some (.inr (.inl (some 93))), some (.inl (iZ x))] [] (123, K, zs A, ρ) 0 0
  refine mq_iload_n d28_0 rfl rfl ?_
  refine zq_if_lt (tgt := 25) d28_1 (by decide) (by omega) (fun g1 => ?_) (fun g1 => ?_)
  · refine zq_iconst d28_25 ?_
    refine zg_retz d28_26 rfl (by first | decide | omega) ?_
    first | exact k1 (by omega) | exact k0 (by omega)
  · refine mq_iload_n d28_4 rfl rfl ?_
    refine mq_aload_n d28_5 rfl rfl ?_
    refine zg_getI L d28_6 rfl rfl (by decide) rfl ?_
    refine zq_icmp_ge (tgt := 25) d28_9 (by decide) (by omega) (by omega) (fun g2 => ?_) (fun g2 => ?_)
    · refine zq_iconst d28_25 ?_
      refine zg_retz d28_26 rfl (by first | decide | omega) ?_
      first | exact k1 (by omega) | exact k0 (by omega)
    · refine mq_aload_n d28_12 rfl rfl ?_
      refine zg_getR L 97 d28_13 rfl rfl (by decide) rfl (by decide) rfl ?_
      refine mq_iload_n d28_16 rfl rfl ?_
      refine zg_zald L d28_17 (by decide) rfl (by omega) ?_
      have q0 := rt x.toNat (by omega)
      refine zq_if_eq (tgt := 25) d28_18 (by decide) (by omega) (fun g3 => ?_) (fun g3 => ?_)
      · refine zq_iconst d28_25 ?_
        refine zg_retz d28_26 rfl (by first | decide | omega) ?_
        first | exact k1 (by omega) | exact k0 (by omega)
      · refine zq_iconst d28_21 ?_
        refine mq_goto (tgt := 26) d28_22 (by decide) ?_
        refine zg_retz d28_26 rfl (by first | decide | omega) ?_
        first | exact k1 (by omega) | exact k0 (by omega)
set_option maxRecDepth 100000 in
theorem s_forgetDrawings (L : Lay K ρ)   (k : post none (123, K, zs (mj_u2 (mj_u2 (mj_u2 A 0 9 0) 0 10 0) 0 11 0), ρ)) : mj_lv (d + 1) m_Main_forgetDrawings [.inr (.inl (some 0))] (123, K, zs A, ρ) post := by
  show mj_W (mj_lv d) prog_1_method_24_code 8 0 0 0 post 0 [some (.inr (.inl (some 0)))] [] (123, K, zs A, ρ) 0 0
  refine mq_aload_n d23_0 rfl rfl ?_
  refine zq_iconst d23_1 ?_
  refine zg_putZ L d23_2 rfl rfl rfl rfl (by first | decide | omega) (by decide) rfl ?_
  refine mq_aload_n d23_5 rfl rfl ?_
  refine zq_iconst d23_6 ?_
  refine zg_putZ L d23_7 rfl rfl rfl rfl (by first | decide | omega) (by decide) rfl ?_
  refine mq_aload_n d23_10 rfl rfl ?_
  refine zq_iconst d23_11 ?_
  refine zg_putZ L d23_12 rfl rfl rfl rfl (by first | decide | omega) (by decide) rfl ?_
  refine zg_retv d23_15 (by decide) ?_
  exact k
set_option maxRecDepth 100000 in
theorem s_forgetAll (L : Lay K ρ)   (k : post none (123, K, zs (mj_u2 (mj_u2 (mj_u2 (mj_u2 A 0 8 0) 0 9 0) 0 10 0) 0 11 0), ρ)) : mj_lv (d + 2) m_Main_forgetAll [.inr (.inl (some 0))] (123, K, zs A, ρ) post := by
  show mj_W (mj_lv (d + 1)) prog_1_method_23_code 8 0 0 0 post 0 [some (.inr (.inl (some 0)))] [] (123, K, zs A, ρ) 0 0
  refine mq_aload_n d22_0 rfl rfl ?_
  refine zq_iconst d22_1 ?_
  refine zg_putZ L d22_2 rfl rfl rfl rfl (by first | decide | omega) (by decide) rfl ?_
  refine mq_aload_n d22_5 rfl rfl ?_
  refine zg_callV (c := 0) L [] d22_6 rfl rfl ⟨rfl, rfl⟩ rfl ⟨rfl, rfl⟩ ⟨by decide, by decide⟩ (by decide) rfl ?_
  refine s_forgetDrawings L ?_
  refine zg_retv d22_9 (by decide) ?_
  exact k
set_option maxRecDepth 100000 in
theorem s_addNode (L : Lay K ρ) {x : Int} (rx : -2147483648 ≤ x ∧ x < 2147483648) (rn : 0 ≤ A 1 4 ∧ A 1 4 < 12) (k : post (some (.inl (iZ (A 1 4)))) (123, K, zs (mj_u2 (mj_u2 A 2 (A 1 4).toNat x) 1 4 (A 1 4 + 1)), ρ)) : mj_lv (d + 1) m_Graph_addNode [.inr (.inl (some 1)), .inl (iZ x)] (123, K, zs A, ρ) post := by
  show mj_W (mj_lv d) prog_2_method_4_code 0 1 0 0 post 0 [some (.inr (.inl (some 1))), some (.inl (iZ x))] [] (123, K, zs A, ρ) 0 0
  refine mq_aload_n d76_0 rfl rfl ?_
  refine zg_getR L 2 d76_1 rfl rfl (by decide) rfl (by decide) rfl ?_
  refine mq_aload_n d76_4 rfl rfl ?_
  refine zg_getI L d76_5 rfl rfl (by decide) rfl ?_
  refine mq_iload_n d76_8 rfl rfl ?_
  refine zg_iast L d76_9 (by decide) rfl (by omega) ?_
  refine mq_aload_n d76_10 rfl rfl ?_
  refine mq_dup d76_11 rfl ?_
  refine zg_getIe L (A 1 4) d76_12 rfl rfl (by decide) rfl (by simp [u2_at]) ?_
  refine zq_iconst d76_15 ?_
  refine zq_iadd d76_16 ?_
  refine zg_putI L d76_17 rfl rfl rfl rfl (by decide) rfl ?_
  refine mq_aload_n d76_20 rfl rfl ?_
  refine zg_getIe L (((A 1 4) + 1)) d76_21 rfl rfl (by decide) rfl (by simp [u2_at]) ?_
  refine zq_iconst d76_24 ?_
  refine zq_isub d76_25 ?_
  refine zg_reti d76_26 rfl ?_
  simpa using k
set_option maxRecDepth 100000 in
theorem s_empty (L : Lay K ρ)   (k : post none (123, K, zs (mj_u2 (mj_u2 (mj_u2 A 1 4 0) 1 5 0) 1 6 0), ρ)) : mj_lv (d + 1) m_Graph_empty [.inr (.inl (some 1))] (123, K, zs A, ρ) post := by
  show mj_W (mj_lv d) prog_2_method_7_code 0 0 0 0 post 0 [some (.inr (.inl (some 1)))] [] (123, K, zs A, ρ) 0 0
  refine mq_aload_n d79_0 rfl rfl ?_
  refine zq_iconst d79_1 ?_
  refine zg_putI L d79_2 rfl rfl rfl rfl (by decide) rfl ?_
  refine mq_aload_n d79_5 rfl rfl ?_
  refine zq_iconst d79_6 ?_
  refine zg_putI L d79_7 rfl rfl rfl rfl (by decide) rfl ?_
  refine mq_aload_n d79_10 rfl rfl ?_
  refine zq_iconst d79_11 ?_
  refine zg_putI L d79_12 rfl rfl rfl rfl (by decide) rfl ?_
  refine zg_retv d79_15 (by decide) ?_
  exact k
set_option maxRecDepth 100000 in
theorem s_changed (L : Lay K ρ)   (k : post none (123, K, zs (mj_u2 (mj_u2 A 93 7 1) 93 8 0), ρ)) : mj_lv (d + 1) m_Mod_changed [.inr (.inl (some 93))] (123, K, zs A, ρ) post := by
  show mj_W (mj_lv d) prog_11_method_2_code 9 0 0 0 post 0 [some (.inr (.inl (some 93)))] [] (123, K, zs A, ρ) 0 0
  refine mq_aload_n d26_0 rfl rfl ?_
  refine zq_iconst d26_1 ?_
  refine zg_putZ L d26_2 rfl rfl rfl rfl (by first | decide | omega) (by decide) rfl ?_
  refine mq_aload_n d26_5 rfl rfl ?_
  refine zq_iconst d26_6 ?_
  refine zg_putZ L d26_7 rfl rfl rfl rfl (by first | decide | omega) (by decide) rfl ?_
  refine zg_retv d26_10 (by decide) ?_
  exact k
end sp_leaf
end
section
section sp_mut
variable {d : Nat} {post : Option mj_V → mj_H → Prop} {K : Nat → Nat × Nat} {A : Nat → Nat → Int} {ρ : Nat → Nat → Option Nat}
set_option maxRecDepth 100000 in
set_option maxHeartbeats 2000000 in
theorem s_addArc (L : Lay K ρ) {x : Int} (rx : -2147483648 ≤ x ∧ x < 2147483648) {y : Int} (ry : -2147483648 ≤ y ∧ y < 2147483648) (rm : 0 ≤ A 1 5 ∧ A 1 5 < 24) (k0 : post (some (.inl (iZ (A 1 5)))) (123, K, zs (mj_u2 (mj_u2 (mj_u2 (mj_u2 (mj_u2 (A) 3 ((A 1 5).toNat) (x)) 4 ((A 1 5).toNat) (y)) 5 ((A 1 5).toNat) 1) 1 6 (A 1 6 + 1)) 1 5 (A 1 5 + 1)), ρ)) : mj_lv (d + 1) m_Graph_addArc [.inr (.inl (some 1)), .inl (iZ x), .inl (iZ y)] (123, K, zs A, ρ) post := by
  show mj_W (mj_lv d) prog_2_method_5_code 0 1 0 0 post 0 [some (.inr (.inl (some 1))), some (.inl (iZ x)), some (.inl (iZ y))] [] (123, K, zs A, ρ) 0 0
  refine mq_aload_n d77_0 rfl rfl ?_
  refine zg_getR L 3 d77_1 rfl rfl (by decide) rfl (by decide) rfl ?_
  refine mq_aload_n d77_4 rfl rfl ?_
  refine zg_getI L d77_5 rfl rfl (by decide) rfl ?_
  refine mq_iload_n d77_8 rfl rfl ?_
  refine zg_iast L d77_9 (by decide) rfl (by omega) ?_
  refine mq_aload_n d77_10 rfl rfl ?_
  refine zg_getR L 4 d77_11 rfl rfl (by decide) rfl (by decide) rfl ?_
  refine mq_aload_n d77_14 rfl rfl ?_
  refine zg_getIe L (A 1 5) d77_15 rfl rfl (by decide) rfl (by simp [u2_at]) ?_
  refine mq_iload_n d77_18 rfl rfl ?_
  refine zg_iast L d77_19 (by decide) rfl (by omega) ?_
  refine mq_aload_n d77_20 rfl rfl ?_
  refine zg_getR L 5 d77_21 rfl rfl (by decide) rfl (by decide) rfl ?_
  refine mq_aload_n d77_24 rfl rfl ?_
  refine zg_getIe L (A 1 5) d77_25 rfl rfl (by decide) rfl (by simp [u2_at]) ?_
  refine zq_iconst d77_28 ?_
  refine zg_zast L d77_29 (by decide) rfl (by omega) (by first | decide | omega) ?_
  refine mq_aload_n d77_30 rfl rfl ?_
  refine mq_dup d77_31 rfl ?_
  refine zg_getIe L (A 1 6) d77_32 rfl rfl (by decide) rfl (by simp [u2_at]) ?_
  refine zq_iconst d77_35 ?_
  refine zq_iadd d77_36 ?_
  refine zg_putI L d77_37 rfl rfl rfl rfl (by decide) rfl ?_
  refine mq_aload_n d77_40 rfl rfl ?_
  refine mq_dup d77_41 rfl ?_
  refine zg_getIe L (A 1 5) d77_42 rfl rfl (by decide) rfl (by simp [u2_at]) ?_
  refine zq_iconst d77_45 ?_
  refine zq_iadd d77_46 ?_
  refine zg_putI L d77_47 rfl rfl rfl rfl (by decide) rfl ?_
  refine mq_aload_n d77_50 rfl rfl ?_
  refine zg_getIe L (((A 1 5) + 1)) d77_51 rfl rfl (by decide) rfl (by simp [u2_at]) ?_
  refine zq_iconst d77_54 ?_
  refine zq_isub d77_55 ?_
  refine zg_reti d77_56 rfl ?_
  simpa using k0
set_option maxRecDepth 100000 in
set_option maxHeartbeats 2000000 in
theorem s_removeArc (L : Lay K ρ) {x : Int} (rx : -2147483648 ≤ x ∧ x < 2147483648) (rm : 0 ≤ x ∧ x < 24) (k0 : post none (123, K, zs (mj_u2 (mj_u2 (A) 5 (x.toNat) 0) 1 6 (A 1 6 - 1)), ρ)) : mj_lv (d + 1) m_Graph_removeArc [.inr (.inl (some 1)), .inl (iZ x)] (123, K, zs A, ρ) post := by
  show mj_W (mj_lv d) prog_2_method_6_code 0 0 0 0 post 0 [some (.inr (.inl (some 1))), some (.inl (iZ x))] [] (123, K, zs A, ρ) 0 0
  refine mq_aload_n d78_0 rfl rfl ?_
  refine zg_getR L 5 d78_1 rfl rfl (by decide) rfl (by decide) rfl ?_
  refine mq_iload_n d78_4 rfl rfl ?_
  refine zq_iconst d78_5 ?_
  refine zg_zast L d78_6 (by decide) rfl (by omega) (by first | decide | omega) ?_
  refine mq_aload_n d78_7 rfl rfl ?_
  refine mq_dup d78_8 rfl ?_
  refine zg_getIe L (A 1 6) d78_9 rfl rfl (by decide) rfl (by simp [u2_at]) ?_
  refine zq_iconst d78_12 ?_
  refine zq_isub d78_13 ?_
  refine zg_putI L d78_14 rfl rfl rfl rfl (by decide) rfl ?_
  refine zg_retv d78_17 (by decide) ?_
  simpa using k0
set_option maxRecDepth 100000 in
set_option maxHeartbeats 2000000 in
theorem s_node (L : Lay K ρ) {x : Int} (rx : -2147483648 ≤ x ∧ x < 2147483648) (rn : 0 ≤ A 1 4 ∧ A 1 4 ≤ 12) (k0 : ¬ (1 ≤ x ∧ x ≤ 9) → post (some (.inl (iZ (-2)))) (123, K, zs (A), ρ)) (k1 : ((1 ≤ x ∧ x ≤ 9) ∧ A 1 4 = 12) → post (some (.inl (iZ (-4)))) (123, K, zs (A), ρ)) (k2 : ((1 ≤ x ∧ x ≤ 9) ∧ A 1 4 < 12) → post (some (.inl (iZ (A 1 4)))) (123, K, zs (mj_u2 (mj_u2 (mj_u2 (mj_u2 (mj_u2 (mj_u2 (A) 0 8 0) 0 9 0) 0 10 0) 0 11 0) 2 ((A 1 4).toNat) (x)) 1 4 (A 1 4 + 1)), ρ)) : mj_lv (d + 3) m_Main_node [.inr (.inl (some 0)), .inl (iZ x)] (123, K, zs A, ρ) post := by
  show mj_W (mj_lv (d + 2)) prog_1_method_2_code 8 1 0 0 post 0 [some (.inr (.inl (some 0))), some (.inl (iZ x))] [] (123, K, zs A, ρ) 0 0
  refine mq_iload_n d1_0 rfl rfl ?_
  refine zg_callS [_] d1_1 rfl rfl ⟨rfl, rfl⟩ rfl ⟨rfl, rfl⟩ ⟨by decide, by decide⟩ ?_
  refine s_isWidth L (by omega)  (fun w1 => ?_) (fun w1 => ?_)
  · refine zq_if_ne (tgt := 10) d1_4 (by decide) (by omega) (fun g1 => ?_) (fun g1 => ?_)
    · refine mq_aload_n d1_10 rfl rfl ?_
      refine zg_getR L 1 d1_11 rfl rfl (by decide) rfl (by decide) rfl ?_
      refine zg_getI L d1_14 rfl rfl (by decide) rfl ?_
      refine zq_bipush d1_17 rfl ?_
      refine zq_icmp_lt (tgt := 25) d1_19 (by decide) (by omega) (by omega) (fun g2 => ?_) (fun g2 => ?_)
      · refine mq_aload_n d1_25 rfl rfl ?_
        refine zg_callV (c := 0) L [] d1_26 rfl rfl ⟨rfl, rfl⟩ rfl ⟨rfl, rfl⟩ ⟨by decide, by decide⟩ (by decide) rfl ?_
        refine s_forgetAll L ?_
        refine mq_aload_n d1_29 rfl rfl ?_
        refine zg_getR L 1 d1_30 rfl rfl (by decide) rfl (by decide) rfl ?_
        refine mq_iload_n d1_33 rfl rfl ?_
        refine zg_callV (c := 1) L [_] d1_34 rfl rfl ⟨rfl, rfl⟩ rfl ⟨rfl, rfl⟩ ⟨by decide, by decide⟩ (by decide) rfl ?_
        refine s_addNode L (by omega) (by simp [u2_at]; omega) ?_
        refine zg_reti d1_37 rfl ?_
        first | (exact k0 (by omega)) | (exact k1 (by omega)) | (exact k2 (by omega)) | (simpa [u2_at] using k0 (by omega)) | (simpa [u2_at] using k1 (by omega)) | (simpa [u2_at] using k2 (by omega))
      · refine zq_bipush d1_22 rfl ?_
        refine zg_reti d1_24 rfl ?_
        first | (exact k0 (by omega)) | (exact k1 (by omega)) | (exact k2 (by omega)) | (simpa [u2_at] using k0 (by omega)) | (simpa [u2_at] using k1 (by omega)) | (simpa [u2_at] using k2 (by omega))
    · refine zq_bipush d1_7 rfl ?_
      refine zg_reti d1_9 rfl ?_
      first | (exact k0 (by omega)) | (exact k1 (by omega)) | (exact k2 (by omega)) | (simpa [u2_at] using k0 (by omega)) | (simpa [u2_at] using k1 (by omega)) | (simpa [u2_at] using k2 (by omega))
  · refine zq_if_ne (tgt := 10) d1_4 (by decide) (by omega) (fun g3 => ?_) (fun g3 => ?_)
    · refine mq_aload_n d1_10 rfl rfl ?_
      refine zg_getR L 1 d1_11 rfl rfl (by decide) rfl (by decide) rfl ?_
      refine zg_getI L d1_14 rfl rfl (by decide) rfl ?_
      refine zq_bipush d1_17 rfl ?_
      refine zq_icmp_lt (tgt := 25) d1_19 (by decide) (by omega) (by omega) (fun g4 => ?_) (fun g4 => ?_)
      · refine mq_aload_n d1_25 rfl rfl ?_
        refine zg_callV (c := 0) L [] d1_26 rfl rfl ⟨rfl, rfl⟩ rfl ⟨rfl, rfl⟩ ⟨by decide, by decide⟩ (by decide) rfl ?_
        refine s_forgetAll L ?_
        refine mq_aload_n d1_29 rfl rfl ?_
        refine zg_getR L 1 d1_30 rfl rfl (by decide) rfl (by decide) rfl ?_
        refine mq_iload_n d1_33 rfl rfl ?_
        refine zg_callV (c := 1) L [_] d1_34 rfl rfl ⟨rfl, rfl⟩ rfl ⟨rfl, rfl⟩ ⟨by decide, by decide⟩ (by decide) rfl ?_
        refine s_addNode L (by omega) (by simp [u2_at]; omega) ?_
        refine zg_reti d1_37 rfl ?_
        first | (exact k0 (by omega)) | (exact k1 (by omega)) | (exact k2 (by omega)) | (simpa [u2_at] using k0 (by omega)) | (simpa [u2_at] using k1 (by omega)) | (simpa [u2_at] using k2 (by omega))
      · refine zq_bipush d1_22 rfl ?_
        refine zg_reti d1_24 rfl ?_
        first | (exact k0 (by omega)) | (exact k1 (by omega)) | (exact k2 (by omega)) | (simpa [u2_at] using k0 (by omega)) | (simpa [u2_at] using k1 (by omega)) | (simpa [u2_at] using k2 (by omega))
    · refine zq_bipush d1_7 rfl ?_
      refine zg_reti d1_9 rfl ?_
      first | (exact k0 (by omega)) | (exact k1 (by omega)) | (exact k2 (by omega)) | (simpa [u2_at] using k0 (by omega)) | (simpa [u2_at] using k1 (by omega)) | (simpa [u2_at] using k2 (by omega))
end sp_mut
end
