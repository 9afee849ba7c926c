section
-- ===== PART A: goes FIRST, ahead of the names: the tables' words, and 'selects' of the private methods out of them =====
/-- a private method of a class that the tables say can be made, by its rows of tables_1 -/
def lw_okq (q : MethodName × Nat) : Prop := (q.1.cls ≠ "java/lang/invoke/MethodHandle" ∧ q.1.cls ≠ "java/lang/invoke/VarHandle") ∧ Cond.instantiable q.1.cls q.2 ∈ tables_1 ∧ Cond.privateMethod q.1 ∈ tables_1 ∧ Cond.instanceMethod q.1 ∈ tables_1
theorem lw_p0 : lw_okq (⟨"LayerDrawing", "forgetAll", "()V"⟩, 12) := ⟨⟨by decide +kernel, by decide +kernel⟩, List.mem_of_getElem? (i := 15) (by decide +kernel), List.mem_of_getElem? (i := 342) (by decide +kernel), List.mem_of_getElem? (i := 343) (by decide +kernel)⟩
theorem lw_p1 : lw_okq (⟨"LayerDrawing", "forgetDrawings", "()V"⟩, 12) := ⟨⟨by decide +kernel, by decide +kernel⟩, List.mem_of_getElem? (i := 15) (by decide +kernel), List.mem_of_getElem? (i := 346) (by decide +kernel), List.mem_of_getElem? (i := 347) (by decide +kernel)⟩
theorem lw_p2 : lw_okq (⟨"LayerDrawing", "settle", "()V"⟩, 12) := ⟨⟨by decide +kernel, by decide +kernel⟩, List.mem_of_getElem? (i := 15) (by decide +kernel), List.mem_of_getElem? (i := 394) (by decide +kernel), List.mem_of_getElem? (i := 395) (by decide +kernel)⟩
theorem lw_p3 : lw_okq (⟨"LayerDrawing$Turning", "setPrices", "(LLayerDrawing$Graph;I)V"⟩, 5) := ⟨⟨by decide +kernel, by decide +kernel⟩, List.mem_of_getElem? (i := 82) (by decide +kernel), List.mem_of_getElem? (i := 405) (by decide +kernel), List.mem_of_getElem? (i := 406) (by decide +kernel)⟩
theorem lw_p4 : lw_okq (⟨"LayerDrawing$Turning", "leastCost", "(I)I"⟩, 5) := ⟨⟨by decide +kernel, by decide +kernel⟩, List.mem_of_getElem? (i := 82) (by decide +kernel), List.mem_of_getElem? (i := 416) (by decide +kernel), List.mem_of_getElem? (i := 417) (by decide +kernel)⟩
theorem lw_p5 : lw_okq (⟨"LayerDrawing$Turning", "costOfFront", "(I)I"⟩, 5) := ⟨⟨by decide +kernel, by decide +kernel⟩, List.mem_of_getElem? (i := 82) (by decide +kernel), List.mem_of_getElem? (i := 420) (by decide +kernel), List.mem_of_getElem? (i := 421) (by decide +kernel)⟩
theorem lw_p6 : lw_okq (⟨"LayerDrawing$Turning", "priceBack", "(II)I"⟩, 5) := ⟨⟨by decide +kernel, by decide +kernel⟩, List.mem_of_getElem? (i := 82) (by decide +kernel), List.mem_of_getElem? (i := 425) (by decide +kernel), List.mem_of_getElem? (i := 426) (by decide +kernel)⟩
theorem lw_p7 : lw_okq (⟨"LayerDrawing$Layering", "raise", "(LLayerDrawing$Graph;)I"⟩, 8) := ⟨⟨by decide +kernel, by decide +kernel⟩, List.mem_of_getElem? (i := 105) (by decide +kernel), List.mem_of_getElem? (i := 441) (by decide +kernel), List.mem_of_getElem? (i := 442) (by decide +kernel)⟩
theorem lw_p8 : lw_okq (⟨"LayerDrawing$Layering", "raiseEnds", "(I)I"⟩, 8) := ⟨⟨by decide +kernel, by decide +kernel⟩, List.mem_of_getElem? (i := 105) (by decide +kernel), List.mem_of_getElem? (i := 445) (by decide +kernel), List.mem_of_getElem? (i := 446) (by decide +kernel)⟩
theorem lw_p9 : lw_okq (⟨"LayerDrawing$Layering", "enlargeFlow", "(II)V"⟩, 8) := ⟨⟨by decide +kernel, by decide +kernel⟩, List.mem_of_getElem? (i := 105) (by decide +kernel), List.mem_of_getElem? (i := 452) (by decide +kernel), List.mem_of_getElem? (i := 453) (by decide +kernel)⟩
theorem lw_p10 : lw_okq (⟨"LayerDrawing$Layering", "raiser", "(I)I"⟩, 8) := ⟨⟨by decide +kernel, by decide +kernel⟩, List.mem_of_getElem? (i := 105) (by decide +kernel), List.mem_of_getElem? (i := 456) (by decide +kernel), List.mem_of_getElem? (i := 457) (by decide +kernel)⟩
theorem lw_p11 : lw_okq (⟨"LayerDrawing$Layering", "addFlow", "(II)V"⟩, 8) := ⟨⟨by decide +kernel, by decide +kernel⟩, List.mem_of_getElem? (i := 105) (by decide +kernel), List.mem_of_getElem? (i := 462) (by decide +kernel), List.mem_of_getElem? (i := 463) (by decide +kernel)⟩
theorem lw_p12 : lw_okq (⟨"LayerDrawing$Layering", "measure", "(LLayerDrawing$Graph;)V"⟩, 8) := ⟨⟨by decide +kernel, by decide +kernel⟩, List.mem_of_getElem? (i := 105) (by decide +kernel), List.mem_of_getElem? (i := 466) (by decide +kernel), List.mem_of_getElem? (i := 467) (by decide +kernel)⟩
theorem lw_p13 : lw_okq (⟨"LayerDrawing$Pieces", "cutArc", "(LLayerDrawing$Layering;I)V"⟩, 6) := ⟨⟨by decide +kernel, by decide +kernel⟩, List.mem_of_getElem? (i := 146) (by decide +kernel), List.mem_of_getElem? (i := 508) (by decide +kernel), List.mem_of_getElem? (i := 509) (by decide +kernel)⟩
theorem lw_p14 : lw_okq (⟨"LayerDrawing$Orders", "standByNumbers", "(LLayerDrawing$Graph;LLayerDrawing$Layering;LLayerDrawing$Pieces;)V"⟩, 9) := ⟨⟨by decide +kernel, by decide +kernel⟩, List.mem_of_getElem? (i := 183) (by decide +kernel), List.mem_of_getElem? (i := 520) (by decide +kernel), List.mem_of_getElem? (i := 521) (by decide +kernel)⟩
theorem lw_p15 : lw_okq (⟨"LayerDrawing$Orders", "append", "(II)V"⟩, 9) := ⟨⟨by decide +kernel, by decide +kernel⟩, List.mem_of_getElem? (i := 183) (by decide +kernel), List.mem_of_getElem? (i := 525) (by decide +kernel), List.mem_of_getElem? (i := 526) (by decide +kernel)⟩
def lw_privs_1 : List (MethodName × Nat) := [(⟨"LayerDrawing", "forgetAll", "()V"⟩, 12), (⟨"LayerDrawing", "forgetDrawings", "()V"⟩, 12), (⟨"LayerDrawing", "settle", "()V"⟩, 12), (⟨"LayerDrawing$Turning", "setPrices", "(LLayerDrawing$Graph;I)V"⟩, 5), (⟨"LayerDrawing$Turning", "leastCost", "(I)I"⟩, 5), (⟨"LayerDrawing$Turning", "costOfFront", "(I)I"⟩, 5), (⟨"LayerDrawing$Turning", "priceBack", "(II)I"⟩, 5), (⟨"LayerDrawing$Layering", "raise", "(LLayerDrawing$Graph;)I"⟩, 8), (⟨"LayerDrawing$Layering", "raiseEnds", "(I)I"⟩, 8), (⟨"LayerDrawing$Layering", "enlargeFlow", "(II)V"⟩, 8), (⟨"LayerDrawing$Layering", "raiser", "(I)I"⟩, 8), (⟨"LayerDrawing$Layering", "addFlow", "(II)V"⟩, 8), (⟨"LayerDrawing$Layering", "measure", "(LLayerDrawing$Graph;)V"⟩, 8), (⟨"LayerDrawing$Pieces", "cutArc", "(LLayerDrawing$Layering;I)V"⟩, 6), (⟨"LayerDrawing$Orders", "standByNumbers", "(LLayerDrawing$Graph;LLayerDrawing$Layering;LLayerDrawing$Pieces;)V"⟩, 9), (⟨"LayerDrawing$Orders", "append", "(II)V"⟩, 9)]
theorem lw_r1 : ∀ q ∈ lw_privs_1, lw_okq q := List.forall_mem_cons.mpr ⟨lw_p0, List.forall_mem_cons.mpr ⟨lw_p1, List.forall_mem_cons.mpr ⟨lw_p2, List.forall_mem_cons.mpr ⟨lw_p3, List.forall_mem_cons.mpr ⟨lw_p4, List.forall_mem_cons.mpr ⟨lw_p5, List.forall_mem_cons.mpr ⟨lw_p6, List.forall_mem_cons.mpr ⟨lw_p7, List.forall_mem_cons.mpr ⟨lw_p8, List.forall_mem_cons.mpr ⟨lw_p9, List.forall_mem_cons.mpr ⟨lw_p10, List.forall_mem_cons.mpr ⟨lw_p11, List.forall_mem_cons.mpr ⟨lw_p12, List.forall_mem_cons.mpr ⟨lw_p13, List.forall_mem_cons.mpr ⟨lw_p14, List.forall_mem_cons.mpr ⟨lw_p15, fun _ h => absurd h List.not_mem_nil⟩⟩⟩⟩⟩⟩⟩⟩⟩⟩⟩⟩⟩⟩⟩⟩
theorem lw_p16 : lw_okq (⟨"LayerDrawing$Orders", "crossings", "(LLayerDrawing$Pieces;)I"⟩, 9) := ⟨⟨by decide +kernel, by decide +kernel⟩, List.mem_of_getElem? (i := 183) (by decide +kernel), List.mem_of_getElem? (i := 531) (by decide +kernel), List.mem_of_getElem? (i := 532) (by decide +kernel)⟩
theorem lw_p17 : lw_okq (⟨"LayerDrawing$Orders", "crossingsIn", "(I[I[I)I"⟩, 9) := ⟨⟨by decide +kernel, by decide +kernel⟩, List.mem_of_getElem? (i := 183) (by decide +kernel), List.mem_of_getElem? (i := 535) (by decide +kernel), List.mem_of_getElem? (i := 536) (by decide +kernel)⟩
theorem lw_p18 : lw_okq (⟨"LayerDrawing$Orders", "copyRows", "([[I[[I)V"⟩, 9) := ⟨⟨by decide +kernel, by decide +kernel⟩, List.mem_of_getElem? (i := 183) (by decide +kernel), List.mem_of_getElem? (i := 539) (by decide +kernel), List.mem_of_getElem? (i := 540) (by decide +kernel)⟩
theorem lw_p19 : lw_okq (⟨"LayerDrawing$Orders", "sweep", "(LLayerDrawing$Pieces;)V"⟩, 9) := ⟨⟨by decide +kernel, by decide +kernel⟩, List.mem_of_getElem? (i := 183) (by decide +kernel), List.mem_of_getElem? (i := 544) (by decide +kernel), List.mem_of_getElem? (i := 545) (by decide +kernel)⟩
theorem lw_p20 : lw_okq (⟨"LayerDrawing$Orders", "findMiddles", "(II[I[I)V"⟩, 9) := ⟨⟨by decide +kernel, by decide +kernel⟩, List.mem_of_getElem? (i := 183) (by decide +kernel), List.mem_of_getElem? (i := 548) (by decide +kernel), List.mem_of_getElem? (i := 549) (by decide +kernel)⟩
theorem lw_p21 : lw_okq (⟨"LayerDrawing$Orders", "sortRow", "(I)V"⟩, 9) := ⟨⟨by decide +kernel, by decide +kernel⟩, List.mem_of_getElem? (i := 183) (by decide +kernel), List.mem_of_getElem? (i := 552) (by decide +kernel), List.mem_of_getElem? (i := 553) (by decide +kernel)⟩
theorem lw_p22 : lw_okq (⟨"LayerDrawing$Orders", "isBefore", "(II)Z"⟩, 9) := ⟨⟨by decide +kernel, by decide +kernel⟩, List.mem_of_getElem? (i := 183) (by decide +kernel), List.mem_of_getElem? (i := 556) (by decide +kernel), List.mem_of_getElem? (i := 557) (by decide +kernel)⟩
theorem lw_p23 : lw_okq (⟨"LayerDrawing$Orders", "numberRow", "(I)V"⟩, 9) := ⟨⟨by decide +kernel, by decide +kernel⟩, List.mem_of_getElem? (i := 183) (by decide +kernel), List.mem_of_getElem? (i := 560) (by decide +kernel), List.mem_of_getElem? (i := 561) (by decide +kernel)⟩
theorem lw_p24 : lw_okq (⟨"LayerDrawing$Places", "lookUp", "(LLayerDrawing$Pieces;I)V"⟩, 4) := ⟨⟨by decide +kernel, by decide +kernel⟩, List.mem_of_getElem? (i := 257) (by decide +kernel), List.mem_of_getElem? (i := 569) (by decide +kernel), List.mem_of_getElem? (i := 570) (by decide +kernel)⟩
theorem lw_p25 : lw_okq (⟨"LayerDrawing$Places", "wanted", "(II)I"⟩, 4) := ⟨⟨by decide +kernel, by decide +kernel⟩, List.mem_of_getElem? (i := 257) (by decide +kernel), List.mem_of_getElem? (i := 573) (by decide +kernel), List.mem_of_getElem? (i := 574) (by decide +kernel)⟩
theorem lw_p26 : lw_okq (⟨"LayerDrawing$Permuting", "goDown", "(LLayerDrawing$Pieces;LLayerDrawing$Orders;I)V"⟩, 7) := ⟨⟨by decide +kernel, by decide +kernel⟩, List.mem_of_getElem? (i := 228) (by decide +kernel), List.mem_of_getElem? (i := 606) (by decide +kernel), List.mem_of_getElem? (i := 607) (by decide +kernel)⟩
theorem lw_p27 : lw_okq (⟨"LayerDrawing$Permuting", "setPrices", "(LLayerDrawing$Pieces;LLayerDrawing$Orders;I)V"⟩, 7) := ⟨⟨by decide +kernel, by decide +kernel⟩, List.mem_of_getElem? (i := 228) (by decide +kernel), List.mem_of_getElem? (i := 617) (by decide +kernel), List.mem_of_getElem? (i := 618) (by decide +kernel)⟩
theorem lw_p28 : lw_okq (⟨"LayerDrawing$Permuting", "price", "(I)I"⟩, 7) := ⟨⟨by decide +kernel, by decide +kernel⟩, List.mem_of_getElem? (i := 228) (by decide +kernel), List.mem_of_getElem? (i := 621) (by decide +kernel), List.mem_of_getElem? (i := 622) (by decide +kernel)⟩
theorem lw_p29 : lw_okq (⟨"LayerDrawing$Permuting", "least", "(I)I"⟩, 7) := ⟨⟨by decide +kernel, by decide +kernel⟩, List.mem_of_getElem? (i := 228) (by decide +kernel), List.mem_of_getElem? (i := 633) (by decide +kernel), List.mem_of_getElem? (i := 634) (by decide +kernel)⟩
theorem lw_p30 : lw_okq (⟨"LayerDrawing$Tree", "depthOf", "(I)I"⟩, 4) := ⟨⟨by decide +kernel, by decide +kernel⟩, List.mem_of_getElem? (i := 278) (by decide +kernel), List.mem_of_getElem? (i := 668) (by decide +kernel), List.mem_of_getElem? (i := 669) (by decide +kernel)⟩
theorem lw_p31 : lw_okq (⟨"LayerDrawing$Tree", "putPart", "(LLayerDrawing$Graph;I)V"⟩, 4) := ⟨⟨by decide +kernel, by decide +kernel⟩, List.mem_of_getElem? (i := 278) (by decide +kernel), List.mem_of_getElem? (i := 672) (by decide +kernel), List.mem_of_getElem? (i := 673) (by decide +kernel)⟩
def lw_privs_2 : List (MethodName × Nat) := [(⟨"LayerDrawing$Orders", "crossings", "(LLayerDrawing$Pieces;)I"⟩, 9), (⟨"LayerDrawing$Orders", "crossingsIn", "(I[I[I)I"⟩, 9), (⟨"LayerDrawing$Orders", "copyRows", "([[I[[I)V"⟩, 9), (⟨"LayerDrawing$Orders", "sweep", "(LLayerDrawing$Pieces;)V"⟩, 9), (⟨"LayerDrawing$Orders", "findMiddles", "(II[I[I)V"⟩, 9), (⟨"LayerDrawing$Orders", "sortRow", "(I)V"⟩, 9), (⟨"LayerDrawing$Orders", "isBefore", "(II)Z"⟩, 9), (⟨"LayerDrawing$Orders", "numberRow", "(I)V"⟩, 9), (⟨"LayerDrawing$Places", "lookUp", "(LLayerDrawing$Pieces;I)V"⟩, 4), (⟨"LayerDrawing$Places", "wanted", "(II)I"⟩, 4), (⟨"LayerDrawing$Permuting", "goDown", "(LLayerDrawing$Pieces;LLayerDrawing$Orders;I)V"⟩, 7), (⟨"LayerDrawing$Permuting", "setPrices", "(LLayerDrawing$Pieces;LLayerDrawing$Orders;I)V"⟩, 7), (⟨"LayerDrawing$Permuting", "price", "(I)I"⟩, 7), (⟨"LayerDrawing$Permuting", "least", "(I)I"⟩, 7), (⟨"LayerDrawing$Tree", "depthOf", "(I)I"⟩, 4), (⟨"LayerDrawing$Tree", "putPart", "(LLayerDrawing$Graph;I)V"⟩, 4)]
theorem lw_r2 : ∀ q ∈ lw_privs_2, lw_okq q := List.forall_mem_cons.mpr ⟨lw_p16, List.forall_mem_cons.mpr ⟨lw_p17, List.forall_mem_cons.mpr ⟨lw_p18, List.forall_mem_cons.mpr ⟨lw_p19, List.forall_mem_cons.mpr ⟨lw_p20, List.forall_mem_cons.mpr ⟨lw_p21, List.forall_mem_cons.mpr ⟨lw_p22, List.forall_mem_cons.mpr ⟨lw_p23, List.forall_mem_cons.mpr ⟨lw_p24, List.forall_mem_cons.mpr ⟨lw_p25, List.forall_mem_cons.mpr ⟨lw_p26, List.forall_mem_cons.mpr ⟨lw_p27, List.forall_mem_cons.mpr ⟨lw_p28, List.forall_mem_cons.mpr ⟨lw_p29, List.forall_mem_cons.mpr ⟨lw_p30, List.forall_mem_cons.mpr ⟨lw_p31, fun _ h => absurd h List.not_mem_nil⟩⟩⟩⟩⟩⟩⟩⟩⟩⟩⟩⟩⟩⟩⟩⟩
theorem lw_p32 : lw_okq (⟨"LayerDrawing$Tree", "shiftBehind", "(LLayerDrawing$Graph;II)I"⟩, 4) := ⟨⟨by decide +kernel, by decide +kernel⟩, List.mem_of_getElem? (i := 278) (by decide +kernel), List.mem_of_getElem? (i := 676) (by decide +kernel), List.mem_of_getElem? (i := 677) (by decide +kernel)⟩
theorem lw_p33 : lw_okq (⟨"LayerDrawing$Tree", "leftmost", "(II)I"⟩, 4) := ⟨⟨by decide +kernel, by decide +kernel⟩, List.mem_of_getElem? (i := 278) (by decide +kernel), List.mem_of_getElem? (i := 680) (by decide +kernel), List.mem_of_getElem? (i := 681) (by decide +kernel)⟩
theorem lw_p34 : lw_okq (⟨"LayerDrawing$Tree", "move", "(II)V"⟩, 4) := ⟨⟨by decide +kernel, by decide +kernel⟩, List.mem_of_getElem? (i := 278) (by decide +kernel), List.mem_of_getElem? (i := 687) (by decide +kernel), List.mem_of_getElem? (i := 688) (by decide +kernel)⟩
theorem lw_p35 : lw_okq (⟨"LayerDrawing$Tree", "twiceMiddle", "(LLayerDrawing$Graph;I)I"⟩, 4) := ⟨⟨by decide +kernel, by decide +kernel⟩, List.mem_of_getElem? (i := 278) (by decide +kernel), List.mem_of_getElem? (i := 691) (by decide +kernel), List.mem_of_getElem? (i := 692) (by decide +kernel)⟩
theorem lw_p36 : lw_okq (⟨"LayerDrawingModel", "changed", "()V"⟩, 37) := ⟨⟨by decide +kernel, by decide +kernel⟩, List.mem_of_getElem? (i := 698) (by decide +kernel), List.mem_of_getElem? (i := 821) (by decide +kernel), List.mem_of_getElem? (i := 822) (by decide +kernel)⟩
theorem lw_p37 : lw_okq (⟨"LayerDrawingModel", "isNode", "(I)Z"⟩, 37) := ⟨⟨by decide +kernel, by decide +kernel⟩, List.mem_of_getElem? (i := 698) (by decide +kernel), List.mem_of_getElem? (i := 829) (by decide +kernel), List.mem_of_getElem? (i := 830) (by decide +kernel)⟩
theorem lw_p38 : lw_okq (⟨"LayerDrawingModel", "isArc", "(I)Z"⟩, 37) := ⟨⟨by decide +kernel, by decide +kernel⟩, List.mem_of_getElem? (i := 698) (by decide +kernel), List.mem_of_getElem? (i := 841) (by decide +kernel), List.mem_of_getElem? (i := 842) (by decide +kernel)⟩
theorem lw_p39 : lw_okq (⟨"LayerDrawingModel", "make", "()V"⟩, 37) := ⟨⟨by decide +kernel, by decide +kernel⟩, List.mem_of_getElem? (i := 698) (by decide +kernel), List.mem_of_getElem? (i := 853) (by decide +kernel), List.mem_of_getElem? (i := 854) (by decide +kernel)⟩
theorem lw_p40 : lw_okq (⟨"LayerDrawingModel", "findTurned", "()V"⟩, 37) := ⟨⟨by decide +kernel, by decide +kernel⟩, List.mem_of_getElem? (i := 698) (by decide +kernel), List.mem_of_getElem? (i := 857) (by decide +kernel), List.mem_of_getElem? (i := 858) (by decide +kernel)⟩
theorem lw_p41 : lw_okq (⟨"LayerDrawingModel", "leastBack", "()I"⟩, 37) := ⟨⟨by decide +kernel, by decide +kernel⟩, List.mem_of_getElem? (i := 698) (by decide +kernel), List.mem_of_getElem? (i := 861) (by decide +kernel), List.mem_of_getElem? (i := 862) (by decide +kernel)⟩
theorem lw_p42 : lw_okq (⟨"LayerDrawingModel", "findLayers", "()V"⟩, 37) := ⟨⟨by decide +kernel, by decide +kernel⟩, List.mem_of_getElem? (i := 698) (by decide +kernel), List.mem_of_getElem? (i := 866) (by decide +kernel), List.mem_of_getElem? (i := 867) (by decide +kernel)⟩
theorem lw_p43 : lw_okq (⟨"LayerDrawingModel", "change", "(II)I"⟩, 37) := ⟨⟨by decide +kernel, by decide +kernel⟩, List.mem_of_getElem? (i := 698) (by decide +kernel), List.mem_of_getElem? (i := 870) (by decide +kernel), List.mem_of_getElem? (i := 871) (by decide +kernel)⟩
theorem lw_p44 : lw_okq (⟨"LayerDrawingModel", "move", "(II)V"⟩, 37) := ⟨⟨by decide +kernel, by decide +kernel⟩, List.mem_of_getElem? (i := 698) (by decide +kernel), List.mem_of_getElem? (i := 874) (by decide +kernel), List.mem_of_getElem? (i := 875) (by decide +kernel)⟩
theorem lw_p45 : lw_okq (⟨"LayerDrawingModel", "isAbove", "(I)Z"⟩, 37) := ⟨⟨by decide +kernel, by decide +kernel⟩, List.mem_of_getElem? (i := 698) (by decide +kernel), List.mem_of_getElem? (i := 878) (by decide +kernel), List.mem_of_getElem? (i := 879) (by decide +kernel)⟩
theorem lw_p46 : lw_okq (⟨"LayerDrawingModel", "layerCount", "()I"⟩, 37) := ⟨⟨by decide +kernel, by decide +kernel⟩, List.mem_of_getElem? (i := 698) (by decide +kernel), List.mem_of_getElem? (i := 894) (by decide +kernel), List.mem_of_getElem? (i := 895) (by decide +kernel)⟩
theorem lw_p47 : lw_okq (⟨"LayerDrawingModel", "lengthOf", "([I)I"⟩, 37) := ⟨⟨by decide +kernel, by decide +kernel⟩, List.mem_of_getElem? (i := 698) (by decide +kernel), List.mem_of_getElem? (i := 902) (by decide +kernel), List.mem_of_getElem? (i := 903) (by decide +kernel)⟩
def lw_privs_3 : List (MethodName × Nat) := [(⟨"LayerDrawing$Tree", "shiftBehind", "(LLayerDrawing$Graph;II)I"⟩, 4), (⟨"LayerDrawing$Tree", "leftmost", "(II)I"⟩, 4), (⟨"LayerDrawing$Tree", "move", "(II)V"⟩, 4), (⟨"LayerDrawing$Tree", "twiceMiddle", "(LLayerDrawing$Graph;I)I"⟩, 4), (⟨"LayerDrawingModel", "changed", "()V"⟩, 37), (⟨"LayerDrawingModel", "isNode", "(I)Z"⟩, 37), (⟨"LayerDrawingModel", "isArc", "(I)Z"⟩, 37), (⟨"LayerDrawingModel", "make", "()V"⟩, 37), (⟨"LayerDrawingModel", "findTurned", "()V"⟩, 37), (⟨"LayerDrawingModel", "leastBack", "()I"⟩, 37), (⟨"LayerDrawingModel", "findLayers", "()V"⟩, 37), (⟨"LayerDrawingModel", "change", "(II)I"⟩, 37), (⟨"LayerDrawingModel", "move", "(II)V"⟩, 37), (⟨"LayerDrawingModel", "isAbove", "(I)Z"⟩, 37), (⟨"LayerDrawingModel", "layerCount", "()I"⟩, 37), (⟨"LayerDrawingModel", "lengthOf", "([I)I"⟩, 37)]
theorem lw_r3 : ∀ q ∈ lw_privs_3, lw_okq q := List.forall_mem_cons.mpr ⟨lw_p32, List.forall_mem_cons.mpr ⟨lw_p33, List.forall_mem_cons.mpr ⟨lw_p34, List.forall_mem_cons.mpr ⟨lw_p35, List.forall_mem_cons.mpr ⟨lw_p36, List.forall_mem_cons.mpr ⟨lw_p37, List.forall_mem_cons.mpr ⟨lw_p38, List.forall_mem_cons.mpr ⟨lw_p39, List.forall_mem_cons.mpr ⟨lw_p40, List.forall_mem_cons.mpr ⟨lw_p41, List.forall_mem_cons.mpr ⟨lw_p42, List.forall_mem_cons.mpr ⟨lw_p43, List.forall_mem_cons.mpr ⟨lw_p44, List.forall_mem_cons.mpr ⟨lw_p45, List.forall_mem_cons.mpr ⟨lw_p46, List.forall_mem_cons.mpr ⟨lw_p47, fun _ h => absurd h List.not_mem_nil⟩⟩⟩⟩⟩⟩⟩⟩⟩⟩⟩⟩⟩⟩⟩⟩
theorem lw_p48 : lw_okq (⟨"LayerDrawingModel", "bendCount", "()I"⟩, 37) := ⟨⟨by decide +kernel, by decide +kernel⟩, List.mem_of_getElem? (i := 698) (by decide +kernel), List.mem_of_getElem? (i := 910) (by decide +kernel), List.mem_of_getElem? (i := 911) (by decide +kernel)⟩
theorem lw_p49 : lw_okq (⟨"LayerDrawingModel", "lay", "()V"⟩, 37) := ⟨⟨by decide +kernel, by decide +kernel⟩, List.mem_of_getElem? (i := 698) (by decide +kernel), List.mem_of_getElem? (i := 918) (by decide +kernel), List.mem_of_getElem? (i := 919) (by decide +kernel)⟩
theorem lw_p50 : lw_okq (⟨"LayerDrawingModel", "crossings", "()I"⟩, 37) := ⟨⟨by decide +kernel, by decide +kernel⟩, List.mem_of_getElem? (i := 698) (by decide +kernel), List.mem_of_getElem? (i := 922) (by decide +kernel), List.mem_of_getElem? (i := 923) (by decide +kernel)⟩
theorem lw_p51 : lw_okq (⟨"LayerDrawingModel", "keep", "(II)V"⟩, 37) := ⟨⟨by decide +kernel, by decide +kernel⟩, List.mem_of_getElem? (i := 698) (by decide +kernel), List.mem_of_getElem? (i := 926) (by decide +kernel), List.mem_of_getElem? (i := 927) (by decide +kernel)⟩
theorem lw_p52 : lw_okq (⟨"LayerDrawingModel", "sort", "(IZ)V"⟩, 37) := ⟨⟨by decide +kernel, by decide +kernel⟩, List.mem_of_getElem? (i := 698) (by decide +kernel), List.mem_of_getElem? (i := 930) (by decide +kernel), List.mem_of_getElem? (i := 931) (by decide +kernel)⟩
theorem lw_p53 : lw_okq (⟨"LayerDrawingModel", "setSpots", "(I)V"⟩, 37) := ⟨⟨by decide +kernel, by decide +kernel⟩, List.mem_of_getElem? (i := 698) (by decide +kernel), List.mem_of_getElem? (i := 934) (by decide +kernel), List.mem_of_getElem? (i := 935) (by decide +kernel)⟩
theorem lw_p54 : lw_okq (⟨"LayerDrawingModel", "findPlaces", "(I)V"⟩, 37) := ⟨⟨by decide +kernel, by decide +kernel⟩, List.mem_of_getElem? (i := 698) (by decide +kernel), List.mem_of_getElem? (i := 938) (by decide +kernel), List.mem_of_getElem? (i := 939) (by decide +kernel)⟩
theorem lw_p55 : lw_okq (⟨"LayerDrawingModel", "widthOf", "(I)I"⟩, 37) := ⟨⟨by decide +kernel, by decide +kernel⟩, List.mem_of_getElem? (i := 698) (by decide +kernel), List.mem_of_getElem? (i := 942) (by decide +kernel), List.mem_of_getElem? (i := 943) (by decide +kernel)⟩
theorem lw_p56 : lw_okq (⟨"LayerDrawingModel", "first", "(I)V"⟩, 37) := ⟨⟨by decide +kernel, by decide +kernel⟩, List.mem_of_getElem? (i := 698) (by decide +kernel), List.mem_of_getElem? (i := 966) (by decide +kernel), List.mem_of_getElem? (i := 967) (by decide +kernel)⟩
theorem lw_p57 : lw_okq (⟨"LayerDrawingModel", "next", "(I)Z"⟩, 37) := ⟨⟨by decide +kernel, by decide +kernel⟩, List.mem_of_getElem? (i := 698) (by decide +kernel), List.mem_of_getElem? (i := 970) (by decide +kernel), List.mem_of_getElem? (i := 971) (by decide +kernel)⟩
theorem lw_p58 : lw_okq (⟨"LayerDrawingModel", "isTree", "()Z"⟩, 37) := ⟨⟨by decide +kernel, by decide +kernel⟩, List.mem_of_getElem? (i := 698) (by decide +kernel), List.mem_of_getElem? (i := 990) (by decide +kernel), List.mem_of_getElem? (i := 991) (by decide +kernel)⟩
theorem lw_p59 : lw_okq (⟨"LayerDrawingModel", "join", "(I)V"⟩, 37) := ⟨⟨by decide +kernel, by decide +kernel⟩, List.mem_of_getElem? (i := 698) (by decide +kernel), List.mem_of_getElem? (i := 994) (by decide +kernel), List.mem_of_getElem? (i := 995) (by decide +kernel)⟩
theorem lw_p60 : lw_okq (⟨"LayerDrawingModel", "room", "(II)I"⟩, 37) := ⟨⟨by decide +kernel, by decide +kernel⟩, List.mem_of_getElem? (i := 698) (by decide +kernel), List.mem_of_getElem? (i := 998) (by decide +kernel), List.mem_of_getElem? (i := 999) (by decide +kernel)⟩
theorem lw_p61 : lw_okq (⟨"LayerDrawingModel", "shift", "(II)V"⟩, 37) := ⟨⟨by decide +kernel, by decide +kernel⟩, List.mem_of_getElem? (i := 698) (by decide +kernel), List.mem_of_getElem? (i := 1002) (by decide +kernel), List.mem_of_getElem? (i := 1003) (by decide +kernel)⟩
def lw_privs_4 : List (MethodName × Nat) := [(⟨"LayerDrawingModel", "bendCount", "()I"⟩, 37), (⟨"LayerDrawingModel", "lay", "()V"⟩, 37), (⟨"LayerDrawingModel", "crossings", "()I"⟩, 37), (⟨"LayerDrawingModel", "keep", "(II)V"⟩, 37), (⟨"LayerDrawingModel", "sort", "(IZ)V"⟩, 37), (⟨"LayerDrawingModel", "setSpots", "(I)V"⟩, 37), (⟨"LayerDrawingModel", "findPlaces", "(I)V"⟩, 37), (⟨"LayerDrawingModel", "widthOf", "(I)I"⟩, 37), (⟨"LayerDrawingModel", "first", "(I)V"⟩, 37), (⟨"LayerDrawingModel", "next", "(I)Z"⟩, 37), (⟨"LayerDrawingModel", "isTree", "()Z"⟩, 37), (⟨"LayerDrawingModel", "join", "(I)V"⟩, 37), (⟨"LayerDrawingModel", "room", "(II)I"⟩, 37), (⟨"LayerDrawingModel", "shift", "(II)V"⟩, 37)]
theorem lw_r4 : ∀ q ∈ lw_privs_4, lw_okq q := List.forall_mem_cons.mpr ⟨lw_p48, List.forall_mem_cons.mpr ⟨lw_p49, List.forall_mem_cons.mpr ⟨lw_p50, List.forall_mem_cons.mpr ⟨lw_p51, List.forall_mem_cons.mpr ⟨lw_p52, List.forall_mem_cons.mpr ⟨lw_p53, List.forall_mem_cons.mpr ⟨lw_p54, List.forall_mem_cons.mpr ⟨lw_p55, List.forall_mem_cons.mpr ⟨lw_p56, List.forall_mem_cons.mpr ⟨lw_p57, List.forall_mem_cons.mpr ⟨lw_p58, List.forall_mem_cons.mpr ⟨lw_p59, List.forall_mem_cons.mpr ⟨lw_p60, List.forall_mem_cons.mpr ⟨lw_p61, fun _ h => absurd h List.not_mem_nil⟩⟩⟩⟩⟩⟩⟩⟩⟩⟩⟩⟩⟩⟩
def lw_privs : List (MethodName × Nat) := lw_privs_1 ++ (lw_privs_2 ++ (lw_privs_3 ++ (lw_privs_4)))
def lw_tbl : List Cond := k2_sels lw_privs ++ tables_1
theorem lw_privs_ok : ∀ q ∈ lw_privs, lw_okq q := by
  show ∀ q ∈ lw_privs_1 ++ (lw_privs_2 ++ (lw_privs_3 ++ (lw_privs_4))), lw_okq q
  exact List.forall_mem_append.mpr ⟨lw_r1, List.forall_mem_append.mpr ⟨lw_r2, List.forall_mem_append.mpr ⟨lw_r3, lw_r4⟩⟩⟩
end
section
def pg_cns : List String := ["LayerDrawing$Graph", "LayerDrawing$Layering", "LayerDrawing$Orders", "LayerDrawing$Permuting", "LayerDrawing$Pieces", "LayerDrawing$Places", "LayerDrawing$Tree", "LayerDrawing$Turning", "LayerDrawing", "LayerDrawingModel", "LayerDrawingLaw", "java/lang/Math", "java/util/Arrays"]
def pg_cn (o : Nat) : String := pg_cns.getD o ""
def TF0 : u_T := fun k => match k with
  | 0 => ("LayerDrawing$Graph", "widths", "[I", true)
  | 1 => ("LayerDrawing$Graph", "from", "[I", true)
  | 2 => ("LayerDrawing$Graph", "to", "[I", true)
  | 3 => ("LayerDrawing$Graph", "there", "[Z", true)
  | 4 => ("LayerDrawing$Graph", "nodes", "I", false)
  | 5 => ("LayerDrawing$Graph", "made", "I", false)
  | _ => ("LayerDrawing$Graph", "kept", "I", false)
def TF1 : u_T := fun k => match k with
  | 0 => ("LayerDrawing$Layering", "upper", "[I", true)
  | 1 => ("LayerDrawing$Layering", "lower", "[I", true)
  | 2 => ("LayerDrawing$Layering", "flow", "[I", true)
  | 3 => ("LayerDrawing$Layering", "layerOf", "[I", true)
  | 4 => ("LayerDrawing$Layering", "raisedBy", "[I", true)
  | 5 => ("LayerDrawing$Layering", "layerCount", "I", false)
  | 6 => ("LayerDrawing$Layering", "totalLength", "I", false)
  | _ => ("LayerDrawing$Layering", "bendCount", "I", false)
def TF2 : u_T := fun k => match k with
  | 0 => ("LayerDrawing$Orders", "sizes", "[I", true)
  | 1 => ("LayerDrawing$Orders", "rows", "[[I", true)
  | 2 => ("LayerDrawing$Orders", "meant", "[[I", true)
  | 3 => ("LayerDrawing$Orders", "at", "[I", true)
  | 4 => ("LayerDrawing$Orders", "sums", "[I", true)
  | 5 => ("LayerDrawing$Orders", "joined", "[I", true)
  | 6 => ("LayerDrawing$Orders", "layerCount", "I", false)
  | 7 => ("LayerDrawing$Orders", "fewestMet", "I", false)
  | _ => ("LayerDrawing$Orders", "roundMet", "I", false)
def TF3 : u_T := fun k => match k with
  | 0 => ("LayerDrawing$Permuting", "best", "[I", true)
  | 1 => ("LayerDrawing$Permuting", "next", "[I", true)
  | 2 => ("LayerDrawing$Permuting", "upperOrder", "[I", true)
  | 3 => ("LayerDrawing$Permuting", "upperAt", "[I", true)
  | 4 => ("LayerDrawing$Permuting", "lowerOrder", "[I", true)
  | 5 => ("LayerDrawing$Permuting", "prices", "[I", true)
  | _ => ("LayerDrawing$Permuting", "answer", "I", false)
def TF4 : u_T := fun k => match k with
  | 0 => ("LayerDrawing$Pieces", "firstBend", "[I", true)
  | 1 => ("LayerDrawing$Pieces", "itemWidths", "[I", true)
  | 2 => ("LayerDrawing$Pieces", "counts", "[I", true)
  | 3 => ("LayerDrawing$Pieces", "tops", "[[I", true)
  | 4 => ("LayerDrawing$Pieces", "feet", "[[I", true)
  | _ => ("LayerDrawing$Pieces", "end", "I", false)
def TF5 : u_T := fun k => match k with
  | 0 => ("LayerDrawing$Places", "leftEnds", "[I", true)
  | 1 => ("LayerDrawing$Places", "sums", "[I", true)
  | 2 => ("LayerDrawing$Places", "joined", "[I", true)
  | _ => ("LayerDrawing$Places", "rightmost", "I", false)
def TF6 : u_T := fun k => match k with
  | 0 => ("LayerDrawing$Tree", "leftEnds", "[I", true)
  | 1 => ("LayerDrawing$Tree", "parents", "[I", true)
  | 2 => ("LayerDrawing$Tree", "depths", "[I", true)
  | _ => ("LayerDrawing$Tree", "parts", "[I", true)
def TF7 : u_T := fun k => match k with
  | 0 => ("LayerDrawing$Turning", "costs", "[I", true)
  | 1 => ("LayerDrawing$Turning", "prices", "[I", true)
  | 2 => ("LayerDrawing$Turning", "followers", "[I", true)
  | 3 => ("LayerDrawing$Turning", "marks", "I", false)
  | _ => ("LayerDrawing$Turning", "size", "I", false)
def TF8 : u_T := fun k => match k with
  | 0 => ("LayerDrawing", "graph", "LLayerDrawing$Graph;", true)
  | 1 => ("LayerDrawing", "turning", "LLayerDrawing$Turning;", true)
  | 2 => ("LayerDrawing", "layering", "LLayerDrawing$Layering;", true)
  | 3 => ("LayerDrawing", "pieces", "LLayerDrawing$Pieces;", true)
  | 4 => ("LayerDrawing", "orders", "LLayerDrawing$Orders;", true)
  | 5 => ("LayerDrawing", "permuting", "LLayerDrawing$Permuting;", true)
  | 6 => ("LayerDrawing", "places", "LLayerDrawing$Places;", true)
  | 7 => ("LayerDrawing", "tree", "LLayerDrawing$Tree;", true)
  | 8 => ("LayerDrawing", "settled", "Z", false)
  | 9 => ("LayerDrawing", "ran", "Z", false)
  | 10 => ("LayerDrawing", "permuted", "Z", false)
  | _ => ("LayerDrawing", "grown", "Z", false)
def TF9 : u_T := fun k => match k with
  | 0 => ("LayerDrawingModel", "nodes", "I", false)
  | 1 => ("LayerDrawingModel", "arcs", "I", false)
  | 2 => ("LayerDrawingModel", "left", "I", false)
  | 3 => ("LayerDrawingModel", "widths", "[I", true)
  | 4 => ("LayerDrawingModel", "froms", "[I", true)
  | 5 => ("LayerDrawingModel", "tos", "[I", true)
  | 6 => ("LayerDrawingModel", "there", "[Z", true)
  | 7 => ("LayerDrawingModel", "isNew", "Z", false)
  | 8 => ("LayerDrawingModel", "hasRun", "Z", false)
  | 9 => ("LayerDrawingModel", "turned", "[Z", true)
  | 10 => ("LayerDrawingModel", "layers", "[I", true)
  | 11 => ("LayerDrawingModel", "uppers", "[I", true)
  | 12 => ("LayerDrawingModel", "lowers", "[I", true)
  | 13 => ("LayerDrawingModel", "costs", "[I", true)
  | 14 => ("LayerDrawingModel", "best", "[I", true)
  | 15 => ("LayerDrawingModel", "back", "[I", true)
  | 16 => ("LayerDrawingModel", "backTo", "[I", true)
  | 17 => ("LayerDrawingModel", "layerOf", "[I", true)
  | 18 => ("LayerDrawingModel", "isItem", "[Z", true)
  | 19 => ("LayerDrawingModel", "firstBend", "[I", true)
  | 20 => ("LayerDrawingModel", "pieceUp", "[I", true)
  | 21 => ("LayerDrawingModel", "pieceDown", "[I", true)
  | 22 => ("LayerDrawingModel", "pieces", "I", false)
  | 23 => ("LayerDrawingModel", "order", "[I", true)
  | 24 => ("LayerDrawingModel", "sizes", "[I", true)
  | 25 => ("LayerDrawingModel", "spot", "[I", true)
  | 26 => ("LayerDrawingModel", "meant", "[I", true)
  | 27 => ("LayerDrawingModel", "meantRound", "I", false)
  | 28 => ("LayerDrawingModel", "meantCrossings", "I", false)
  | 29 => ("LayerDrawingModel", "places", "[I", true)
  | 30 => ("LayerDrawingModel", "sums", "[I", true)
  | 31 => ("LayerDrawingModel", "counts", "[I", true)
  | 32 => ("LayerDrawingModel", "parents", "[I", true)
  | 33 => ("LayerDrawingModel", "depths", "[I", true)
  | 34 => ("LayerDrawingModel", "parts", "[I", true)
  | 35 => ("LayerDrawingModel", "tidies", "[I", true)
  | _ => ("LayerDrawingModel", "rights", "[I", true)
abbrev pg_cl : List vw_C := [("LayerDrawing$Graph", TF0, 7), ("LayerDrawing$Layering", TF1, 8), ("LayerDrawing$Orders", TF2, 9), ("LayerDrawing$Permuting", TF3, 7), ("LayerDrawing$Pieces", TF4, 6), ("LayerDrawing$Places", TF5, 4), ("LayerDrawing$Tree", TF6, 4), ("LayerDrawing$Turning", TF7, 5), ("LayerDrawing", TF8, 12), ("LayerDrawingModel", TF9, 37)]
def pg_nfs : List Nat := [7, 8, 9, 7, 6, 4, 4, 5, 12, 37]
def pg_nf (ci : Nat) : Nat := pg_nfs.getD ci 0
def pg_tys : List (List (FieldType × Bool)) := [[(.array .int, true), (.array .int, true), (.array .int, true), (.array .boolean, true), (.int, false), (.int, false), (.int, false)], [(.array .int, true), (.array .int, true), (.array .int, true), (.array .int, true), (.array .int, true), (.int, false), (.int, false), (.int, false)], [(.array .int, true), (.array (.array .int), true), (.array (.array .int), true), (.array .int, true), (.array .int, true), (.array .int, true), (.int, false), (.int, false), (.int, false)], [(.array .int, true), (.array .int, true), (.array .int, true), (.array .int, true), (.array .int, true), (.array .int, true), (.int, false)], [(.array .int, true), (.array .int, true), (.array .int, true), (.array (.array .int), true), (.array (.array .int), true), (.int, false)], [(.array .int, true), (.array .int, true), (.array .int, true), (.int, false)], [(.array .int, true), (.array .int, true), (.array .int, true), (.array .int, true)], [(.array .int, true), (.array .int, true), (.array .int, true), (.int, false), (.int, false)], [(.object "LayerDrawing$Graph", true), (.object "LayerDrawing$Turning", true), (.object "LayerDrawing$Layering", true), (.object "LayerDrawing$Pieces", true), (.object "LayerDrawing$Orders", true), (.object "LayerDrawing$Permuting", true), (.object "LayerDrawing$Places", true), (.object "LayerDrawing$Tree", true), (.boolean, false), (.boolean, false), (.boolean, false), (.boolean, false)], [(.int, false), (.int, false), (.int, false), (.array .int, true), (.array .int, true), (.array .int, true), (.array .boolean, true), (.boolean, false), (.boolean, false), (.array .boolean, true), (.array .int, true), (.array .int, true), (.array .int, true), (.array .int, true), (.array .int, true), (.array .int, true), (.array .int, true), (.array .int, true), (.array .boolean, true), (.array .int, true), (.array .int, true), (.array .int, true), (.int, false), (.array .int, true), (.array .int, true), (.array .int, true), (.array .int, true), (.int, false), (.int, false), (.array .int, true), (.array .int, true), (.array .int, true), (.array .int, true), (.array .int, true), (.array .int, true), (.array .int, true), (.array .int, true)]]
def pg_ty (ci k : Nat) : FieldType := ((pg_tys.getD ci []).getD k (.int, false)).1
def pg_fin (ci k : Nat) : Bool := ((pg_tys.getD ci []).getD k (.int, false)).2
def pg_isR (t : FieldType) : Bool := match t with | .int => false | .boolean => false | _ => true
def pg_fr (ci k : Nat) : Bool := pg_isR (pg_ty ci k)
def pg_flds : List (List (Nat × Nat × Nat)) := [[(9, 0, 0), (15, 0, 1), (18, 0, 2), (21, 0, 3), (25, 0, 4), (29, 0, 5), (32, 0, 6)], [(9, 1, 0), (15, 1, 1), (18, 1, 2), (21, 1, 3), (24, 1, 4), (27, 1, 5), (31, 1, 6), (34, 1, 7), (37, 0, 5), (48, 0, 2), (51, 0, 1), (64, 0, 4), (75, 0, 3), (104, 0, 6)], [(9, 2, 0), (17, 2, 1), (20, 2, 2), (23, 2, 3), (26, 2, 4), (29, 2, 5), (32, 2, 6), (36, 2, 7), (39, 2, 8), (62, 1, 5), (71, 0, 4), (76, 1, 3), (83, 0, 5), (86, 0, 3), (94, 1, 0), (109, 4, 2), (112, 4, 4), (115, 4, 3)], [(9, 3, 0), (15, 3, 1), (18, 3, 2), (21, 3, 3), (24, 3, 4), (27, 3, 5), (30, 3, 6), (44, 2, 6), (53, 2, 0), (91, 4, 3), (97, 4, 4), (100, 4, 2), (103, 2, 3)], [(9, 4, 0), (15, 4, 1), (18, 4, 2), (23, 4, 3), (26, 4, 4), (29, 4, 5), (33, 1, 0), (42, 1, 1), (51, 0, 0), (56, 0, 4), (65, 0, 5), (68, 0, 3), (76, 1, 3)], [(9, 5, 0), (15, 5, 1), (18, 5, 2), (21, 5, 3), (31, 2, 6), (40, 2, 0), (43, 2, 1), (47, 4, 1), (61, 4, 2), (64, 4, 3), (67, 4, 4)], [(9, 6, 0), (15, 6, 1), (18, 6, 2), (21, 6, 3), (30, 0, 5), (36, 0, 3), (40, 0, 2), (43, 0, 1), (46, 0, 6), (49, 0, 4), (78, 0, 0)], [(9, 7, 0), (15, 7, 1), (18, 7, 2), (21, 7, 3), (25, 7, 4), (44, 0, 4), (49, 0, 5), (52, 0, 1), (55, 0, 2), (58, 0, 3)], [(12, 8, 0), (19, 8, 1), (26, 8, 2), (33, 8, 3), (40, 8, 4), (47, 8, 5), (54, 8, 6), (61, 8, 7), (65, 8, 8), (69, 8, 9), (72, 8, 10), (75, 8, 11), (82, 0, 4), (99, 0, 0), (103, 0, 5), (117, 0, 6), (126, 7, 4), (132, 1, 3), (135, 1, 5), (138, 1, 6), (141, 1, 7), (156, 2, 7), (159, 2, 8), (165, 2, 0), (168, 2, 1), (174, 3, 6), (180, 5, 0), (190, 5, 3), (201, 6, 0)], [(7, 9, 3), (13, 9, 4), (16, 9, 5), (19, 9, 6), (23, 9, 7), (27, 9, 9), (30, 9, 10), (33, 9, 11), (36, 9, 12), (39, 9, 13), (42, 9, 14), (45, 9, 15), (49, 9, 16), (52, 9, 17), (55, 9, 18), (58, 9, 19), (61, 9, 20), (64, 9, 21), (67, 9, 23), (70, 9, 24), (73, 9, 25), (76, 9, 26), (79, 9, 29), (82, 9, 30), (85, 9, 31), (88, 9, 32), (91, 9, 33), (94, 9, 34), (97, 9, 35), (100, 9, 36), (103, 9, 8), (106, 9, 0), (110, 9, 1), (120, 9, 2), (161, 9, 22), (168, 9, 27), (171, 9, 28)], [], [], []]
def pg_fld (o i : Nat) : Option (Nat × Nat) := (pg_flds.getD o []).lookup i
def pg_mths : List (List (Nat × Nat)) := [[], [(42, 132), (54, 141), (60, 83), (67, 85), (71, 88), (79, 84), (89, 86), (98, 87), (101, 81)], [(42, 92), (46, 100), (50, 94), (54, 95), (58, 99), (65, 141), (79, 93), (90, 81), (97, 115), (118, 96), (122, 97), (125, 98), (129, 101)], [(34, 104), (38, 141), (49, 107), (56, 105), (60, 106), (72, 110), (76, 108), (79, 109), (82, 111), (106, 112)], [(38, 81), (45, 141), (72, 117), (79, 115)], [(25, 141), (36, 120), (52, 121)], [(24, 141), (52, 125), (56, 126), (60, 128), (64, 130), (68, 127), (72, 140), (81, 129)], [(28, 134), (32, 135), (36, 136), (40, 137), (62, 141), (68, 138), (74, 139)], [(11, 73), (18, 131), (25, 80), (32, 113), (39, 89), (46, 102), (53, 118), (60, 122), (78, 21), (86, 22), (89, 76), (93, 74), (96, 23), (106, 77), (110, 75), (113, 78), (120, 79), (123, 24), (129, 132), (144, 116), (148, 91), (152, 119), (162, 90), (172, 103), (177, 114), (183, 81), (186, 115), (193, 123), (197, 124), (202, 133), (204, 82)], [(113, 26), (116, 27), (123, 28), (127, 34), (131, 37), (135, 39), (139, 38), (142, 35), (145, 40), (148, 41), (151, 45), (154, 36), (158, 48), (164, 53), (174, 50), (177, 51), (180, 54), (183, 52), (187, 58), (190, 56), (194, 57), (199, 63), (202, 64), (205, 68), (209, 70), (212, 72), (215, 71)], [(9, 0), (12, 25), (13, 1), (17, 29), (18, 2), (22, 30), (23, 3), (26, 31), (27, 4), (30, 32), (31, 5), (35, 33), (36, 6), (39, 42), (40, 7), (43, 43), (44, 8), (47, 44), (48, 9), (51, 46), (52, 10), (55, 47), (56, 11), (59, 49), (60, 12), (63, 55), (64, 13), (67, 59), (68, 14), (71, 60), (72, 15), (75, 61), (76, 16), (79, 62), (80, 17), (83, 65), (84, 18), (87, 66), (88, 19), (91, 67), (92, 20), (95, 69)], [], []]
def pg_mth (o i : Nat) : Option Nat := (pg_mths.getD o []).lookup i
/-- 0 an own method or none, 1 Object.<init>, 2 Math.max, 3 Math.min, 4 System.arraycopy -/
def pg_sps : List (List (Nat × Nat)) := [[(3, 1)], [(3, 1), (83, 2), (95, 3)], [(3, 1), (103, 4)], [(3, 1), (63, 3), (85, 4)], [(3, 1), (59, 4)], [(3, 1), (56, 2)], [(3, 1), (84, 2), (90, 3)], [(3, 1), (78, 3)], [(3, 1)], [(1, 1)], [], [], []]
def pg_sp (o i : Nat) : Option Nat := (pg_sps.getD o []).lookup i
def pg_news : List (List (Nat × Nat)) := [[], [], [], [], [], [], [], [], [(9, 0), (16, 7), (23, 1), (30, 4), (37, 2), (44, 3), (51, 5), (58, 6)], [], [(7, 8), (10, 9)], [], []]
def pg_new (o i : Nat) : Option Nat := (pg_news.getD o []).lookup i
/-- pool entries that name int[][] -/
def pg_grs : List (List (Nat × Nat)) := [[], [], [(15, 1)], [], [(21, 1)], [], [], [], [], [], [], [], []]
def pg_gr (o i : Nat) : Option Nat := (pg_grs.getD o []).lookup i
def pg_ldcs : List (List (Nat × Int32)) := [[], [(94, 2147483647)], [], [(71, 2147483647)], [], [], [(89, 2147483647)], [(43, 16777216), (73, 2147483647)], [], [(48, 49152), (126, 1000000)], [], [], []]
def pg_ldc (o i : Nat) : Option Int32 := (pg_ldcs.getD o []).lookup i
def pg_ldl (o i : Nat) : Option Int64 := if o = 9 ∧ i = 197 then some 5000 else none
def pg_codes : List ByteArray := [prog_1_method_1_code, prog_1_method_2_code, prog_1_method_3_code, prog_1_method_4_code, prog_1_method_5_code, prog_1_method_6_code, prog_1_method_7_code, prog_1_method_8_code, prog_1_method_9_code, prog_1_method_10_code, prog_1_method_11_code, prog_1_method_12_code, prog_1_method_13_code, prog_1_method_14_code, prog_1_method_15_code, prog_1_method_16_code, prog_1_method_17_code, prog_1_method_18_code, prog_1_method_19_code, prog_1_method_20_code, prog_1_method_21_code, prog_1_method_22_code, prog_1_method_23_code, prog_1_method_24_code, prog_1_method_25_code, prog_11_method_1_code, prog_11_method_2_code, prog_11_method_3_code, prog_11_method_4_code, prog_11_method_5_code, prog_11_method_6_code, prog_11_method_7_code, prog_11_method_8_code, prog_11_method_9_code, prog_11_method_10_code, prog_11_method_11_code, prog_11_method_12_code, prog_11_method_13_code, prog_11_method_14_code, prog_11_method_15_code, prog_11_method_16_code, prog_11_method_17_code, prog_11_method_18_code, prog_11_method_19_code, prog_11_method_20_code, prog_11_method_21_code, prog_11_method_22_code, prog_11_method_23_code, prog_11_method_24_code, prog_11_method_25_code, prog_11_method_26_code, prog_11_method_27_code, prog_11_method_28_code, prog_11_method_29_code, prog_11_method_30_code, prog_11_method_31_code, prog_11_method_32_code, prog_11_method_33_code, prog_11_method_34_code, prog_11_method_35_code, prog_11_method_36_code, prog_11_method_37_code, prog_11_method_38_code, prog_11_method_39_code, prog_11_method_40_code, prog_11_method_41_code, prog_11_method_42_code, prog_11_method_43_code, prog_11_method_44_code, prog_11_method_45_code, prog_11_method_46_code, prog_11_method_47_code, prog_11_method_48_code, prog_2_method_1_code, prog_2_method_2_code, prog_2_method_3_code, prog_2_method_4_code, prog_2_method_5_code, prog_2_method_6_code, prog_2_method_7_code, prog_3_method_1_code, prog_3_method_2_code, prog_3_method_3_code, prog_3_method_4_code, prog_3_method_5_code, prog_3_method_6_code, prog_3_method_7_code, prog_3_method_8_code, prog_3_method_9_code, prog_4_method_1_code, prog_4_method_2_code, prog_4_method_3_code, prog_4_method_4_code, prog_4_method_5_code, prog_4_method_6_code, prog_4_method_7_code, prog_4_method_8_code, prog_4_method_9_code, prog_4_method_10_code, prog_4_method_11_code, prog_4_method_12_code, prog_4_method_13_code, prog_5_method_1_code, prog_5_method_2_code, prog_5_method_3_code, prog_5_method_4_code, prog_5_method_5_code, prog_5_method_6_code, prog_5_method_7_code, prog_5_method_8_code, prog_5_method_9_code, prog_5_method_10_code, prog_5_method_11_code, prog_6_method_1_code, prog_6_method_2_code, prog_6_method_3_code, prog_6_method_4_code, prog_6_method_5_code, prog_7_method_1_code, prog_7_method_2_code, prog_7_method_3_code, prog_7_method_4_code, prog_8_method_1_code, prog_8_method_2_code, prog_8_method_3_code, prog_8_method_4_code, prog_8_method_5_code, prog_8_method_6_code, prog_8_method_7_code, prog_8_method_8_code, prog_8_method_9_code, prog_9_method_1_code, prog_9_method_2_code, prog_9_method_3_code, prog_9_method_4_code, prog_9_method_5_code, prog_9_method_6_code, prog_9_method_7_code, prog_9_method_8_code, prog_9_method_9_code, prog_12_method_47_code, prog_14_method_103_code]
def pg_code (y : Nat) : ByteArray := pg_codes.getD y ⟨#[]⟩
def pg_names : List MethodName := [⟨"LayerDrawing", "<init>", "()V"⟩, ⟨"LayerDrawing", "node", "(I)I"⟩, ⟨"LayerDrawing", "width", "(II)I"⟩, ⟨"LayerDrawing", "arc", "(II)I"⟩, ⟨"LayerDrawing", "drop", "(I)I"⟩, ⟨"LayerDrawing", "clear", "()I"⟩, ⟨"LayerDrawing", "turns", "()I"⟩, ⟨"LayerDrawing", "turned", "(I)I"⟩, ⟨"LayerDrawing", "layer", "(I)I"⟩, ⟨"LayerDrawing", "layers", "()I"⟩, ⟨"LayerDrawing", "length", "()I"⟩, ⟨"LayerDrawing", "bends", "()I"⟩, ⟨"LayerDrawing", "run", "(I)I"⟩, ⟨"LayerDrawing", "round", "()I"⟩, ⟨"LayerDrawing", "count", "(I)I"⟩, ⟨"LayerDrawing", "item", "(II)I"⟩, ⟨"LayerDrawing", "fewest", "()I"⟩, ⟨"LayerDrawing", "place", "(I)I"⟩, ⟨"LayerDrawing", "route", "(II)I"⟩, ⟨"LayerDrawing", "wide", "()I"⟩, ⟨"LayerDrawing", "tidy", "(I)I"⟩, ⟨"LayerDrawing", "isWidth", "(I)Z"⟩, ⟨"LayerDrawing", "forgetAll", "()V"⟩, ⟨"LayerDrawing", "forgetDrawings", "()V"⟩, ⟨"LayerDrawing", "settle", "()V"⟩, ⟨"LayerDrawingModel", "<init>", "()V"⟩, ⟨"LayerDrawingModel", "changed", "()V"⟩, ⟨"LayerDrawingModel", "isNode", "(I)Z"⟩, ⟨"LayerDrawingModel", "isArc", "(I)Z"⟩, ⟨"LayerDrawingModel", "node", "(I)I"⟩, ⟨"LayerDrawingModel", "width", "(II)I"⟩, ⟨"LayerDrawingModel", "arc", "(II)I"⟩, ⟨"LayerDrawingModel", "drop", "(I)I"⟩, ⟨"LayerDrawingModel", "clear", "()I"⟩, ⟨"LayerDrawingModel", "leastBack", "()I"⟩, ⟨"LayerDrawingModel", "findTurned", "()V"⟩, ⟨"LayerDrawingModel", "lengthOf", "([I)I"⟩, ⟨"LayerDrawingModel", "change", "(II)I"⟩, ⟨"LayerDrawingModel", "isAbove", "(I)Z"⟩, ⟨"LayerDrawingModel", "move", "(II)V"⟩, ⟨"LayerDrawingModel", "findLayers", "()V"⟩, ⟨"LayerDrawingModel", "make", "()V"⟩, ⟨"LayerDrawingModel", "turns", "()I"⟩, ⟨"LayerDrawingModel", "turned", "(I)I"⟩, ⟨"LayerDrawingModel", "layer", "(I)I"⟩, ⟨"LayerDrawingModel", "layerCount", "()I"⟩, ⟨"LayerDrawingModel", "layers", "()I"⟩, ⟨"LayerDrawingModel", "length", "()I"⟩, ⟨"LayerDrawingModel", "bendCount", "()I"⟩, ⟨"LayerDrawingModel", "bends", "()I"⟩, ⟨"LayerDrawingModel", "lay", "()V"⟩, ⟨"LayerDrawingModel", "crossings", "()I"⟩, ⟨"LayerDrawingModel", "sort", "(IZ)V"⟩, ⟨"LayerDrawingModel", "setSpots", "(I)V"⟩, ⟨"LayerDrawingModel", "keep", "(II)V"⟩, ⟨"LayerDrawingModel", "run", "(I)I"⟩, ⟨"LayerDrawingModel", "widthOf", "(I)I"⟩, ⟨"LayerDrawingModel", "floor", "(II)I"⟩, ⟨"LayerDrawingModel", "findPlaces", "(I)V"⟩, ⟨"LayerDrawingModel", "round", "()I"⟩, ⟨"LayerDrawingModel", "count", "(I)I"⟩, ⟨"LayerDrawingModel", "item", "(II)I"⟩, ⟨"LayerDrawingModel", "fewest", "()I"⟩, ⟨"LayerDrawingModel", "first", "(I)V"⟩, ⟨"LayerDrawingModel", "next", "(I)Z"⟩, ⟨"LayerDrawingModel", "place", "(I)I"⟩, ⟨"LayerDrawingModel", "route", "(II)I"⟩, ⟨"LayerDrawingModel", "wide", "()I"⟩, ⟨"LayerDrawingModel", "isTree", "()Z"⟩, ⟨"LayerDrawingModel", "tidy", "(I)I"⟩, ⟨"LayerDrawingModel", "join", "(I)V"⟩, ⟨"LayerDrawingModel", "shift", "(II)V"⟩, ⟨"LayerDrawingModel", "room", "(II)I"⟩, ⟨"LayerDrawing$Graph", "<init>", "()V"⟩, ⟨"LayerDrawing$Graph", "hasNode", "(I)Z"⟩, ⟨"LayerDrawing$Graph", "hasArc", "(I)Z"⟩, ⟨"LayerDrawing$Graph", "addNode", "(I)I"⟩, ⟨"LayerDrawing$Graph", "addArc", "(II)I"⟩, ⟨"LayerDrawing$Graph", "removeArc", "(I)V"⟩, ⟨"LayerDrawing$Graph", "empty", "()V"⟩, ⟨"LayerDrawing$Layering", "<init>", "()V"⟩, ⟨"LayerDrawing$Layering", "span", "(I)I"⟩, ⟨"LayerDrawing$Layering", "search", "(LLayerDrawing$Graph;LLayerDrawing$Turning;)V"⟩, ⟨"LayerDrawing$Layering", "raise", "(LLayerDrawing$Graph;)I"⟩, ⟨"LayerDrawing$Layering", "raiseEnds", "(I)I"⟩, ⟨"LayerDrawing$Layering", "enlargeFlow", "(II)V"⟩, ⟨"LayerDrawing$Layering", "raiser", "(I)I"⟩, ⟨"LayerDrawing$Layering", "addFlow", "(II)V"⟩, ⟨"LayerDrawing$Layering", "measure", "(LLayerDrawing$Graph;)V"⟩, ⟨"LayerDrawing$Orders", "<init>", "()V"⟩, ⟨"LayerDrawing$Orders", "hasLayer", "(I)Z"⟩, ⟨"LayerDrawing$Orders", "search", "(LLayerDrawing$Graph;LLayerDrawing$Layering;LLayerDrawing$Pieces;I)V"⟩, ⟨"LayerDrawing$Orders", "standByNumbers", "(LLayerDrawing$Graph;LLayerDrawing$Layering;LLayerDrawing$Pieces;)V"⟩, ⟨"LayerDrawing$Orders", "append", "(II)V"⟩, ⟨"LayerDrawing$Orders", "copyRows", "([[I[[I)V"⟩, ⟨"LayerDrawing$Orders", "sweep", "(LLayerDrawing$Pieces;)V"⟩, ⟨"LayerDrawing$Orders", "findMiddles", "(II[I[I)V"⟩, ⟨"LayerDrawing$Orders", "sortRow", "(I)V"⟩, ⟨"LayerDrawing$Orders", "isBefore", "(II)Z"⟩, ⟨"LayerDrawing$Orders", "numberRow", "(I)V"⟩, ⟨"LayerDrawing$Orders", "crossings", "(LLayerDrawing$Pieces;)I"⟩, ⟨"LayerDrawing$Orders", "crossingsIn", "(I[I[I)I"⟩, ⟨"LayerDrawing$Permuting", "<init>", "()V"⟩, ⟨"LayerDrawing$Permuting", "search", "(LLayerDrawing$Pieces;LLayerDrawing$Orders;)V"⟩, ⟨"LayerDrawing$Permuting", "hasTooMany", "(LLayerDrawing$Orders;)Z"⟩, ⟨"LayerDrawing$Permuting", "permutations", "(I)I"⟩, ⟨"LayerDrawing$Permuting", "least", "(I)I"⟩, ⟨"LayerDrawing$Permuting", "goDown", "(LLayerDrawing$Pieces;LLayerDrawing$Orders;I)V"⟩, ⟨"LayerDrawing$Permuting", "setPrices", "(LLayerDrawing$Pieces;LLayerDrawing$Orders;I)V"⟩, ⟨"LayerDrawing$Permuting", "price", "(I)I"⟩, ⟨"LayerDrawing$Permuting", "standFirst", "([I)V"⟩, ⟨"LayerDrawing$Permuting", "standNext", "([II)V"⟩, ⟨"LayerDrawing$Permuting", "exchange", "([III)V"⟩, ⟨"LayerDrawing$Pieces", "<init>", "()V"⟩, ⟨"LayerDrawing$Pieces", "isBend", "(I)Z"⟩, ⟨"LayerDrawing$Pieces", "itemOf", "(LLayerDrawing$Layering;II)I"⟩, ⟨"LayerDrawing$Pieces", "cut", "(LLayerDrawing$Graph;LLayerDrawing$Layering;)V"⟩, ⟨"LayerDrawing$Pieces", "cutArc", "(LLayerDrawing$Layering;I)V"⟩, ⟨"LayerDrawing$Places", "<init>", "()V"⟩, ⟨"LayerDrawing$Places", "assign", "(LLayerDrawing$Pieces;LLayerDrawing$Orders;)V"⟩, ⟨"LayerDrawing$Places", "lookUp", "(LLayerDrawing$Pieces;I)V"⟩, ⟨"LayerDrawing$Places", "wanted", "(II)I"⟩, ⟨"LayerDrawing$Tree", "<init>", "()V"⟩, ⟨"LayerDrawing$Tree", "isTree", "(LLayerDrawing$Graph;)Z"⟩, ⟨"LayerDrawing$Tree", "arrange", "(LLayerDrawing$Graph;)V"⟩, ⟨"LayerDrawing$Tree", "depthOf", "(I)I"⟩, ⟨"LayerDrawing$Tree", "putPart", "(LLayerDrawing$Graph;I)V"⟩, ⟨"LayerDrawing$Tree", "twiceMiddle", "(LLayerDrawing$Graph;I)I"⟩, ⟨"LayerDrawing$Tree", "shiftBehind", "(LLayerDrawing$Graph;II)I"⟩, ⟨"LayerDrawing$Tree", "leftmost", "(II)I"⟩, ⟨"LayerDrawing$Tree", "move", "(II)V"⟩, ⟨"LayerDrawing$Turning", "<init>", "()V"⟩, ⟨"LayerDrawing$Turning", "has", "(I)Z"⟩, ⟨"LayerDrawing$Turning", "search", "(LLayerDrawing$Graph;)V"⟩, ⟨"LayerDrawing$Turning", "mark", "(I)I"⟩, ⟨"LayerDrawing$Turning", "nodesOnWaysRound", "(LLayerDrawing$Graph;)I"⟩, ⟨"LayerDrawing$Turning", "setPrices", "(LLayerDrawing$Graph;I)V"⟩, ⟨"LayerDrawing$Turning", "leastCost", "(I)I"⟩, ⟨"LayerDrawing$Turning", "costOfFront", "(I)I"⟩, ⟨"LayerDrawing$Turning", "priceBack", "(II)I"⟩, ⟨"java/lang/Math", "floorDiv", "(II)I"⟩, ⟨"java/util/Arrays", "fill", "([II)V"⟩]
def pg_name (y : Nat) : MethodName := pg_names.getD y ⟨"", "", ""⟩
def pg_owns : List Nat := [8, 8, 8, 8, 8, 8, 8, 8, 8, 8, 8, 8, 8, 8, 8, 8, 8, 8, 8, 8, 8, 8, 8, 8, 8, 9, 9, 9, 9, 9, 9, 9, 9, 9, 9, 9, 9, 9, 9, 9, 9, 9, 9, 9, 9, 9, 9, 9, 9, 9, 9, 9, 9, 9, 9, 9, 9, 9, 9, 9, 9, 9, 9, 9, 9, 9, 9, 9, 9, 9, 9, 9, 9, 0, 0, 0, 0, 0, 0, 0, 1, 1, 1, 1, 1, 1, 1, 1, 1, 2, 2, 2, 2, 2, 2, 2, 2, 2, 2, 2, 2, 2, 3, 3, 3, 3, 3, 3, 3, 3, 3, 3, 3, 4, 4, 4, 4, 4, 5, 5, 5, 5, 6, 6, 6, 6, 6, 6, 6, 6, 6, 7, 7, 7, 7, 7, 7, 7, 7, 7, 11, 12]
def pg_own (y : Nat) : Nat := pg_owns.getD y 0
def pg_maxLs : List Nat := [1, 2, 4, 3, 2, 2, 1, 2, 2, 1, 1, 1, 2, 1, 2, 3, 1, 2, 3, 1, 2, 1, 1, 1, 1, 1, 1, 2, 2, 2, 4, 3, 2, 2, 6, 3, 4, 6, 3, 4, 3, 1, 3, 2, 2, 3, 1, 1, 3, 1, 6, 5, 7, 3, 4, 5, 2, 3, 9, 1, 2, 3, 8, 5, 8, 2, 3, 5, 4, 4, 7, 4, 7, 1, 2, 2, 2, 3, 2, 1, 1, 2, 5, 5, 4, 7, 3, 3, 3, 1, 2, 7, 8, 3, 4, 4, 7, 6, 3, 3, 4, 9, 1, 4, 4, 3, 4, 10, 8, 5, 2, 6, 4, 1, 2, 4, 4, 7, 1, 8, 6, 3, 1, 4, 4, 4, 7, 3, 8, 5, 4, 1, 2, 4, 1, 8, 6, 3, 4, 6, 3, 4]
def pg_maxL (y : Nat) : Nat := pg_maxLs.getD y 0
def pg_rts : List Nat := [9, 1, 1, 1, 1, 1, 1, 1, 1, 1, 1, 1, 1, 1, 1, 1, 1, 1, 1, 1, 1, 2, 0, 0, 0, 9, 0, 2, 2, 1, 1, 1, 1, 1, 1, 0, 1, 1, 2, 0, 0, 0, 1, 1, 1, 1, 1, 1, 1, 1, 0, 1, 0, 0, 0, 1, 1, 1, 0, 1, 1, 1, 1, 0, 2, 1, 1, 1, 2, 1, 0, 0, 1, 9, 2, 2, 1, 1, 0, 0, 9, 1, 0, 1, 1, 0, 1, 0, 0, 9, 2, 0, 0, 0, 0, 0, 0, 0, 2, 0, 1, 1, 9, 0, 2, 1, 1, 0, 0, 1, 0, 0, 0, 9, 2, 1, 0, 0, 9, 0, 0, 1, 9, 2, 0, 1, 0, 1, 1, 1, 0, 9, 2, 0, 1, 1, 0, 1, 1, 1, 1, 0]
def pg_rt (y : Nat) : Nat := pg_rts.getD y 0
def pg_kds : List Nat := [2, 1, 1, 1, 1, 1, 1, 1, 1, 1, 1, 1, 1, 1, 1, 1, 1, 1, 1, 1, 1, 0, 1, 1, 1, 2, 1, 1, 1, 1, 1, 1, 1, 1, 1, 1, 1, 1, 1, 1, 1, 1, 1, 1, 1, 1, 1, 1, 1, 1, 1, 1, 1, 1, 1, 1, 1, 0, 1, 1, 1, 1, 1, 1, 1, 1, 1, 1, 1, 1, 1, 1, 1, 2, 1, 1, 1, 1, 1, 1, 2, 1, 1, 1, 1, 1, 1, 1, 1, 2, 1, 1, 1, 1, 1, 1, 1, 1, 1, 1, 1, 1, 2, 1, 0, 0, 1, 1, 1, 1, 0, 0, 0, 2, 1, 1, 1, 1, 2, 1, 1, 1, 2, 1, 1, 1, 1, 1, 1, 1, 1, 2, 1, 1, 0, 0, 1, 1, 1, 1, 0, 0]
def pg_kd (y : Nat) : Nat := pg_kds.getD y 0
def pg_nas : List Nat := [1, 2, 3, 3, 2, 1, 1, 2, 2, 1, 1, 1, 2, 1, 2, 3, 1, 2, 3, 1, 2, 1, 1, 1, 1, 1, 1, 2, 2, 2, 3, 3, 2, 1, 1, 1, 2, 3, 2, 3, 1, 1, 1, 2, 2, 1, 1, 1, 1, 1, 1, 1, 3, 2, 3, 2, 2, 2, 2, 1, 2, 3, 1, 2, 2, 2, 3, 1, 1, 2, 2, 3, 3, 1, 2, 2, 2, 3, 2, 1, 1, 2, 3, 2, 2, 3, 2, 3, 2, 1, 2, 5, 4, 3, 3, 2, 5, 2, 3, 2, 2, 4, 1, 3, 1, 1, 2, 4, 4, 2, 1, 2, 3, 1, 2, 4, 3, 3, 1, 3, 3, 3, 1, 2, 2, 2, 3, 3, 4, 3, 3, 1, 2, 2, 1, 1, 3, 2, 2, 3, 2, 2]
def pg_na (y : Nat) : Nat := pg_nas.getD y 0
def pg_frms : List Nat := [2, 2, 1, 2, 2, 2, 5, 5, 5, 5, 5, 5, 5, 0, 1, 1, 4, 1, 2, 0, 5, 0, 1, 0, 4, 1, 0, 0, 0, 1, 1, 1, 1, 1, 0, 1, 0, 0, 0, 0, 1, 2, 3, 3, 3, 0, 3, 3, 0, 3, 0, 0, 1, 0, 0, 3, 0, 0, 1, 0, 1, 1, 2, 1, 1, 0, 1, 1, 0, 3, 1, 0, 0, 1, 0, 0, 0, 0, 0, 0, 1, 0, 2, 1, 0, 1, 0, 0, 1, 1, 0, 3, 2, 0, 1, 2, 0, 1, 0, 0, 1, 0, 1, 3, 0, 0, 1, 2, 1, 0, 0, 1, 0, 1, 0, 1, 3, 2, 1, 1, 0, 0, 1, 1, 4, 0, 3, 0, 2, 1, 0, 1, 1, 3, 0, 0, 1, 2, 1, 0, 0, 0]
def pg_frm (y : Nat) : Nat := pg_frms.getD y 0
def pg_locs : List Nat := [40, 40, 21, 40, 40, 40, 113, 113, 113, 113, 113, 113, 113, 0, 21, 21, 112, 21, 44, 0, 121, 0, 20, 0, 93, 20, 0, 0, 0, 20, 21, 21, 21, 20, 0, 25, 0, 0, 0, 0, 25, 47, 67, 67, 67, 0, 67, 67, 0, 67, 0, 0, 22, 0, 0, 67, 0, 0, 22, 0, 22, 22, 49, 22, 22, 0, 21, 21, 0, 67, 26, 0, 0, 20, 0, 0, 0, 0, 0, 0, 20, 0, 48, 23, 0, 22, 0, 0, 21, 20, 0, 83, 44, 0, 60, 47, 0, 22, 0, 0, 28, 0, 20, 89, 0, 0, 21, 60, 23, 0, 0, 23, 0, 20, 0, 21, 70, 44, 20, 25, 0, 0, 20, 23, 98, 0, 72, 0, 45, 21, 0, 20, 20, 70, 0, 0, 23, 48, 25, 0, 0, 0]
def pg_loc (y : Nat) : Nat := pg_locs.getD y 0
def pg_mcs : List Nat := [92, 0, 0, 0, 0, 0, 0, 0, 0, 0, 0, 0, 0, 0, 0, 0, 0, 0, 0, 0, 0, 0, 0, 0, 0, 29, 0, 0, 0, 0, 0, 0, 0, 0, 0, 0, 0, 0, 0, 0, 0, 0, 0, 0, 0, 0, 0, 0, 0, 0, 0, 0, 0, 0, 0, 0, 0, 0, 0, 0, 0, 0, 0, 0, 0, 0, 0, 0, 0, 0, 0, 0, 0, 4, 0, 0, 0, 0, 0, 0, 5, 0, 0, 0, 0, 0, 0, 0, 0, 30, 0, 0, 0, 0, 0, 0, 0, 0, 0, 0, 0, 0, 6, 0, 0, 0, 0, 0, 0, 0, 0, 0, 0, 29, 0, 0, 0, 0, 3, 0, 0, 0, 4, 0, 0, 0, 0, 0, 0, 0, 0, 3, 0, 0, 0, 0, 0, 0, 0, 0, 0, 0]
def pg_mc (y : Nat) : Nat := pg_mcs.getD y 0
def pg_mss : List Nat := [8064, 0, 0, 0, 0, 0, 0, 0, 0, 0, 0, 0, 0, 0, 0, 0, 0, 0, 0, 0, 0, 0, 0, 0, 0, 56280, 0, 0, 0, 0, 0, 0, 0, 0, 0, 0, 0, 0, 0, 0, 0, 0, 0, 0, 0, 0, 0, 0, 0, 0, 0, 0, 0, 0, 0, 0, 0, 0, 0, 0, 0, 0, 0, 0, 0, 0, 0, 0, 0, 0, 0, 0, 0, 84, 0, 0, 0, 0, 0, 0, 96, 0, 0, 0, 0, 0, 0, 0, 0, 1116, 0, 0, 0, 0, 0, 0, 0, 0, 0, 0, 0, 0, 1494, 0, 0, 0, 0, 0, 0, 0, 0, 0, 0, 708, 0, 0, 0, 0, 216, 0, 0, 0, 48, 0, 0, 0, 0, 0, 0, 0, 0, 4252, 0, 0, 0, 0, 0, 0, 0, 0, 0, 0]
def pg_ms (y : Nat) : Nat := pg_mss.getD y 0
def pg_ret (y : Nat) : Option FieldType := if pg_rt y = 1 then some .int else if pg_rt y = 2 then some .boolean else none
abbrev m_Main_init : Nat := 0
abbrev m_Main_node : Nat := 1
abbrev m_Main_width : Nat := 2
abbrev m_Main_arc : Nat := 3
abbrev m_Main_drop : Nat := 4
abbrev m_Main_clear : Nat := 5
abbrev m_Main_turns : Nat := 6
abbrev m_Main_turned : Nat := 7
abbrev m_Main_layer : Nat := 8
abbrev m_Main_layers : Nat := 9
abbrev m_Main_length : Nat := 10
abbrev m_Main_bends : Nat := 11
abbrev m_Main_run : Nat := 12
abbrev m_Main_round : Nat := 13
abbrev m_Main_count : Nat := 14
abbrev m_Main_item : Nat := 15
abbrev m_Main_fewest : Nat := 16
abbrev m_Main_place : Nat := 17
abbrev m_Main_route : Nat := 18
abbrev m_Main_wide : Nat := 19
abbrev m_Main_tidy : Nat := 20
abbrev m_Main_isWidth : Nat := 21
abbrev m_Main_forgetAll : Nat := 22
abbrev m_Main_forgetDrawings : Nat := 23
abbrev m_Main_settle : Nat := 24
abbrev m_Mod_init : Nat := 25
abbrev m_Mod_changed : Nat := 26
abbrev m_Mod_isNode : Nat := 27
abbrev m_Mod_isArc : Nat := 28
abbrev m_Mod_node : Nat := 29
abbrev m_Mod_width : Nat := 30
abbrev m_Mod_arc : Nat := 31
abbrev m_Mod_drop : Nat := 32
abbrev m_Mod_clear : Nat := 33
abbrev m_Mod_leastBack : Nat := 34
abbrev m_Mod_findTurned : Nat := 35
abbrev m_Mod_lengthOf : Nat := 36
abbrev m_Mod_change : Nat := 37
abbrev m_Mod_isAbove : Nat := 38
abbrev m_Mod_move : Nat := 39
abbrev m_Mod_findLayers : Nat := 40
abbrev m_Mod_make : Nat := 41
abbrev m_Mod_turns : Nat := 42
abbrev m_Mod_turned : Nat := 43
abbrev m_Mod_layer : Nat := 44
abbrev m_Mod_layerCount : Nat := 45
abbrev m_Mod_layers : Nat := 46
abbrev m_Mod_length : Nat := 47
abbrev m_Mod_bendCount : Nat := 48
abbrev m_Mod_bends : Nat := 49
abbrev m_Mod_lay : Nat := 50
abbrev m_Mod_crossings : Nat := 51
abbrev m_Mod_sort : Nat := 52
abbrev m_Mod_setSpots : Nat := 53
abbrev m_Mod_keep : Nat := 54
abbrev m_Mod_run : Nat := 55
abbrev m_Mod_widthOf : Nat := 56
abbrev m_Mod_floor : Nat := 57
abbrev m_Mod_findPlaces : Nat := 58
abbrev m_Mod_round : Nat := 59
abbrev m_Mod_count : Nat := 60
abbrev m_Mod_item : Nat := 61
abbrev m_Mod_fewest : Nat := 62
abbrev m_Mod_first : Nat := 63
abbrev m_Mod_next : Nat := 64
abbrev m_Mod_place : Nat := 65
abbrev m_Mod_route : Nat := 66
abbrev m_Mod_wide : Nat := 67
abbrev m_Mod_isTree : Nat := 68
abbrev m_Mod_tidy : Nat := 69
abbrev m_Mod_join : Nat := 70
abbrev m_Mod_shift : Nat := 71
abbrev m_Mod_room : Nat := 72
abbrev m_Graph_init : Nat := 73
abbrev m_Graph_hasNode : Nat := 74
abbrev m_Graph_hasArc : Nat := 75
abbrev m_Graph_addNode : Nat := 76
abbrev m_Graph_addArc : Nat := 77
abbrev m_Graph_removeArc : Nat := 78
abbrev m_Graph_empty : Nat := 79
abbrev m_Layering_init : Nat := 80
abbrev m_Layering_span : Nat := 81
abbrev m_Layering_search : Nat := 82
abbrev m_Layering_raise : Nat := 83
abbrev m_Layering_raiseEnds : Nat := 84
abbrev m_Layering_enlargeFlow : Nat := 85
abbrev m_Layering_raiser : Nat := 86
abbrev m_Layering_addFlow : Nat := 87
abbrev m_Layering_measure : Nat := 88
abbrev m_Orders_init : Nat := 89
abbrev m_Orders_hasLayer : Nat := 90
abbrev m_Orders_search : Nat := 91
abbrev m_Orders_standByNumbers : Nat := 92
abbrev m_Orders_append : Nat := 93
abbrev m_Orders_copyRows : Nat := 94
abbrev m_Orders_sweep : Nat := 95
abbrev m_Orders_findMiddles : Nat := 96
abbrev m_Orders_sortRow : Nat := 97
abbrev m_Orders_isBefore : Nat := 98
abbrev m_Orders_numberRow : Nat := 99
abbrev m_Orders_crossings : Nat := 100
abbrev m_Orders_crossingsIn : Nat := 101
abbrev m_Permuting_init : Nat := 102
abbrev m_Permuting_search : Nat := 103
abbrev m_Permuting_hasTooMany : Nat := 104
abbrev m_Permuting_permutations : Nat := 105
abbrev m_Permuting_least : Nat := 106
abbrev m_Permuting_goDown : Nat := 107
abbrev m_Permuting_setPrices : Nat := 108
abbrev m_Permuting_price : Nat := 109
abbrev m_Permuting_standFirst : Nat := 110
abbrev m_Permuting_standNext : Nat := 111
abbrev m_Permuting_exchange : Nat := 112
abbrev m_Pieces_init : Nat := 113
abbrev m_Pieces_isBend : Nat := 114
abbrev m_Pieces_itemOf : Nat := 115
abbrev m_Pieces_cut : Nat := 116
abbrev m_Pieces_cutArc : Nat := 117
abbrev m_Places_init : Nat := 118
abbrev m_Places_assign : Nat := 119
abbrev m_Places_lookUp : Nat := 120
abbrev m_Places_wanted : Nat := 121
abbrev m_Tree_init : Nat := 122
abbrev m_Tree_isTree : Nat := 123
abbrev m_Tree_arrange : Nat := 124
abbrev m_Tree_depthOf : Nat := 125
abbrev m_Tree_putPart : Nat := 126
abbrev m_Tree_twiceMiddle : Nat := 127
abbrev m_Tree_shiftBehind : Nat := 128
abbrev m_Tree_leftmost : Nat := 129
abbrev m_Tree_move : Nat := 130
abbrev m_Turning_init : Nat := 131
abbrev m_Turning_has : Nat := 132
abbrev m_Turning_search : Nat := 133
abbrev m_Turning_mark : Nat := 134
abbrev m_Turning_nodesOnWaysRound : Nat := 135
abbrev m_Turning_setPrices : Nat := 136
abbrev m_Turning_leastCost : Nat := 137
abbrev m_Turning_costOfFront : Nat := 138
abbrev m_Turning_priceBack : Nat := 139
abbrev m_Math_floorDiv : Nat := 140
abbrev m_Arrays_fill : Nat := 141
end
section
/-- an int; a reference (none: null); a long -/
abbrev mj_V : Type := Int32 ⊕ Option Nat ⊕ Int64
abbrev mj_L : Type := List (Option mj_V)
/-- how many cells; their kinds ((0, ci) an object of kind ci; (1, n) int[n]; (2, n) boolean[n]; (3, n) int[n][]); their ints; their references -/
abbrev mj_H : Type := Nat × (Nat → Nat × Nat) × (Nat → Nat → Int32) × (Nat → Nat → Option Nat)
abbrev mj_P : Type := Nat → mj_L → List mj_V → mj_H → Nat → Nat → Prop
abbrev mj_G : Type := Nat → List mj_V → mj_H → (Option mj_V → mj_H → Prop) → Prop
def mj_ca : mj_V → Nat
  | .inl _ => 1
  | .inr (.inl _) => 1
  | .inr (.inr _) => 2
def mj_ct : List mj_V → Nat
  | [] => 0
  | v :: st => mj_ca v + mj_ct st
/-- no long stands just before place i -/
def mj_ok (lv : mj_L) : Nat → Bool
  | 0 => true
  | j + 1 => match lv[j]? with
    | some (some (.inr (.inr _))) => false
    | _ => true
def mj_u2 {α : Type} (f : Nat → Nat → α) (c k : Nat) (v : α) : Nat → Nat → α := va_up f c (va_up (f c) k v)
def mr_iconst (b : ByteArray) (o rt mc ms : Nat) (P : mj_P) : Prop := ∀ (pc : Nat) (lv : mj_L) (st : List mj_V) (h : mj_H) (uc : Nat) (us : Nat) (i : Int) (v : Int32), decode b pc = .ok (.iconst i, 1) → Int32.ofInt i = v → P (pc + 1) lv (.inl v :: st) h uc us → P pc lv (st) h uc us
def mr_bipush (b : ByteArray) (o rt mc ms : Nat) (P : mj_P) : Prop := ∀ (pc : Nat) (lv : mj_L) (st : List mj_V) (h : mj_H) (uc : Nat) (us : Nat) (i : Int) (v : Int32), decode b pc = .ok (.bipush i, 2) → (Int8.ofInt i).toInt32 = v → P (pc + 2) lv (.inl v :: st) h uc us → P pc lv (st) h uc us
def mr_sipush (b : ByteArray) (o rt mc ms : Nat) (P : mj_P) : Prop := ∀ (pc : Nat) (lv : mj_L) (st : List mj_V) (h : mj_H) (uc : Nat) (us : Nat) (i : Int) (v : Int32), decode b pc = .ok (.sipush i, 3) → (Int16.ofInt i).toInt32 = v → P (pc + 3) lv (.inl v :: st) h uc us → P pc lv (st) h uc us
def mr_iadd (b : ByteArray) (o rt mc ms : Nat) (P : mj_P) : Prop := ∀ (pc : Nat) (lv : mj_L) (st : List mj_V) (h : mj_H) (uc : Nat) (us : Nat) (x z : Int32), decode b pc = .ok (.iadd, 1) → P (pc + 1) lv (.inl (x + z) :: st) h uc us → P pc lv (.inl z :: .inl x :: st) h uc us
def mr_isub (b : ByteArray) (o rt mc ms : Nat) (P : mj_P) : Prop := ∀ (pc : Nat) (lv : mj_L) (st : List mj_V) (h : mj_H) (uc : Nat) (us : Nat) (x z : Int32), decode b pc = .ok (.isub, 1) → P (pc + 1) lv (.inl (x - z) :: st) h uc us → P pc lv (.inl z :: .inl x :: st) h uc us
def mr_imul (b : ByteArray) (o rt mc ms : Nat) (P : mj_P) : Prop := ∀ (pc : Nat) (lv : mj_L) (st : List mj_V) (h : mj_H) (uc : Nat) (us : Nat) (x z : Int32), decode b pc = .ok (.imul, 1) → P (pc + 1) lv (.inl (x * z) :: st) h uc us → P pc lv (.inl z :: .inl x :: st) h uc us
def mr_iand (b : ByteArray) (o rt mc ms : Nat) (P : mj_P) : Prop := ∀ (pc : Nat) (lv : mj_L) (st : List mj_V) (h : mj_H) (uc : Nat) (us : Nat) (x z : Int32), decode b pc = .ok (.iand, 1) → P (pc + 1) lv (.inl (x &&& z) :: st) h uc us → P pc lv (.inl z :: .inl x :: st) h uc us
def mr_ior (b : ByteArray) (o rt mc ms : Nat) (P : mj_P) : Prop := ∀ (pc : Nat) (lv : mj_L) (st : List mj_V) (h : mj_H) (uc : Nat) (us : Nat) (x z : Int32), decode b pc = .ok (.ior, 1) → P (pc + 1) lv (.inl (x ||| z) :: st) h uc us → P pc lv (.inl z :: .inl x :: st) h uc us
def mr_ixor (b : ByteArray) (o rt mc ms : Nat) (P : mj_P) : Prop := ∀ (pc : Nat) (lv : mj_L) (st : List mj_V) (h : mj_H) (uc : Nat) (us : Nat) (x z : Int32), decode b pc = .ok (.ixor, 1) → P (pc + 1) lv (.inl (x ^^^ z) :: st) h uc us → P pc lv (.inl z :: .inl x :: st) h uc us
def mr_ishl (b : ByteArray) (o rt mc ms : Nat) (P : mj_P) : Prop := ∀ (pc : Nat) (lv : mj_L) (st : List mj_V) (h : mj_H) (uc : Nat) (us : Nat) (x z : Int32), decode b pc = .ok (.ishl, 1) → P (pc + 1) lv (.inl (x <<< (z &&& 31)) :: st) h uc us → P pc lv (.inl z :: .inl x :: st) h uc us
def mr_ishr (b : ByteArray) (o rt mc ms : Nat) (P : mj_P) : Prop := ∀ (pc : Nat) (lv : mj_L) (st : List mj_V) (h : mj_H) (uc : Nat) (us : Nat) (x z : Int32), decode b pc = .ok (.ishr, 1) → P (pc + 1) lv (.inl (x >>> (z &&& 31)) :: st) h uc us → P pc lv (.inl z :: .inl x :: st) h uc us
def mr_iushr (b : ByteArray) (o rt mc ms : Nat) (P : mj_P) : Prop := ∀ (pc : Nat) (lv : mj_L) (st : List mj_V) (h : mj_H) (uc : Nat) (us : Nat) (x z : Int32), decode b pc = .ok (.iushr, 1) → P (pc + 1) lv (.inl ((x.toUInt32 >>> (z.toUInt32 &&& Int32.toUInt32 31)).toInt32) :: st) h uc us → P pc lv (.inl z :: .inl x :: st) h uc us
def mr_idiv (b : ByteArray) (o rt mc ms : Nat) (P : mj_P) : Prop := ∀ (pc : Nat) (lv : mj_L) (st : List mj_V) (h : mj_H) (uc : Nat) (us : Nat) (x z : Int32), decode b pc = .ok (.idiv, 1) → ¬ z = 0 → P (pc + 1) lv (.inl (x / z) :: st) h uc us → P pc lv (.inl z :: .inl x :: st) h uc us
def mr_irem (b : ByteArray) (o rt mc ms : Nat) (P : mj_P) : Prop := ∀ (pc : Nat) (lv : mj_L) (st : List mj_V) (h : mj_H) (uc : Nat) (us : Nat) (x z : Int32), decode b pc = .ok (.irem, 1) → ¬ z = 0 → P (pc + 1) lv (.inl (x - x / z * z) :: st) h uc us → P pc lv (.inl z :: .inl x :: st) h uc us
def mr_ineg (b : ByteArray) (o rt mc ms : Nat) (P : mj_P) : Prop := ∀ (pc : Nat) (lv : mj_L) (st : List mj_V) (h : mj_H) (uc : Nat) (us : Nat) (x : Int32), decode b pc = .ok (.ineg, 1) → P (pc + 1) lv (.inl (-x) :: st) h uc us → P pc lv (.inl x :: st) h uc us
def mr_dup (b : ByteArray) (o rt mc ms : Nat) (P : mj_P) : Prop := ∀ (pc : Nat) (lv : mj_L) (st : List mj_V) (h : mj_H) (uc : Nat) (us : Nat) (v : mj_V), decode b pc = .ok (.dup, 1) → mj_ca v = 1 → P (pc + 1) lv (v :: v :: st) h uc us → P pc lv (v :: st) h uc us
def mr_pop (b : ByteArray) (o rt mc ms : Nat) (P : mj_P) : Prop := ∀ (pc : Nat) (lv : mj_L) (st : List mj_V) (h : mj_H) (uc : Nat) (us : Nat) (v : mj_V), decode b pc = .ok (.pop, 1) → mj_ca v = 1 → P (pc + 1) lv (st) h uc us → P pc lv (v :: st) h uc us
def mr_dup2 (b : ByteArray) (o rt mc ms : Nat) (P : mj_P) : Prop := ∀ (pc : Nat) (lv : mj_L) (st : List mj_V) (h : mj_H) (uc : Nat) (us : Nat) (v w : mj_V), decode b pc = .ok (.dup2, 1) → mj_ca v = 1 → mj_ca w = 1 → P (pc + 1) lv (v :: w :: v :: w :: st) h uc us → P pc lv (v :: w :: st) h uc us
def mr_dup_x1 (b : ByteArray) (o rt mc ms : Nat) (P : mj_P) : Prop := ∀ (pc : Nat) (lv : mj_L) (st : List mj_V) (h : mj_H) (uc : Nat) (us : Nat) (v w : mj_V), decode b pc = .ok (.dup_x1, 1) → mj_ca v = 1 → mj_ca w = 1 → P (pc + 1) lv (v :: w :: v :: st) h uc us → P pc lv (v :: w :: st) h uc us
def mr_lconst (b : ByteArray) (o rt mc ms : Nat) (P : mj_P) : Prop := ∀ (pc : Nat) (lv : mj_L) (st : List mj_V) (h : mj_H) (uc : Nat) (us : Nat) (f : Fin 2) (v : Int64), decode b pc = .ok (.lconst f, 1) → Int64.ofNat (f : Nat) = v → P (pc + 1) lv (.inr (.inr v) :: st) h uc us → P pc lv (st) h uc us
def mr_lmul (b : ByteArray) (o rt mc ms : Nat) (P : mj_P) : Prop := ∀ (pc : Nat) (lv : mj_L) (st : List mj_V) (h : mj_H) (uc : Nat) (us : Nat) (x z : Int64), decode b pc = .ok (.lmul, 1) → P (pc + 1) lv (.inr (.inr (x * z)) :: st) h uc us → P pc lv (.inr (.inr z) :: .inr (.inr x) :: st) h uc us
def mr_lcmp (b : ByteArray) (o rt mc ms : Nat) (P : mj_P) : Prop := ∀ (pc : Nat) (lv : mj_L) (st : List mj_V) (h : mj_H) (uc : Nat) (us : Nat) (x z : Int64), decode b pc = .ok (.lcmp, 1) → P (pc + 1) lv (.inl (lg_cmp x z) :: st) h uc us → P pc lv (.inr (.inr z) :: .inr (.inr x) :: st) h uc us
def mr_i2l (b : ByteArray) (o rt mc ms : Nat) (P : mj_P) : Prop := ∀ (pc : Nat) (lv : mj_L) (st : List mj_V) (h : mj_H) (uc : Nat) (us : Nat) (x : Int32), decode b pc = .ok (.i2l, 1) → P (pc + 1) lv (.inr (.inr x.toInt64) :: st) h uc us → P pc lv (.inl x :: st) h uc us
def mr_icmp_eq (b : ByteArray) (o rt mc ms : Nat) (P : mj_P) : Prop := ∀ (pc : Nat) (lv : mj_L) (st : List mj_V) (h : mj_H) (uc : Nat) (us : Nat) (x z : Int32) (off : Int) (tgt : Nat), decode b pc = .ok (.if_icmp .eq off, 3) → (pc : Int) + off = (tgt : Int) → (x = z → P tgt lv st h uc us) → (¬ x = z → P (pc + 3) lv st h uc us) → P pc lv (.inl z :: .inl x :: st) h uc us
def mr_icmp_ne (b : ByteArray) (o rt mc ms : Nat) (P : mj_P) : Prop := ∀ (pc : Nat) (lv : mj_L) (st : List mj_V) (h : mj_H) (uc : Nat) (us : Nat) (x z : Int32) (off : Int) (tgt : Nat), decode b pc = .ok (.if_icmp .ne off, 3) → (pc : Int) + off = (tgt : Int) → (¬ x = z → P tgt lv st h uc us) → (x = z → P (pc + 3) lv st h uc us) → P pc lv (.inl z :: .inl x :: st) h uc us
def mr_icmp_lt (b : ByteArray) (o rt mc ms : Nat) (P : mj_P) : Prop := ∀ (pc : Nat) (lv : mj_L) (st : List mj_V) (h : mj_H) (uc : Nat) (us : Nat) (x z : Int32) (off : Int) (tgt : Nat), decode b pc = .ok (.if_icmp .lt off, 3) → (pc : Int) + off = (tgt : Int) → (x < z → P tgt lv st h uc us) → (¬ x < z → P (pc + 3) lv st h uc us) → P pc lv (.inl z :: .inl x :: st) h uc us
def mr_icmp_ge (b : ByteArray) (o rt mc ms : Nat) (P : mj_P) : Prop := ∀ (pc : Nat) (lv : mj_L) (st : List mj_V) (h : mj_H) (uc : Nat) (us : Nat) (x z : Int32) (off : Int) (tgt : Nat), decode b pc = .ok (.if_icmp .ge off, 3) → (pc : Int) + off = (tgt : Int) → (z ≤ x → P tgt lv st h uc us) → (¬ z ≤ x → P (pc + 3) lv st h uc us) → P pc lv (.inl z :: .inl x :: st) h uc us
def mr_icmp_gt (b : ByteArray) (o rt mc ms : Nat) (P : mj_P) : Prop := ∀ (pc : Nat) (lv : mj_L) (st : List mj_V) (h : mj_H) (uc : Nat) (us : Nat) (x z : Int32) (off : Int) (tgt : Nat), decode b pc = .ok (.if_icmp .gt off, 3) → (pc : Int) + off = (tgt : Int) → (z < x → P tgt lv st h uc us) → (¬ z < x → P (pc + 3) lv st h uc us) → P pc lv (.inl z :: .inl x :: st) h uc us
def mr_icmp_le (b : ByteArray) (o rt mc ms : Nat) (P : mj_P) : Prop := ∀ (pc : Nat) (lv : mj_L) (st : List mj_V) (h : mj_H) (uc : Nat) (us : Nat) (x z : Int32) (off : Int) (tgt : Nat), decode b pc = .ok (.if_icmp .le off, 3) → (pc : Int) + off = (tgt : Int) → (x ≤ z → P tgt lv st h uc us) → (¬ x ≤ z → P (pc + 3) lv st h uc us) → P pc lv (.inl z :: .inl x :: st) h uc us
def mr_if_eq (b : ByteArray) (o rt mc ms : Nat) (P : mj_P) : Prop := ∀ (pc : Nat) (lv : mj_L) (st : List mj_V) (h : mj_H) (uc : Nat) (us : Nat) (x : Int32) (off : Int) (tgt : Nat), decode b pc = .ok (.ifCond .eq off, 3) → (pc : Int) + off = (tgt : Int) → (x = 0 → P tgt lv st h uc us) → (¬ x = 0 → P (pc + 3) lv st h uc us) → P pc lv (.inl x :: st) h uc us
def mr_if_ne (b : ByteArray) (o rt mc ms : Nat) (P : mj_P) : Prop := ∀ (pc : Nat) (lv : mj_L) (st : List mj_V) (h : mj_H) (uc : Nat) (us : Nat) (x : Int32) (off : Int) (tgt : Nat), decode b pc = .ok (.ifCond .ne off, 3) → (pc : Int) + off = (tgt : Int) → (¬ x = 0 → P tgt lv st h uc us) → (x = 0 → P (pc + 3) lv st h uc us) → P pc lv (.inl x :: st) h uc us
def mr_if_lt (b : ByteArray) (o rt mc ms : Nat) (P : mj_P) : Prop := ∀ (pc : Nat) (lv : mj_L) (st : List mj_V) (h : mj_H) (uc : Nat) (us : Nat) (x : Int32) (off : Int) (tgt : Nat), decode b pc = .ok (.ifCond .lt off, 3) → (pc : Int) + off = (tgt : Int) → (x < 0 → P tgt lv st h uc us) → (¬ x < 0 → P (pc + 3) lv st h uc us) → P pc lv (.inl x :: st) h uc us
def mr_if_ge (b : ByteArray) (o rt mc ms : Nat) (P : mj_P) : Prop := ∀ (pc : Nat) (lv : mj_L) (st : List mj_V) (h : mj_H) (uc : Nat) (us : Nat) (x : Int32) (off : Int) (tgt : Nat), decode b pc = .ok (.ifCond .ge off, 3) → (pc : Int) + off = (tgt : Int) → (0 ≤ x → P tgt lv st h uc us) → (¬ 0 ≤ x → P (pc + 3) lv st h uc us) → P pc lv (.inl x :: st) h uc us
def mr_if_gt (b : ByteArray) (o rt mc ms : Nat) (P : mj_P) : Prop := ∀ (pc : Nat) (lv : mj_L) (st : List mj_V) (h : mj_H) (uc : Nat) (us : Nat) (x : Int32) (off : Int) (tgt : Nat), decode b pc = .ok (.ifCond .gt off, 3) → (pc : Int) + off = (tgt : Int) → (0 < x → P tgt lv st h uc us) → (¬ 0 < x → P (pc + 3) lv st h uc us) → P pc lv (.inl x :: st) h uc us
def mr_if_le (b : ByteArray) (o rt mc ms : Nat) (P : mj_P) : Prop := ∀ (pc : Nat) (lv : mj_L) (st : List mj_V) (h : mj_H) (uc : Nat) (us : Nat) (x : Int32) (off : Int) (tgt : Nat), decode b pc = .ok (.ifCond .le off, 3) → (pc : Int) + off = (tgt : Int) → (x ≤ 0 → P tgt lv st h uc us) → (¬ x ≤ 0 → P (pc + 3) lv st h uc us) → P pc lv (.inl x :: st) h uc us
def mr_goto (b : ByteArray) (o rt mc ms : Nat) (P : mj_P) : Prop := ∀ (pc : Nat) (lv : mj_L) (st : List mj_V) (h : mj_H) (uc : Nat) (us : Nat) (off : Int) (tgt : Nat), decode b pc = .ok (.goto off, 3) → (pc : Int) + off = (tgt : Int) → P tgt lv st h uc us → P pc lv (st) h uc us
def mr_iload (b : ByteArray) (o rt mc ms : Nat) (P : mj_P) : Prop := ∀ (pc : Nat) (lv : mj_L) (st : List mj_V) (h : mj_H) (uc : Nat) (us : Nat) (i : Nat) (x : Int32), decode b pc = .ok (.iload i, 2) → lv[i]? = some (some (.inl x)) → P (pc + 2) lv (.inl x :: st) h uc us → P pc lv (st) h uc us
def mr_iload_n (b : ByteArray) (o rt mc ms : Nat) (P : mj_P) : Prop := ∀ (pc : Nat) (lv : mj_L) (st : List mj_V) (h : mj_H) (uc : Nat) (us : Nat) (f : Fin 4) (i : Nat) (x : Int32), decode b pc = .ok (.iload_n f, 1) → (f : Nat) = i → lv[i]? = some (some (.inl x)) → P (pc + 1) lv (.inl x :: st) h uc us → P pc lv (st) h uc us
def mr_aload (b : ByteArray) (o rt mc ms : Nat) (P : mj_P) : Prop := ∀ (pc : Nat) (lv : mj_L) (st : List mj_V) (h : mj_H) (uc : Nat) (us : Nat) (i : Nat) (x : Nat), decode b pc = .ok (.aload i, 2) → lv[i]? = some (some (.inr (.inl (some x)))) → P (pc + 2) lv (.inr (.inl (some x)) :: st) h uc us → P pc lv (st) h uc us
def mr_aload_n (b : ByteArray) (o rt mc ms : Nat) (P : mj_P) : Prop := ∀ (pc : Nat) (lv : mj_L) (st : List mj_V) (h : mj_H) (uc : Nat) (us : Nat) (f : Fin 4) (i : Nat) (x : Nat), decode b pc = .ok (.aload_n f, 1) → (f : Nat) = i → lv[i]? = some (some (.inr (.inl (some x)))) → P (pc + 1) lv (.inr (.inl (some x)) :: st) h uc us → P pc lv (st) h uc us
def mr_istore (b : ByteArray) (o rt mc ms : Nat) (P : mj_P) : Prop := ∀ (pc : Nat) (lv : mj_L) (st : List mj_V) (h : mj_H) (uc : Nat) (us : Nat) (i : Nat) (x : Int32), decode b pc = .ok (.istore i, 2) → i < lv.length → mj_ok lv i = true → P (pc + 2) (lv.set i (some (.inl x))) st h uc us → P pc lv (.inl x :: st) h uc us
def mr_istore_n (b : ByteArray) (o rt mc ms : Nat) (P : mj_P) : Prop := ∀ (pc : Nat) (lv : mj_L) (st : List mj_V) (h : mj_H) (uc : Nat) (us : Nat) (f : Fin 4) (i : Nat) (x : Int32), decode b pc = .ok (.istore_n f, 1) → (f : Nat) = i → i < lv.length → mj_ok lv i = true → P (pc + 1) (lv.set i (some (.inl x))) st h uc us → P pc lv (.inl x :: st) h uc us
def mr_astore (b : ByteArray) (o rt mc ms : Nat) (P : mj_P) : Prop := ∀ (pc : Nat) (lv : mj_L) (st : List mj_V) (h : mj_H) (uc : Nat) (us : Nat) (i : Nat) (x : Nat), decode b pc = .ok (.astore i, 2) → i < lv.length → mj_ok lv i = true → P (pc + 2) (lv.set i (some (.inr (.inl (some x))))) st h uc us → P pc lv (.inr (.inl (some x)) :: st) h uc us
def mr_astore_n (b : ByteArray) (o rt mc ms : Nat) (P : mj_P) : Prop := ∀ (pc : Nat) (lv : mj_L) (st : List mj_V) (h : mj_H) (uc : Nat) (us : Nat) (f : Fin 4) (i : Nat) (x : Nat), decode b pc = .ok (.astore_n f, 1) → (f : Nat) = i → i < lv.length → mj_ok lv i = true → P (pc + 1) (lv.set i (some (.inr (.inl (some x))))) st h uc us → P pc lv (.inr (.inl (some x)) :: st) h uc us
def mr_iinc (b : ByteArray) (o rt mc ms : Nat) (P : mj_P) : Prop := ∀ (pc : Nat) (lv : mj_L) (st : List mj_V) (h : mj_H) (uc : Nat) (us : Nat) (i : Nat) (k : Int) (x v : Int32), decode b pc = .ok (.iinc i k, 3) → lv[i]? = some (some (.inl x)) → x + Int32.ofInt k = v → mj_ok lv i = true → P (pc + 3) (lv.set i (some (.inl v))) st h uc us → P pc lv (st) h uc us
def mr_lload_n (b : ByteArray) (o rt mc ms : Nat) (P : mj_P) : Prop := ∀ (pc : Nat) (lv : mj_L) (st : List mj_V) (h : mj_H) (uc : Nat) (us : Nat) (f : Fin 4) (i : Nat) (x : Int64), decode b pc = .ok (.lload_n f, 1) → (f : Nat) = i → lv[i]? = some (some (.inr (.inr x))) → P (pc + 1) lv (.inr (.inr x) :: st) h uc us → P pc lv (st) h uc us
def mr_lstore_n (b : ByteArray) (o rt mc ms : Nat) (P : mj_P) : Prop := ∀ (pc : Nat) (lv : mj_L) (st : List mj_V) (h : mj_H) (uc : Nat) (us : Nat) (f : Fin 4) (i : Nat) (x : Int64), decode b pc = .ok (.lstore_n f, 1) → (f : Nat) = i → i + 1 < lv.length → mj_ok lv i = true → P (pc + 1) ((lv.set i (some (.inr (.inr x)))).set (i + 1) none) st h uc us → P pc lv (.inr (.inr x) :: st) h uc us
def mr_ldc2 (b : ByteArray) (o rt mc ms : Nat) (P : mj_P) : Prop := ∀ (pc : Nat) (lv : mj_L) (st : List mj_V) (h : mj_H) (uc : Nat) (us : Nat) (i : Nat) (v : Int64), decode b pc = .ok (.ldc2_w i, 3) → pg_ldl o i = some v → P (pc + 3) lv (.inr (.inr v) :: st) h uc us → P pc lv (st) h uc us
def mr_ldc (b : ByteArray) (o rt mc ms : Nat) (P : mj_P) : Prop := ∀ (pc : Nat) (lv : mj_L) (st : List mj_V) (h : mj_H) (uc : Nat) (us : Nat) (i : Nat) (v : Int32), decode b pc = .ok (.ldc i, 2) → pg_ldc o i = some v → P (pc + 2) lv (.inl v :: st) h uc us → P pc lv (st) h uc us
def mr_getI (b : ByteArray) (o rt mc ms : Nat) (P : mj_P) : Prop := ∀ (pc : Nat) (lv : mj_L) (st : List mj_V) (h : mj_H) (uc : Nat) (us : Nat) (i ci k c : Nat), decode b pc = .ok (.getfield i, 3) → pg_fld o i = some (ci, k) → pg_fr ci k = false → (c < h.1 ∧ h.2.1 c = (0, ci)) → P (pc + 3) lv (.inl (h.2.2.1 c k) :: st) h uc us → P pc lv (.inr (.inl (some c)) :: st) h uc us
def mr_getR (b : ByteArray) (o rt mc ms : Nat) (P : mj_P) : Prop := ∀ (pc : Nat) (lv : mj_L) (st : List mj_V) (h : mj_H) (uc : Nat) (us : Nat) (i ci k c : Nat) (r : Option Nat), decode b pc = .ok (.getfield i, 3) → pg_fld o i = some (ci, k) → pg_fr ci k = true → (c < h.1 ∧ h.2.1 c = (0, ci)) → h.2.2.2 c k = r → P (pc + 3) lv (.inr (.inl r) :: st) h uc us → P pc lv (.inr (.inl (some c)) :: st) h uc us
def mr_putI (b : ByteArray) (o rt mc ms : Nat) (P : mj_P) : Prop := ∀ (pc : Nat) (lv : mj_L) (st : List mj_V) (h : mj_H) (uc : Nat) (us : Nat) (i ci k c : Nat) (x : Int32), decode b pc = .ok (.putfield i, 3) → pg_fld o i = some (ci, k) → pg_fr ci k = false → pg_fin ci k = false → (narrow (pg_ty ci k) (.int x) = .int x ∧ fits (pg_ty ci k) (.int x) = true) → (c < h.1 ∧ h.2.1 c = (0, ci)) → P (pc + 3) lv st (h.1, h.2.1, mj_u2 h.2.2.1 c k x, h.2.2.2) uc us → P pc lv (.inl x :: .inr (.inl (some c)) :: st) h uc us
def mr_putF (b : ByteArray) (o rt mc ms : Nat) (P : mj_P) : Prop := ∀ (pc : Nat) (lv : mj_L) (st : List mj_V) (h : mj_H) (uc : Nat) (us : Nat) (i ci k c x : Nat), rt = 9 → decode b pc = .ok (.putfield i, 3) → pg_fld o i = some (ci, k) → pg_fr ci k = true → pg_fin ci k = true → o = ci → (c < h.1 ∧ h.2.1 c = (0, ci)) → P (pc + 3) lv st (h.1, h.2.1, h.2.2.1, mj_u2 h.2.2.2 c k (some x)) uc us → P pc lv (.inr (.inl (some x)) :: .inr (.inl (some c)) :: st) h uc us
def mr_iald (b : ByteArray) (o rt mc ms : Nat) (P : mj_P) : Prop := ∀ (pc : Nat) (lv : mj_L) (st : List mj_V) (h : mj_H) (uc : Nat) (us : Nat) (c n : Nat) (i : Int32), decode b pc = .ok (.iaload, 1) → (c < h.1 ∧ h.2.1 c = (1, n)) → vp_in i n → P (pc + 1) lv (.inl (h.2.2.1 c i.toNatClampNeg) :: st) h uc us → P pc lv (.inl i :: .inr (.inl (some c)) :: st) h uc us
def mr_zald (b : ByteArray) (o rt mc ms : Nat) (P : mj_P) : Prop := ∀ (pc : Nat) (lv : mj_L) (st : List mj_V) (h : mj_H) (uc : Nat) (us : Nat) (c n : Nat) (i : Int32), decode b pc = .ok (.baload, 1) → (c < h.1 ∧ h.2.1 c = (2, n)) → vp_in i n → P (pc + 1) lv (.inl (h.2.2.1 c i.toNatClampNeg) :: st) h uc us → P pc lv (.inl i :: .inr (.inl (some c)) :: st) h uc us
def mr_iast (b : ByteArray) (o rt mc ms : Nat) (P : mj_P) : Prop := ∀ (pc : Nat) (lv : mj_L) (st : List mj_V) (h : mj_H) (uc : Nat) (us : Nat) (c n : Nat) (i x : Int32), decode b pc = .ok (.iastore, 1) → (c < h.1 ∧ h.2.1 c = (1, n)) → vp_in i n → P (pc + 1) lv st (h.1, h.2.1, mj_u2 h.2.2.1 c i.toNatClampNeg x, h.2.2.2) uc us → P pc lv (.inl x :: .inl i :: .inr (.inl (some c)) :: st) h uc us
def mr_zast (b : ByteArray) (o rt mc ms : Nat) (P : mj_P) : Prop := ∀ (pc : Nat) (lv : mj_L) (st : List mj_V) (h : mj_H) (uc : Nat) (us : Nat) (c n : Nat) (i x : Int32), decode b pc = .ok (.bastore, 1) → (c < h.1 ∧ h.2.1 c = (2, n)) → vp_in i n → narrow .boolean (.int x) = .int x → P (pc + 1) lv st (h.1, h.2.1, mj_u2 h.2.2.1 c i.toNatClampNeg x, h.2.2.2) uc us → P pc lv (.inl x :: .inl i :: .inr (.inl (some c)) :: st) h uc us
def mr_aald (b : ByteArray) (o rt mc ms : Nat) (P : mj_P) : Prop := ∀ (pc : Nat) (lv : mj_L) (st : List mj_V) (h : mj_H) (uc : Nat) (us : Nat) (c n : Nat) (i : Int32) (r : Option Nat), decode b pc = .ok (.aaload, 1) → (c < h.1 ∧ h.2.1 c = (3, n)) → vp_in i n → h.2.2.2 c i.toNatClampNeg = r → P (pc + 1) lv (.inr (.inl r) :: st) h uc us → P pc lv (.inl i :: .inr (.inl (some c)) :: st) h uc us
def mr_alen (b : ByteArray) (o rt mc ms : Nat) (P : mj_P) : Prop := ∀ (pc : Nat) (lv : mj_L) (st : List mj_V) (h : mj_H) (uc : Nat) (us : Nat) (c t n : Nat), decode b pc = .ok (.arraylength, 1) → (c < h.1 ∧ h.2.1 c = (t, n)) → (0 < t ∧ t < 4) → P (pc + 1) lv (.inl (Int32.ofNat n) :: st) h uc us → P pc lv (.inr (.inl (some c)) :: st) h uc us
def mr_new (b : ByteArray) (o rt mc ms : Nat) (P : mj_P) : Prop := ∀ (pc : Nat) (lv : mj_L) (st : List mj_V) (h : mj_H) (uc : Nat) (us : Nat) (i ci : Nat), decode b pc = .ok (.new i, 3) → pg_new o i = some ci → uc + 1 ≤ mc → us + pg_nf ci ≤ ms → P (pc + 3) lv (.inr (.inl (some h.1)) :: st) (h.1 + 1, va_up h.2.1 h.1 (0, ci), va_up h.2.2.1 h.1 (fun _ => 0), va_up h.2.2.2 h.1 (fun _ => none)) (uc + 1) (us + pg_nf ci) → P pc lv (st) h uc us
def mr_newi (b : ByteArray) (o rt mc ms : Nat) (P : mj_P) : Prop := ∀ (pc : Nat) (lv : mj_L) (st : List mj_V) (h : mj_H) (uc : Nat) (us : Nat) (x : Int32) (n : Nat), decode b pc = .ok (.newarray .int, 2) → ¬ x < 0 → x.toNatClampNeg = n → n ≤ 100000 → uc + 1 ≤ mc → us + n ≤ ms → P (pc + 2) lv (.inr (.inl (some h.1)) :: st) (h.1 + 1, va_up h.2.1 h.1 (1, n), va_up h.2.2.1 h.1 (fun _ => 0), va_up h.2.2.2 h.1 (fun _ => none)) (uc + 1) (us + n) → P pc lv (.inl x :: st) h uc us
def mr_newz (b : ByteArray) (o rt mc ms : Nat) (P : mj_P) : Prop := ∀ (pc : Nat) (lv : mj_L) (st : List mj_V) (h : mj_H) (uc : Nat) (us : Nat) (x : Int32) (n : Nat), decode b pc = .ok (.newarray .boolean, 2) → ¬ x < 0 → x.toNatClampNeg = n → n ≤ 100000 → uc + 1 ≤ mc → us + n ≤ ms → P (pc + 2) lv (.inr (.inl (some h.1)) :: st) (h.1 + 1, va_up h.2.1 h.1 (2, n), va_up h.2.2.1 h.1 (fun _ => 0), va_up h.2.2.2 h.1 (fun _ => none)) (uc + 1) (us + n) → P pc lv (.inl x :: st) h uc us
def mr_newm (b : ByteArray) (o rt mc ms : Nat) (P : mj_P) : Prop := ∀ (pc : Nat) (lv : mj_L) (st : List mj_V) (h : mj_H) (uc : Nat) (us : Nat) (i : Nat) (x z : Int32) (n k : Nat), decode b pc = .ok (.multianewarray i 2, 4) → pg_gr o i = some 1 → ¬ x < 0 → ¬ z < 0 → x.toNatClampNeg = n → z.toNatClampNeg = k → n ≤ 100000 → k ≤ 100000 → uc + (1 + n) ≤ mc → us + (n + n * k) ≤ ms → P (pc + 4) lv (.inr (.inl (some h.1)) :: st) (h.1 + 1 + n, (fun c => if c = h.1 then (3, n) else if h.1 < c ∧ c ≤ h.1 + n then (1, k) else h.2.1 c), (fun c => if h.1 ≤ c ∧ c ≤ h.1 + n then (fun _ => 0) else h.2.2.1 c), (fun c => if c = h.1 then (fun j => if j < n then some (h.1 + 1 + j) else none) else h.2.2.2 c)) (uc + 1 + n) (us + n + n * k) → P pc lv (.inl z :: .inl x :: st) h uc us
def mr_objI (b : ByteArray) (o rt mc ms : Nat) (P : mj_P) : Prop := ∀ (pc : Nat) (lv : mj_L) (st : List mj_V) (h : mj_H) (uc : Nat) (us : Nat) (i c : Nat), decode b pc = .ok (.invokespecial i, 3) → pg_sp o i = some 1 → Nat.ble (mj_ct st) 8 = true → P (pc + 3) lv st h uc us → P pc lv (.inr (.inl (some c)) :: st) h uc us
def mr_max (b : ByteArray) (o rt mc ms : Nat) (P : mj_P) : Prop := ∀ (pc : Nat) (lv : mj_L) (st : List mj_V) (h : mj_H) (uc : Nat) (us : Nat) (i : Nat) (x z : Int32), decode b pc = .ok (.invokestatic i, 3) → pg_sp o i = some 2 → Nat.ble (mj_ct st) 8 = true → P (pc + 3) lv (.inl (if x < z then z else x) :: st) h uc us → P pc lv (.inl z :: .inl x :: st) h uc us
def mr_min (b : ByteArray) (o rt mc ms : Nat) (P : mj_P) : Prop := ∀ (pc : Nat) (lv : mj_L) (st : List mj_V) (h : mj_H) (uc : Nat) (us : Nat) (i : Nat) (x z : Int32), decode b pc = .ok (.invokestatic i, 3) → pg_sp o i = some 3 → Nat.ble (mj_ct st) 8 = true → P (pc + 3) lv (.inl (if z < x then z else x) :: st) h uc us → P pc lv (.inl z :: .inl x :: st) h uc us
def mr_copy (b : ByteArray) (o rt mc ms : Nat) (P : mj_P) : Prop := ∀ (pc : Nat) (lv : mj_L) (st : List mj_V) (h : mj_H) (uc : Nat) (us : Nat) (i a0 a1 n0 n1 : Nat) (sp dp n : Int32), decode b pc = .ok (.invokestatic i, 3) → pg_sp o i = some 4 → (a0 < h.1 ∧ h.2.1 a0 = (1, n0)) → (a1 < h.1 ∧ h.2.1 a1 = (1, n1)) → ¬ sp < 0 → ¬ dp < 0 → ¬ n < 0 → sp.toNatClampNeg + n.toNatClampNeg ≤ n0 → dp.toNatClampNeg + n.toNatClampNeg ≤ n1 → Nat.ble (mj_ct st) 8 = true → P (pc + 3) lv st (h.1, h.2.1, va_up h.2.2.1 a1 (va_cpy (h.2.2.1 a0) (h.2.2.1 a1) sp.toNatClampNeg dp.toNatClampNeg n.toNatClampNeg), h.2.2.2) uc us → P pc lv (.inl n :: .inl dp :: .inr (.inl (some a1)) :: .inl sp :: .inr (.inl (some a0)) :: st) h uc us
def mj_rule (k : Nat) (b : ByteArray) (o rt mc ms : Nat) (P : mj_P) : Prop := match k with
  | 0 => mr_iconst b o rt mc ms P
  | 1 => mr_bipush b o rt mc ms P
  | 2 => mr_sipush b o rt mc ms P
  | 3 => mr_iadd b o rt mc ms P
  | 4 => mr_isub b o rt mc ms P
  | 5 => mr_imul b o rt mc ms P
  | 6 => mr_iand b o rt mc ms P
  | 7 => mr_ior b o rt mc ms P
  | 8 => mr_ixor b o rt mc ms P
  | 9 => mr_ishl b o rt mc ms P
  | 10 => mr_ishr b o rt mc ms P
  | 11 => mr_iushr b o rt mc ms P
  | 12 => mr_idiv b o rt mc ms P
  | 13 => mr_irem b o rt mc ms P
  | 14 => mr_ineg b o rt mc ms P
  | 15 => mr_dup b o rt mc ms P
  | 16 => mr_pop b o rt mc ms P
  | 17 => mr_dup2 b o rt mc ms P
  | 18 => mr_dup_x1 b o rt mc ms P
  | 19 => mr_lconst b o rt mc ms P
  | 20 => mr_lmul b o rt mc ms P
  | 21 => mr_lcmp b o rt mc ms P
  | 22 => mr_i2l b o rt mc ms P
  | 23 => mr_icmp_eq b o rt mc ms P
  | 24 => mr_icmp_ne b o rt mc ms P
  | 25 => mr_icmp_lt b o rt mc ms P
  | 26 => mr_icmp_ge b o rt mc ms P
  | 27 => mr_icmp_gt b o rt mc ms P
  | 28 => mr_icmp_le b o rt mc ms P
  | 29 => mr_if_eq b o rt mc ms P
  | 30 => mr_if_ne b o rt mc ms P
  | 31 => mr_if_lt b o rt mc ms P
  | 32 => mr_if_ge b o rt mc ms P
  | 33 => mr_if_gt b o rt mc ms P
  | 34 => mr_if_le b o rt mc ms P
  | 35 => mr_goto b o rt mc ms P
  | 36 => mr_iload b o rt mc ms P
  | 37 => mr_iload_n b o rt mc ms P
  | 38 => mr_aload b o rt mc ms P
  | 39 => mr_aload_n b o rt mc ms P
  | 40 => mr_istore b o rt mc ms P
  | 41 => mr_istore_n b o rt mc ms P
  | 42 => mr_astore b o rt mc ms P
  | 43 => mr_astore_n b o rt mc ms P
  | 44 => mr_iinc b o rt mc ms P
  | 45 => mr_lload_n b o rt mc ms P
  | 46 => mr_lstore_n b o rt mc ms P
  | 47 => mr_ldc2 b o rt mc ms P
  | 48 => mr_ldc b o rt mc ms P
  | 49 => mr_getI b o rt mc ms P
  | 50 => mr_getR b o rt mc ms P
  | 51 => mr_putI b o rt mc ms P
  | 52 => mr_putF b o rt mc ms P
  | 53 => mr_iald b o rt mc ms P
  | 54 => mr_zald b o rt mc ms P
  | 55 => mr_iast b o rt mc ms P
  | 56 => mr_zast b o rt mc ms P
  | 57 => mr_aald b o rt mc ms P
  | 58 => mr_alen b o rt mc ms P
  | 59 => mr_new b o rt mc ms P
  | 60 => mr_newi b o rt mc ms P
  | 61 => mr_newz b o rt mc ms P
  | 62 => mr_newm b o rt mc ms P
  | 63 => mr_objI b o rt mc ms P
  | 64 => mr_max b o rt mc ms P
  | 65 => mr_min b o rt mc ms P
  | 66 => mr_copy b o rt mc ms P
  | _ => True
def mr_reti (b : ByteArray) (rt : Nat) (post : Option mj_V → mj_H → Prop) (P : mj_P) : Prop := ∀ (pc : Nat) (lv : mj_L) (h : mj_H) (uc : Nat) (us : Nat) (x : Int32), decode b pc = .ok (.ireturn, 1) → (rt = 1 ∨ (rt = 2 ∧ narrow .boolean (.int x) = .int x)) → post (some (.inl x)) h → P pc lv ([.inl x]) h uc us
def mr_retv (b : ByteArray) (rt : Nat) (post : Option mj_V → mj_H → Prop) (P : mj_P) : Prop := ∀ (pc : Nat) (lv : mj_L) (h : mj_H) (uc : Nat) (us : Nat) , decode b pc = .ok (.return_, 1) → (rt = 0 ∨ rt = 9) → post none h → P pc lv ([]) h uc us
def mr_callS (call : mj_G) (b : ByteArray) (o mc ms : Nat) (P : mj_P) : Prop := ∀ (pc : Nat) (lv : mj_L) (st : List mj_V) (h : mj_H) (uc : Nat) (us : Nat) (i z : Nat) (as : List mj_V), decode b pc = .ok (.invokestatic i, 3) → pg_mth o i = some z → pg_kd z = 0 → as.length = pg_na z → Nat.ble (mj_ct st) 8 = true → uc + pg_mc z ≤ mc → us + pg_ms z ≤ ms → call z as h (fun r h2 => P (pc + 3) lv (r.toList ++ st) h2 (uc + pg_mc z) (us + pg_ms z)) → P pc lv (as.reverse ++ st) h uc us
def mr_callV (call : mj_G) (b : ByteArray) (o mc ms : Nat) (P : mj_P) : Prop := ∀ (pc : Nat) (lv : mj_L) (st : List mj_V) (h : mj_H) (uc : Nat) (us : Nat) (i z : Nat) (as : List mj_V), decode b pc = .ok (.invokevirtual i, 3) → pg_mth o i = some z → pg_kd z = 1 → as.length = pg_na z → Nat.ble (mj_ct st) 8 = true → uc + pg_mc z ≤ mc → us + pg_ms z ≤ ms → (∃ c, as.head? = some (.inr (.inl (some c))) ∧ c < h.1 ∧ h.2.1 c = (0, pg_own z)) → call z as h (fun r h2 => P (pc + 3) lv (r.toList ++ st) h2 (uc + pg_mc z) (us + pg_ms z)) → P pc lv (as.reverse ++ st) h uc us
def mr_callI (call : mj_G) (b : ByteArray) (o mc ms : Nat) (P : mj_P) : Prop := ∀ (pc : Nat) (lv : mj_L) (st : List mj_V) (h : mj_H) (uc : Nat) (us : Nat) (i z : Nat) (as : List mj_V), decode b pc = .ok (.invokespecial i, 3) → pg_mth o i = some z → pg_kd z = 2 → as.length = pg_na z → Nat.ble (mj_ct st) 8 = true → uc + pg_mc z ≤ mc → us + pg_ms z ≤ ms → (∃ c, as.head? = some (.inr (.inl (some c)))) → call z as h (fun r h2 => P (pc + 3) lv (r.toList ++ st) h2 (uc + pg_mc z) (us + pg_ms z)) → P pc lv (as.reverse ++ st) h uc us
def mj_C (call : mj_G) (b : ByteArray) (o rt mc ms : Nat) (post : Option mj_V → mj_H → Prop) (P : mj_P) : Prop := (∀ k, mj_rule k b o rt mc ms P) ∧ (mr_callS call b o mc ms P ∧ mr_callV call b o mc ms P ∧ mr_callI call b o mc ms P) ∧ mr_reti b rt post P ∧ mr_retv b rt post P
/-- the small machine comes to a return with post: the least predicate that its rules allow -/
def mj_W (call : mj_G) (b : ByteArray) (o rt mc ms : Nat) (post : Option mj_V → mj_H → Prop) : mj_P := fun pc lv st h uc us => ∀ P : mj_P, mj_C call b o rt mc ms post P → P pc lv st h uc us
theorem mj_W.mono {call : mj_G} {b : ByteArray} {o rt mc ms : Nat} {post post2 : Option mj_V → mj_H → Prop} {pc : Nat} {lv : mj_L} {st : List mj_V} {h : mj_H} {uc us : Nat} (hp : ∀ r h, post r h → post2 r h) (hw : mj_W call b o rt mc ms post pc lv st h uc us) : mj_W call b o rt mc ms post2 pc lv st h uc us :=
  fun P hc => hw P ⟨hc.1, hc.2.1, fun pc lv h uc us x d1 d2 d3 => hc.2.2.1 pc lv h uc us x d1 d2 (hp _ _ d3), fun pc lv h uc us d1 d2 d3 => hc.2.2.2 pc lv h uc us d1 d2 (hp _ _ d3)⟩
def mj_entry (n : Nat) (as : List mj_V) : mj_L := as.map some ++ List.replicate (n - as.length) none
def mj_lv : Nat → mj_G
  | 0 => fun _ _ _ _ => False
  | d + 1 => fun y as h post => mj_W (mj_lv d) (pg_code y) (pg_own y) (pg_rt y) (pg_mc y) (pg_ms y) post 0 (mj_entry (pg_maxL y) as) [] h 0 0
theorem mj_lv_mono : ∀ (d y : Nat) (as : List mj_V) (h : mj_H) (post post2 : Option mj_V → mj_H → Prop), (∀ r h, post r h → post2 r h) → mj_lv d y as h post → mj_lv d y as h post2
  | 0, _, _, _, _, _, _, hw => hw
  | _ + 1, _, _, _, _, _, hp, hw => mj_W.mono hp hw
section mj_rows
variable {d : Nat} {b : ByteArray} {o rt mc ms : Nat} {post : Option mj_V → mj_H → Prop} {pc : Nat} {lv : mj_L} {st : List mj_V} {h : mj_H} {uc us : Nat}
theorem mj_iconst {i : Int} {v : Int32} (e0 : decode b pc = .ok (.iconst i, 1)) (e1 : Int32.ofInt i = v) (k0 : mj_W (mj_lv d) b o rt mc ms post (pc + 1) lv (.inl v :: st) h uc us) : mj_W (mj_lv d) b o rt mc ms post pc lv (st) h uc us :=
  fun P hc => (show mr_iconst b o rt mc ms P from hc.1 0) pc lv st h uc us i v e0 e1 (k0 P hc)
theorem mj_bipush {i : Int} {v : Int32} (e0 : decode b pc = .ok (.bipush i, 2)) (e1 : (Int8.ofInt i).toInt32 = v) (k0 : mj_W (mj_lv d) b o rt mc ms post (pc + 2) lv (.inl v :: st) h uc us) : mj_W (mj_lv d) b o rt mc ms post pc lv (st) h uc us :=
  fun P hc => (show mr_bipush b o rt mc ms P from hc.1 1) pc lv st h uc us i v e0 e1 (k0 P hc)
theorem mj_sipush {i : Int} {v : Int32} (e0 : decode b pc = .ok (.sipush i, 3)) (e1 : (Int16.ofInt i).toInt32 = v) (k0 : mj_W (mj_lv d) b o rt mc ms post (pc + 3) lv (.inl v :: st) h uc us) : mj_W (mj_lv d) b o rt mc ms post pc lv (st) h uc us :=
  fun P hc => (show mr_sipush b o rt mc ms P from hc.1 2) pc lv st h uc us i v e0 e1 (k0 P hc)
theorem mj_iadd {x z : Int32} (e0 : decode b pc = .ok (.iadd, 1)) (k0 : mj_W (mj_lv d) b o rt mc ms post (pc + 1) lv (.inl (x + z) :: st) h uc us) : mj_W (mj_lv d) b o rt mc ms post pc lv (.inl z :: .inl x :: st) h uc us :=
  fun P hc => (show mr_iadd b o rt mc ms P from hc.1 3) pc lv st h uc us x z e0 (k0 P hc)
theorem mj_isub {x z : Int32} (e0 : decode b pc = .ok (.isub, 1)) (k0 : mj_W (mj_lv d) b o rt mc ms post (pc + 1) lv (.inl (x - z) :: st) h uc us) : mj_W (mj_lv d) b o rt mc ms post pc lv (.inl z :: .inl x :: st) h uc us :=
  fun P hc => (show mr_isub b o rt mc ms P from hc.1 4) pc lv st h uc us x z e0 (k0 P hc)
theorem mj_imul {x z : Int32} (e0 : decode b pc = .ok (.imul, 1)) (k0 : mj_W (mj_lv d) b o rt mc ms post (pc + 1) lv (.inl (x * z) :: st) h uc us) : mj_W (mj_lv d) b o rt mc ms post pc lv (.inl z :: .inl x :: st) h uc us :=
  fun P hc => (show mr_imul b o rt mc ms P from hc.1 5) pc lv st h uc us x z e0 (k0 P hc)
theorem mj_iand {x z : Int32} (e0 : decode b pc = .ok (.iand, 1)) (k0 : mj_W (mj_lv d) b o rt mc ms post (pc + 1) lv (.inl (x &&& z) :: st) h uc us) : mj_W (mj_lv d) b o rt mc ms post pc lv (.inl z :: .inl x :: st) h uc us :=
  fun P hc => (show mr_iand b o rt mc ms P from hc.1 6) pc lv st h uc us x z e0 (k0 P hc)
theorem mj_ior {x z : Int32} (e0 : decode b pc = .ok (.ior, 1)) (k0 : mj_W (mj_lv d) b o rt mc ms post (pc + 1) lv (.inl (x ||| z) :: st) h uc us) : mj_W (mj_lv d) b o rt mc ms post pc lv (.inl z :: .inl x :: st) h uc us :=
  fun P hc => (show mr_ior b o rt mc ms P from hc.1 7) pc lv st h uc us x z e0 (k0 P hc)
theorem mj_ixor {x z : Int32} (e0 : decode b pc = .ok (.ixor, 1)) (k0 : mj_W (mj_lv d) b o rt mc ms post (pc + 1) lv (.inl (x ^^^ z) :: st) h uc us) : mj_W (mj_lv d) b o rt mc ms post pc lv (.inl z :: .inl x :: st) h uc us :=
  fun P hc => (show mr_ixor b o rt mc ms P from hc.1 8) pc lv st h uc us x z e0 (k0 P hc)
theorem mj_ishl {x z : Int32} (e0 : decode b pc = .ok (.ishl, 1)) (k0 : mj_W (mj_lv d) b o rt mc ms post (pc + 1) lv (.inl (x <<< (z &&& 31)) :: st) h uc us) : mj_W (mj_lv d) b o rt mc ms post pc lv (.inl z :: .inl x :: st) h uc us :=
  fun P hc => (show mr_ishl b o rt mc ms P from hc.1 9) pc lv st h uc us x z e0 (k0 P hc)
theorem mj_ishr {x z : Int32} (e0 : decode b pc = .ok (.ishr, 1)) (k0 : mj_W (mj_lv d) b o rt mc ms post (pc + 1) lv (.inl (x >>> (z &&& 31)) :: st) h uc us) : mj_W (mj_lv d) b o rt mc ms post pc lv (.inl z :: .inl x :: st) h uc us :=
  fun P hc => (show mr_ishr b o rt mc ms P from hc.1 10) pc lv st h uc us x z e0 (k0 P hc)
theorem mj_iushr {x z : Int32} (e0 : decode b pc = .ok (.iushr, 1)) (k0 : mj_W (mj_lv d) b o rt mc ms post (pc + 1) lv (.inl ((x.toUInt32 >>> (z.toUInt32 &&& Int32.toUInt32 31)).toInt32) :: st) h uc us) : mj_W (mj_lv d) b o rt mc ms post pc lv (.inl z :: .inl x :: st) h uc us :=
  fun P hc => (show mr_iushr b o rt mc ms P from hc.1 11) pc lv st h uc us x z e0 (k0 P hc)
theorem mj_idiv {x z : Int32} (e0 : decode b pc = .ok (.idiv, 1)) (e1 : ¬ z = 0) (k0 : mj_W (mj_lv d) b o rt mc ms post (pc + 1) lv (.inl (x / z) :: st) h uc us) : mj_W (mj_lv d) b o rt mc ms post pc lv (.inl z :: .inl x :: st) h uc us :=
  fun P hc => (show mr_idiv b o rt mc ms P from hc.1 12) pc lv st h uc us x z e0 e1 (k0 P hc)
theorem mj_irem {x z : Int32} (e0 : decode b pc = .ok (.irem, 1)) (e1 : ¬ z = 0) (k0 : mj_W (mj_lv d) b o rt mc ms post (pc + 1) lv (.inl (x - x / z * z) :: st) h uc us) : mj_W (mj_lv d) b o rt mc ms post pc lv (.inl z :: .inl x :: st) h uc us :=
  fun P hc => (show mr_irem b o rt mc ms P from hc.1 13) pc lv st h uc us x z e0 e1 (k0 P hc)
theorem mj_ineg {x : Int32} (e0 : decode b pc = .ok (.ineg, 1)) (k0 : mj_W (mj_lv d) b o rt mc ms post (pc + 1) lv (.inl (-x) :: st) h uc us) : mj_W (mj_lv d) b o rt mc ms post pc lv (.inl x :: st) h uc us :=
  fun P hc => (show mr_ineg b o rt mc ms P from hc.1 14) pc lv st h uc us x e0 (k0 P hc)
theorem mj_dup {v : mj_V} (e0 : decode b pc = .ok (.dup, 1)) (e1 : mj_ca v = 1) (k0 : mj_W (mj_lv d) b o rt mc ms post (pc + 1) lv (v :: v :: st) h uc us) : mj_W (mj_lv d) b o rt mc ms post pc lv (v :: st) h uc us :=
  fun P hc => (show mr_dup b o rt mc ms P from hc.1 15) pc lv st h uc us v e0 e1 (k0 P hc)
theorem mj_pop {v : mj_V} (e0 : decode b pc = .ok (.pop, 1)) (e1 : mj_ca v = 1) (k0 : mj_W (mj_lv d) b o rt mc ms post (pc + 1) lv (st) h uc us) : mj_W (mj_lv d) b o rt mc ms post pc lv (v :: st) h uc us :=
  fun P hc => (show mr_pop b o rt mc ms P from hc.1 16) pc lv st h uc us v e0 e1 (k0 P hc)
theorem mj_dup2 {v w : mj_V} (e0 : decode b pc = .ok (.dup2, 1)) (e1 : mj_ca v = 1) (e2 : mj_ca w = 1) (k0 : mj_W (mj_lv d) b o rt mc ms post (pc + 1) lv (v :: w :: v :: w :: st) h uc us) : mj_W (mj_lv d) b o rt mc ms post pc lv (v :: w :: st) h uc us :=
  fun P hc => (show mr_dup2 b o rt mc ms P from hc.1 17) pc lv st h uc us v w e0 e1 e2 (k0 P hc)
theorem mj_dup_x1 {v w : mj_V} (e0 : decode b pc = .ok (.dup_x1, 1)) (e1 : mj_ca v = 1) (e2 : mj_ca w = 1) (k0 : mj_W (mj_lv d) b o rt mc ms post (pc + 1) lv (v :: w :: v :: st) h uc us) : mj_W (mj_lv d) b o rt mc ms post pc lv (v :: w :: st) h uc us :=
  fun P hc => (show mr_dup_x1 b o rt mc ms P from hc.1 18) pc lv st h uc us v w e0 e1 e2 (k0 P hc)
theorem mj_lconst {f : Fin 2} {v : Int64} (e0 : decode b pc = .ok (.lconst f, 1)) (e1 : Int64.ofNat (f : Nat) = v) (k0 : mj_W (mj_lv d) b o rt mc ms post (pc + 1) lv (.inr (.inr v) :: st) h uc us) : mj_W (mj_lv d) b o rt mc ms post pc lv (st) h uc us :=
  fun P hc => (show mr_lconst b o rt mc ms P from hc.1 19) pc lv st h uc us f v e0 e1 (k0 P hc)
theorem mj_lmul {x z : Int64} (e0 : decode b pc = .ok (.lmul, 1)) (k0 : mj_W (mj_lv d) b o rt mc ms post (pc + 1) lv (.inr (.inr (x * z)) :: st) h uc us) : mj_W (mj_lv d) b o rt mc ms post pc lv (.inr (.inr z) :: .inr (.inr x) :: st) h uc us :=
  fun P hc => (show mr_lmul b o rt mc ms P from hc.1 20) pc lv st h uc us x z e0 (k0 P hc)
theorem mj_lcmp {x z : Int64} (e0 : decode b pc = .ok (.lcmp, 1)) (k0 : mj_W (mj_lv d) b o rt mc ms post (pc + 1) lv (.inl (lg_cmp x z) :: st) h uc us) : mj_W (mj_lv d) b o rt mc ms post pc lv (.inr (.inr z) :: .inr (.inr x) :: st) h uc us :=
  fun P hc => (show mr_lcmp b o rt mc ms P from hc.1 21) pc lv st h uc us x z e0 (k0 P hc)
theorem mj_i2l {x : Int32} (e0 : decode b pc = .ok (.i2l, 1)) (k0 : mj_W (mj_lv d) b o rt mc ms post (pc + 1) lv (.inr (.inr x.toInt64) :: st) h uc us) : mj_W (mj_lv d) b o rt mc ms post pc lv (.inl x :: st) h uc us :=
  fun P hc => (show mr_i2l b o rt mc ms P from hc.1 22) pc lv st h uc us x e0 (k0 P hc)
theorem mj_icmp_eq {x z : Int32} {off : Int} {tgt : Nat} (e0 : decode b pc = .ok (.if_icmp .eq off, 3)) (e1 : (pc : Int) + off = (tgt : Int)) (k0 : (x = z → mj_W (mj_lv d) b o rt mc ms post tgt lv st h uc us)) (k1 : (¬ x = z → mj_W (mj_lv d) b o rt mc ms post (pc + 3) lv st h uc us)) : mj_W (mj_lv d) b o rt mc ms post pc lv (.inl z :: .inl x :: st) h uc us :=
  fun P hc => (show mr_icmp_eq b o rt mc ms P from hc.1 23) pc lv st h uc us x z off tgt e0 e1 (fun g => k0 g P hc) (fun g => k1 g P hc)
theorem mj_icmp_ne {x z : Int32} {off : Int} {tgt : Nat} (e0 : decode b pc = .ok (.if_icmp .ne off, 3)) (e1 : (pc : Int) + off = (tgt : Int)) (k0 : (¬ x = z → mj_W (mj_lv d) b o rt mc ms post tgt lv st h uc us)) (k1 : (x = z → mj_W (mj_lv d) b o rt mc ms post (pc + 3) lv st h uc us)) : mj_W (mj_lv d) b o rt mc ms post pc lv (.inl z :: .inl x :: st) h uc us :=
  fun P hc => (show mr_icmp_ne b o rt mc ms P from hc.1 24) pc lv st h uc us x z off tgt e0 e1 (fun g => k0 g P hc) (fun g => k1 g P hc)
theorem mj_icmp_lt {x z : Int32} {off : Int} {tgt : Nat} (e0 : decode b pc = .ok (.if_icmp .lt off, 3)) (e1 : (pc : Int) + off = (tgt : Int)) (k0 : (x < z → mj_W (mj_lv d) b o rt mc ms post tgt lv st h uc us)) (k1 : (¬ x < z → mj_W (mj_lv d) b o rt mc ms post (pc + 3) lv st h uc us)) : mj_W (mj_lv d) b o rt mc ms post pc lv (.inl z :: .inl x :: st) h uc us :=
  fun P hc => (show mr_icmp_lt b o rt mc ms P from hc.1 25) pc lv st h uc us x z off tgt e0 e1 (fun g => k0 g P hc) (fun g => k1 g P hc)
theorem mj_icmp_ge {x z : Int32} {off : Int} {tgt : Nat} (e0 : decode b pc = .ok (.if_icmp .ge off, 3)) (e1 : (pc : Int) + off = (tgt : Int)) (k0 : (z ≤ x → mj_W (mj_lv d) b o rt mc ms post tgt lv st h uc us)) (k1 : (¬ z ≤ x → mj_W (mj_lv d) b o rt mc ms post (pc + 3) lv st h uc us)) : mj_W (mj_lv d) b o rt mc ms post pc lv (.inl z :: .inl x :: st) h uc us :=
  fun P hc => (show mr_icmp_ge b o rt mc ms P from hc.1 26) pc lv st h uc us x z off tgt e0 e1 (fun g => k0 g P hc) (fun g => k1 g P hc)
theorem mj_icmp_gt {x z : Int32} {off : Int} {tgt : Nat} (e0 : decode b pc = .ok (.if_icmp .gt off, 3)) (e1 : (pc : Int) + off = (tgt : Int)) (k0 : (z < x → mj_W (mj_lv d) b o rt mc ms post tgt lv st h uc us)) (k1 : (¬ z < x → mj_W (mj_lv d) b o rt mc ms post (pc + 3) lv st h uc us)) : mj_W (mj_lv d) b o rt mc ms post pc lv (.inl z :: .inl x :: st) h uc us :=
  fun P hc => (show mr_icmp_gt b o rt mc ms P from hc.1 27) pc lv st h uc us x z off tgt e0 e1 (fun g => k0 g P hc) (fun g => k1 g P hc)
theorem mj_icmp_le {x z : Int32} {off : Int} {tgt : Nat} (e0 : decode b pc = .ok (.if_icmp .le off, 3)) (e1 : (pc : Int) + off = (tgt : Int)) (k0 : (x ≤ z → mj_W (mj_lv d) b o rt mc ms post tgt lv st h uc us)) (k1 : (¬ x ≤ z → mj_W (mj_lv d) b o rt mc ms post (pc + 3) lv st h uc us)) : mj_W (mj_lv d) b o rt mc ms post pc lv (.inl z :: .inl x :: st) h uc us :=
  fun P hc => (show mr_icmp_le b o rt mc ms P from hc.1 28) pc lv st h uc us x z off tgt e0 e1 (fun g => k0 g P hc) (fun g => k1 g P hc)
theorem mj_if_eq {x : Int32} {off : Int} {tgt : Nat} (e0 : decode b pc = .ok (.ifCond .eq off, 3)) (e1 : (pc : Int) + off = (tgt : Int)) (k0 : (x = 0 → mj_W (mj_lv d) b o rt mc ms post tgt lv st h uc us)) (k1 : (¬ x = 0 → mj_W (mj_lv d) b o rt mc ms post (pc + 3) lv st h uc us)) : mj_W (mj_lv d) b o rt mc ms post pc lv (.inl x :: st) h uc us :=
  fun P hc => (show mr_if_eq b o rt mc ms P from hc.1 29) pc lv st h uc us x off tgt e0 e1 (fun g => k0 g P hc) (fun g => k1 g P hc)
theorem mj_if_ne {x : Int32} {off : Int} {tgt : Nat} (e0 : decode b pc = .ok (.ifCond .ne off, 3)) (e1 : (pc : Int) + off = (tgt : Int)) (k0 : (¬ x = 0 → mj_W (mj_lv d) b o rt mc ms post tgt lv st h uc us)) (k1 : (x = 0 → mj_W (mj_lv d) b o rt mc ms post (pc + 3) lv st h uc us)) : mj_W (mj_lv d) b o rt mc ms post pc lv (.inl x :: st) h uc us :=
  fun P hc => (show mr_if_ne b o rt mc ms P from hc.1 30) pc lv st h uc us x off tgt e0 e1 (fun g => k0 g P hc) (fun g => k1 g P hc)
theorem mj_if_lt {x : Int32} {off : Int} {tgt : Nat} (e0 : decode b pc = .ok (.ifCond .lt off, 3)) (e1 : (pc : Int) + off = (tgt : Int)) (k0 : (x < 0 → mj_W (mj_lv d) b o rt mc ms post tgt lv st h uc us)) (k1 : (¬ x < 0 → mj_W (mj_lv d) b o rt mc ms post (pc + 3) lv st h uc us)) : mj_W (mj_lv d) b o rt mc ms post pc lv (.inl x :: st) h uc us :=
  fun P hc => (show mr_if_lt b o rt mc ms P from hc.1 31) pc lv st h uc us x off tgt e0 e1 (fun g => k0 g P hc) (fun g => k1 g P hc)
theorem mj_if_ge {x : Int32} {off : Int} {tgt : Nat} (e0 : decode b pc = .ok (.ifCond .ge off, 3)) (e1 : (pc : Int) + off = (tgt : Int)) (k0 : (0 ≤ x → mj_W (mj_lv d) b o rt mc ms post tgt lv st h uc us)) (k1 : (¬ 0 ≤ x → mj_W (mj_lv d) b o rt mc ms post (pc + 3) lv st h uc us)) : mj_W (mj_lv d) b o rt mc ms post pc lv (.inl x :: st) h uc us :=
  fun P hc => (show mr_if_ge b o rt mc ms P from hc.1 32) pc lv st h uc us x off tgt e0 e1 (fun g => k0 g P hc) (fun g => k1 g P hc)
theorem mj_if_gt {x : Int32} {off : Int} {tgt : Nat} (e0 : decode b pc = .ok (.ifCond .gt off, 3)) (e1 : (pc : Int) + off = (tgt : Int)) (k0 : (0 < x → mj_W (mj_lv d) b o rt mc ms post tgt lv st h uc us)) (k1 : (¬ 0 < x → mj_W (mj_lv d) b o rt mc ms post (pc + 3) lv st h uc us)) : mj_W (mj_lv d) b o rt mc ms post pc lv (.inl x :: st) h uc us :=
  fun P hc => (show mr_if_gt b o rt mc ms P from hc.1 33) pc lv st h uc us x off tgt e0 e1 (fun g => k0 g P hc) (fun g => k1 g P hc)
theorem mj_if_le {x : Int32} {off : Int} {tgt : Nat} (e0 : decode b pc = .ok (.ifCond .le off, 3)) (e1 : (pc : Int) + off = (tgt : Int)) (k0 : (x ≤ 0 → mj_W (mj_lv d) b o rt mc ms post tgt lv st h uc us)) (k1 : (¬ x ≤ 0 → mj_W (mj_lv d) b o rt mc ms post (pc + 3) lv st h uc us)) : mj_W (mj_lv d) b o rt mc ms post pc lv (.inl x :: st) h uc us :=
  fun P hc => (show mr_if_le b o rt mc ms P from hc.1 34) pc lv st h uc us x off tgt e0 e1 (fun g => k0 g P hc) (fun g => k1 g P hc)
theorem mj_goto {off : Int} {tgt : Nat} (e0 : decode b pc = .ok (.goto off, 3)) (e1 : (pc : Int) + off = (tgt : Int)) (k0 : mj_W (mj_lv d) b o rt mc ms post tgt lv st h uc us) : mj_W (mj_lv d) b o rt mc ms post pc lv (st) h uc us :=
  fun P hc => (show mr_goto b o rt mc ms P from hc.1 35) pc lv st h uc us off tgt e0 e1 (k0 P hc)
theorem mj_iload {i : Nat} {x : Int32} (e0 : decode b pc = .ok (.iload i, 2)) (e1 : lv[i]? = some (some (.inl x))) (k0 : mj_W (mj_lv d) b o rt mc ms post (pc + 2) lv (.inl x :: st) h uc us) : mj_W (mj_lv d) b o rt mc ms post pc lv (st) h uc us :=
  fun P hc => (show mr_iload b o rt mc ms P from hc.1 36) pc lv st h uc us i x e0 e1 (k0 P hc)
theorem mj_iload_n {f : Fin 4} {i : Nat} {x : Int32} (e0 : decode b pc = .ok (.iload_n f, 1)) (e1 : (f : Nat) = i) (e2 : lv[i]? = some (some (.inl x))) (k0 : mj_W (mj_lv d) b o rt mc ms post (pc + 1) lv (.inl x :: st) h uc us) : mj_W (mj_lv d) b o rt mc ms post pc lv (st) h uc us :=
  fun P hc => (show mr_iload_n b o rt mc ms P from hc.1 37) pc lv st h uc us f i x e0 e1 e2 (k0 P hc)
theorem mj_aload {i : Nat} {x : Nat} (e0 : decode b pc = .ok (.aload i, 2)) (e1 : lv[i]? = some (some (.inr (.inl (some x))))) (k0 : mj_W (mj_lv d) b o rt mc ms post (pc + 2) lv (.inr (.inl (some x)) :: st) h uc us) : mj_W (mj_lv d) b o rt mc ms post pc lv (st) h uc us :=
  fun P hc => (show mr_aload b o rt mc ms P from hc.1 38) pc lv st h uc us i x e0 e1 (k0 P hc)
theorem mj_aload_n {f : Fin 4} {i : Nat} {x : Nat} (e0 : decode b pc = .ok (.aload_n f, 1)) (e1 : (f : Nat) = i) (e2 : lv[i]? = some (some (.inr (.inl (some x))))) (k0 : mj_W (mj_lv d) b o rt mc ms post (pc + 1) lv (.inr (.inl (some x)) :: st) h uc us) : mj_W (mj_lv d) b o rt mc ms post pc lv (st) h uc us :=
  fun P hc => (show mr_aload_n b o rt mc ms P from hc.1 39) pc lv st h uc us f i x e0 e1 e2 (k0 P hc)
theorem mj_istore {i : Nat} {x : Int32} (e0 : decode b pc = .ok (.istore i, 2)) (e1 : i < lv.length) (e2 : mj_ok lv i = true) (k0 : mj_W (mj_lv d) b o rt mc ms post (pc + 2) (lv.set i (some (.inl x))) st h uc us) : mj_W (mj_lv d) b o rt mc ms post pc lv (.inl x :: st) h uc us :=
  fun P hc => (show mr_istore b o rt mc ms P from hc.1 40) pc lv st h uc us i x e0 e1 e2 (k0 P hc)
theorem mj_istore_n {f : Fin 4} {i : Nat} {x : Int32} (e0 : decode b pc = .ok (.istore_n f, 1)) (e1 : (f : Nat) = i) (e2 : i < lv.length) (e3 : mj_ok lv i = true) (k0 : mj_W (mj_lv d) b o rt mc ms post (pc + 1) (lv.set i (some (.inl x))) st h uc us) : mj_W (mj_lv d) b o rt mc ms post pc lv (.inl x :: st) h uc us :=
  fun P hc => (show mr_istore_n b o rt mc ms P from hc.1 41) pc lv st h uc us f i x e0 e1 e2 e3 (k0 P hc)
theorem mj_astore {i : Nat} {x : Nat} (e0 : decode b pc = .ok (.astore i, 2)) (e1 : i < lv.length) (e2 : mj_ok lv i = true) (k0 : mj_W (mj_lv d) b o rt mc ms post (pc + 2) (lv.set i (some (.inr (.inl (some x))))) st h uc us) : mj_W (mj_lv d) b o rt mc ms post pc lv (.inr (.inl (some x)) :: st) h uc us :=
  fun P hc => (show mr_astore b o rt mc ms P from hc.1 42) pc lv st h uc us i x e0 e1 e2 (k0 P hc)
theorem mj_astore_n {f : Fin 4} {i : Nat} {x : Nat} (e0 : decode b pc = .ok (.astore_n f, 1)) (e1 : (f : Nat) = i) (e2 : i < lv.length) (e3 : mj_ok lv i = true) (k0 : mj_W (mj_lv d) b o rt mc ms post (pc + 1) (lv.set i (some (.inr (.inl (some x))))) st h uc us) : mj_W (mj_lv d) b o rt mc ms post pc lv (.inr (.inl (some x)) :: st) h uc us :=
  fun P hc => (show mr_astore_n b o rt mc ms P from hc.1 43) pc lv st h uc us f i x e0 e1 e2 e3 (k0 P hc)
theorem mj_iinc {i : Nat} {k : Int} {x v : Int32} (e0 : decode b pc = .ok (.iinc i k, 3)) (e1 : lv[i]? = some (some (.inl x))) (e2 : x + Int32.ofInt k = v) (e3 : mj_ok lv i = true) (k0 : mj_W (mj_lv d) b o rt mc ms post (pc + 3) (lv.set i (some (.inl v))) st h uc us) : mj_W (mj_lv d) b o rt mc ms post pc lv (st) h uc us :=
  fun P hc => (show mr_iinc b o rt mc ms P from hc.1 44) pc lv st h uc us i k x v e0 e1 e2 e3 (k0 P hc)
theorem mj_lload_n {f : Fin 4} {i : Nat} {x : Int64} (e0 : decode b pc = .ok (.lload_n f, 1)) (e1 : (f : Nat) = i) (e2 : lv[i]? = some (some (.inr (.inr x)))) (k0 : mj_W (mj_lv d) b o rt mc ms post (pc + 1) lv (.inr (.inr x) :: st) h uc us) : mj_W (mj_lv d) b o rt mc ms post pc lv (st) h uc us :=
  fun P hc => (show mr_lload_n b o rt mc ms P from hc.1 45) pc lv st h uc us f i x e0 e1 e2 (k0 P hc)
theorem mj_lstore_n {f : Fin 4} {i : Nat} {x : Int64} (e0 : decode b pc = .ok (.lstore_n f, 1)) (e1 : (f : Nat) = i) (e2 : i + 1 < lv.length) (e3 : mj_ok lv i = true) (k0 : mj_W (mj_lv d) b o rt mc ms post (pc + 1) ((lv.set i (some (.inr (.inr x)))).set (i + 1) none) st h uc us) : mj_W (mj_lv d) b o rt mc ms post pc lv (.inr (.inr x) :: st) h uc us :=
  fun P hc => (show mr_lstore_n b o rt mc ms P from hc.1 46) pc lv st h uc us f i x e0 e1 e2 e3 (k0 P hc)
theorem mj_ldc2 {i : Nat} {v : Int64} (e0 : decode b pc = .ok (.ldc2_w i, 3)) (e1 : pg_ldl o i = some v) (k0 : mj_W (mj_lv d) b o rt mc ms post (pc + 3) lv (.inr (.inr v) :: st) h uc us) : mj_W (mj_lv d) b o rt mc ms post pc lv (st) h uc us :=
  fun P hc => (show mr_ldc2 b o rt mc ms P from hc.1 47) pc lv st h uc us i v e0 e1 (k0 P hc)
theorem mj_ldc {i : Nat} {v : Int32} (e0 : decode b pc = .ok (.ldc i, 2)) (e1 : pg_ldc o i = some v) (k0 : mj_W (mj_lv d) b o rt mc ms post (pc + 2) lv (.inl v :: st) h uc us) : mj_W (mj_lv d) b o rt mc ms post pc lv (st) h uc us :=
  fun P hc => (show mr_ldc b o rt mc ms P from hc.1 48) pc lv st h uc us i v e0 e1 (k0 P hc)
theorem mj_getI {i ci k c : Nat} (e0 : decode b pc = .ok (.getfield i, 3)) (e1 : pg_fld o i = some (ci, k)) (e2 : pg_fr ci k = false) (e3 : (c < h.1 ∧ h.2.1 c = (0, ci))) (k0 : mj_W (mj_lv d) b o rt mc ms post (pc + 3) lv (.inl (h.2.2.1 c k) :: st) h uc us) : mj_W (mj_lv d) b o rt mc ms post pc lv (.inr (.inl (some c)) :: st) h uc us :=
  fun P hc => (show mr_getI b o rt mc ms P from hc.1 49) pc lv st h uc us i ci k c e0 e1 e2 e3 (k0 P hc)
theorem mj_getR {i ci k c : Nat} {r : Option Nat} (e0 : decode b pc = .ok (.getfield i, 3)) (e1 : pg_fld o i = some (ci, k)) (e2 : pg_fr ci k = true) (e3 : (c < h.1 ∧ h.2.1 c = (0, ci))) (e4 : h.2.2.2 c k = r) (k0 : mj_W (mj_lv d) b o rt mc ms post (pc + 3) lv (.inr (.inl r) :: st) h uc us) : mj_W (mj_lv d) b o rt mc ms post pc lv (.inr (.inl (some c)) :: st) h uc us :=
  fun P hc => (show mr_getR b o rt mc ms P from hc.1 50) pc lv st h uc us i ci k c r e0 e1 e2 e3 e4 (k0 P hc)
theorem mj_putI {i ci k c : Nat} {x : Int32} (e0 : decode b pc = .ok (.putfield i, 3)) (e1 : pg_fld o i = some (ci, k)) (e2 : pg_fr ci k = false) (e3 : pg_fin ci k = false) (e4 : (narrow (pg_ty ci k) (.int x) = .int x ∧ fits (pg_ty ci k) (.int x) = true)) (e5 : (c < h.1 ∧ h.2.1 c = (0, ci))) (k0 : mj_W (mj_lv d) b o rt mc ms post (pc + 3) lv st (h.1, h.2.1, mj_u2 h.2.2.1 c k x, h.2.2.2) uc us) : mj_W (mj_lv d) b o rt mc ms post pc lv (.inl x :: .inr (.inl (some c)) :: st) h uc us :=
  fun P hc => (show mr_putI b o rt mc ms P from hc.1 51) pc lv st h uc us i ci k c x e0 e1 e2 e3 e4 e5 (k0 P hc)
theorem mj_putF {i ci k c x : Nat} (e0 : rt = 9) (e1 : decode b pc = .ok (.putfield i, 3)) (e2 : pg_fld o i = some (ci, k)) (e3 : pg_fr ci k = true) (e4 : pg_fin ci k = true) (e5 : o = ci) (e6 : (c < h.1 ∧ h.2.1 c = (0, ci))) (k0 : mj_W (mj_lv d) b o rt mc ms post (pc + 3) lv st (h.1, h.2.1, h.2.2.1, mj_u2 h.2.2.2 c k (some x)) uc us) : mj_W (mj_lv d) b o rt mc ms post pc lv (.inr (.inl (some x)) :: .inr (.inl (some c)) :: st) h uc us :=
  fun P hc => (show mr_putF b o rt mc ms P from hc.1 52) pc lv st h uc us i ci k c x e0 e1 e2 e3 e4 e5 e6 (k0 P hc)
theorem mj_iald {c n : Nat} {i : Int32} (e0 : decode b pc = .ok (.iaload, 1)) (e1 : (c < h.1 ∧ h.2.1 c = (1, n))) (e2 : vp_in i n) (k0 : mj_W (mj_lv d) b o rt mc ms post (pc + 1) lv (.inl (h.2.2.1 c i.toNatClampNeg) :: st) h uc us) : mj_W (mj_lv d) b o rt mc ms post pc lv (.inl i :: .inr (.inl (some c)) :: st) h uc us :=
  fun P hc => (show mr_iald b o rt mc ms P from hc.1 53) pc lv st h uc us c n i e0 e1 e2 (k0 P hc)
theorem mj_zald {c n : Nat} {i : Int32} (e0 : decode b pc = .ok (.baload, 1)) (e1 : (c < h.1 ∧ h.2.1 c = (2, n))) (e2 : vp_in i n) (k0 : mj_W (mj_lv d) b o rt mc ms post (pc + 1) lv (.inl (h.2.2.1 c i.toNatClampNeg) :: st) h uc us) : mj_W (mj_lv d) b o rt mc ms post pc lv (.inl i :: .inr (.inl (some c)) :: st) h uc us :=
  fun P hc => (show mr_zald b o rt mc ms P from hc.1 54) pc lv st h uc us c n i e0 e1 e2 (k0 P hc)
theorem mj_iast {c n : Nat} {i x : Int32} (e0 : decode b pc = .ok (.iastore, 1)) (e1 : (c < h.1 ∧ h.2.1 c = (1, n))) (e2 : vp_in i n) (k0 : mj_W (mj_lv d) b o rt mc ms post (pc + 1) lv st (h.1, h.2.1, mj_u2 h.2.2.1 c i.toNatClampNeg x, h.2.2.2) uc us) : mj_W (mj_lv d) b o rt mc ms post pc lv (.inl x :: .inl i :: .inr (.inl (some c)) :: st) h uc us :=
  fun P hc => (show mr_iast b o rt mc ms P from hc.1 55) pc lv st h uc us c n i x e0 e1 e2 (k0 P hc)
theorem mj_zast {c n : Nat} {i x : Int32} (e0 : decode b pc = .ok (.bastore, 1)) (e1 : (c < h.1 ∧ h.2.1 c = (2, n))) (e2 : vp_in i n) (e3 : narrow .boolean (.int x) = .int x) (k0 : mj_W (mj_lv d) b o rt mc ms post (pc + 1) lv st (h.1, h.2.1, mj_u2 h.2.2.1 c i.toNatClampNeg x, h.2.2.2) uc us) : mj_W (mj_lv d) b o rt mc ms post pc lv (.inl x :: .inl i :: .inr (.inl (some c)) :: st) h uc us :=
  fun P hc => (show mr_zast b o rt mc ms P from hc.1 56) pc lv st h uc us c n i x e0 e1 e2 e3 (k0 P hc)
theorem mj_aald {c n : Nat} {i : Int32} {r : Option Nat} (e0 : decode b pc = .ok (.aaload, 1)) (e1 : (c < h.1 ∧ h.2.1 c = (3, n))) (e2 : vp_in i n) (e3 : h.2.2.2 c i.toNatClampNeg = r) (k0 : mj_W (mj_lv d) b o rt mc ms post (pc + 1) lv (.inr (.inl r) :: st) h uc us) : mj_W (mj_lv d) b o rt mc ms post pc lv (.inl i :: .inr (.inl (some c)) :: st) h uc us :=
  fun P hc => (show mr_aald b o rt mc ms P from hc.1 57) pc lv st h uc us c n i r e0 e1 e2 e3 (k0 P hc)
theorem mj_alen {c t n : Nat} (e0 : decode b pc = .ok (.arraylength, 1)) (e1 : (c < h.1 ∧ h.2.1 c = (t, n))) (e2 : (0 < t ∧ t < 4)) (k0 : mj_W (mj_lv d) b o rt mc ms post (pc + 1) lv (.inl (Int32.ofNat n) :: st) h uc us) : mj_W (mj_lv d) b o rt mc ms post pc lv (.inr (.inl (some c)) :: st) h uc us :=
  fun P hc => (show mr_alen b o rt mc ms P from hc.1 58) pc lv st h uc us c t n e0 e1 e2 (k0 P hc)
theorem mj_new {i ci : Nat} (e0 : decode b pc = .ok (.new i, 3)) (e1 : pg_new o i = some ci) (e2 : uc + 1 ≤ mc) (e3 : us + pg_nf ci ≤ ms) (k0 : mj_W (mj_lv d) b o rt mc ms post (pc + 3) lv (.inr (.inl (some h.1)) :: st) (h.1 + 1, va_up h.2.1 h.1 (0, ci), va_up h.2.2.1 h.1 (fun _ => 0), va_up h.2.2.2 h.1 (fun _ => none)) (uc + 1) (us + pg_nf ci)) : mj_W (mj_lv d) b o rt mc ms post pc lv (st) h uc us :=
  fun P hc => (show mr_new b o rt mc ms P from hc.1 59) pc lv st h uc us i ci e0 e1 e2 e3 (k0 P hc)
theorem mj_newi {x : Int32} {n : Nat} (e0 : decode b pc = .ok (.newarray .int, 2)) (e1 : ¬ x < 0) (e2 : x.toNatClampNeg = n) (e3 : n ≤ 100000) (e4 : uc + 1 ≤ mc) (e5 : us + n ≤ ms) (k0 : mj_W (mj_lv d) b o rt mc ms post (pc + 2) lv (.inr (.inl (some h.1)) :: st) (h.1 + 1, va_up h.2.1 h.1 (1, n), va_up h.2.2.1 h.1 (fun _ => 0), va_up h.2.2.2 h.1 (fun _ => none)) (uc + 1) (us + n)) : mj_W (mj_lv d) b o rt mc ms post pc lv (.inl x :: st) h uc us :=
  fun P hc => (show mr_newi b o rt mc ms P from hc.1 60) pc lv st h uc us x n e0 e1 e2 e3 e4 e5 (k0 P hc)
theorem mj_newz {x : Int32} {n : Nat} (e0 : decode b pc = .ok (.newarray .boolean, 2)) (e1 : ¬ x < 0) (e2 : x.toNatClampNeg = n) (e3 : n ≤ 100000) (e4 : uc + 1 ≤ mc) (e5 : us + n ≤ ms) (k0 : mj_W (mj_lv d) b o rt mc ms post (pc + 2) lv (.inr (.inl (some h.1)) :: st) (h.1 + 1, va_up h.2.1 h.1 (2, n), va_up h.2.2.1 h.1 (fun _ => 0), va_up h.2.2.2 h.1 (fun _ => none)) (uc + 1) (us + n)) : mj_W (mj_lv d) b o rt mc ms post pc lv (.inl x :: st) h uc us :=
  fun P hc => (show mr_newz b o rt mc ms P from hc.1 61) pc lv st h uc us x n e0 e1 e2 e3 e4 e5 (k0 P hc)
theorem mj_newm {i : Nat} {x z : Int32} {n k : Nat} (e0 : decode b pc = .ok (.multianewarray i 2, 4)) (e1 : pg_gr o i = some 1) (e2 : ¬ x < 0) (e3 : ¬ z < 0) (e4 : x.toNatClampNeg = n) (e5 : z.toNatClampNeg = k) (e6 : n ≤ 100000) (e7 : k ≤ 100000) (e8 : uc + (1 + n) ≤ mc) (e9 : us + (n + n * k) ≤ ms) (k0 : mj_W (mj_lv d) b o rt mc ms post (pc + 4) lv (.inr (.inl (some h.1)) :: st) (h.1 + 1 + n, (fun c => if c = h.1 then (3, n) else if h.1 < c ∧ c ≤ h.1 + n then (1, k) else h.2.1 c), (fun c => if h.1 ≤ c ∧ c ≤ h.1 + n then (fun _ => 0) else h.2.2.1 c), (fun c => if c = h.1 then (fun j => if j < n then some (h.1 + 1 + j) else none) else h.2.2.2 c)) (uc + 1 + n) (us + n + n * k)) : mj_W (mj_lv d) b o rt mc ms post pc lv (.inl z :: .inl x :: st) h uc us :=
  fun P hc => (show mr_newm b o rt mc ms P from hc.1 62) pc lv st h uc us i x z n k e0 e1 e2 e3 e4 e5 e6 e7 e8 e9 (k0 P hc)
theorem mj_objI {i c : Nat} (e0 : decode b pc = .ok (.invokespecial i, 3)) (e1 : pg_sp o i = some 1) (e2 : Nat.ble (mj_ct st) 8 = true) (k0 : mj_W (mj_lv d) b o rt mc ms post (pc + 3) lv st h uc us) : mj_W (mj_lv d) b o rt mc ms post pc lv (.inr (.inl (some c)) :: st) h uc us :=
  fun P hc => (show mr_objI b o rt mc ms P from hc.1 63) pc lv st h uc us i c e0 e1 e2 (k0 P hc)
theorem mj_max {i : Nat} {x z : Int32} (e0 : decode b pc = .ok (.invokestatic i, 3)) (e1 : pg_sp o i = some 2) (e2 : Nat.ble (mj_ct st) 8 = true) (k0 : mj_W (mj_lv d) b o rt mc ms post (pc + 3) lv (.inl (if x < z then z else x) :: st) h uc us) : mj_W (mj_lv d) b o rt mc ms post pc lv (.inl z :: .inl x :: st) h uc us :=
  fun P hc => (show mr_max b o rt mc ms P from hc.1 64) pc lv st h uc us i x z e0 e1 e2 (k0 P hc)
theorem mj_min {i : Nat} {x z : Int32} (e0 : decode b pc = .ok (.invokestatic i, 3)) (e1 : pg_sp o i = some 3) (e2 : Nat.ble (mj_ct st) 8 = true) (k0 : mj_W (mj_lv d) b o rt mc ms post (pc + 3) lv (.inl (if z < x then z else x) :: st) h uc us) : mj_W (mj_lv d) b o rt mc ms post pc lv (.inl z :: .inl x :: st) h uc us :=
  fun P hc => (show mr_min b o rt mc ms P from hc.1 65) pc lv st h uc us i x z e0 e1 e2 (k0 P hc)
theorem mj_copy {i a0 a1 n0 n1 : Nat} {sp dp n : Int32} (e0 : decode b pc = .ok (.invokestatic i, 3)) (e1 : pg_sp o i = some 4) (e2 : (a0 < h.1 ∧ h.2.1 a0 = (1, n0))) (e3 : (a1 < h.1 ∧ h.2.1 a1 = (1, n1))) (e4 : ¬ sp < 0) (e5 : ¬ dp < 0) (e6 : ¬ n < 0) (e7 : sp.toNatClampNeg + n.toNatClampNeg ≤ n0) (e8 : dp.toNatClampNeg + n.toNatClampNeg ≤ n1) (e9 : Nat.ble (mj_ct st) 8 = true) (k0 : mj_W (mj_lv d) b o rt mc ms post (pc + 3) lv st (h.1, h.2.1, va_up h.2.2.1 a1 (va_cpy (h.2.2.1 a0) (h.2.2.1 a1) sp.toNatClampNeg dp.toNatClampNeg n.toNatClampNeg), h.2.2.2) uc us) : mj_W (mj_lv d) b o rt mc ms post pc lv (.inl n :: .inl dp :: .inr (.inl (some a1)) :: .inl sp :: .inr (.inl (some a0)) :: st) h uc us :=
  fun P hc => (show mr_copy b o rt mc ms P from hc.1 66) pc lv st h uc us i a0 a1 n0 n1 sp dp n e0 e1 e2 e3 e4 e5 e6 e7 e8 e9 (k0 P hc)
theorem mj_reti {x : Int32} (e0 : decode b pc = .ok (.ireturn, 1)) (e1 : (rt = 1 ∨ (rt = 2 ∧ narrow .boolean (.int x) = .int x))) (e2 : post (some (.inl x)) h) : mj_W (mj_lv d) b o rt mc ms post pc lv ([.inl x]) h uc us :=
  fun P hc => hc.2.2.1 pc lv h uc us x e0 e1 e2
theorem mj_retv  (e0 : decode b pc = .ok (.return_, 1)) (e1 : (rt = 0 ∨ rt = 9)) (e2 : post none h) : mj_W (mj_lv d) b o rt mc ms post pc lv ([]) h uc us :=
  fun P hc => hc.2.2.2 pc lv h uc us  e0 e1 e2
theorem mj_callS {i z : Nat} (as : List mj_V) (e0 : decode b pc = .ok (.invokestatic i, 3)) (e1 : pg_mth o i = some z) (e2 : pg_kd z = 0) (e3 : as.length = pg_na z) (e4 : Nat.ble (mj_ct st) 8 = true) (e5 : uc + pg_mc z ≤ mc) (e6 : us + pg_ms z ≤ ms) (k : mj_lv d z as h (fun r h2 => mj_W (mj_lv d) b o rt mc ms post (pc + 3) lv (r.toList ++ st) h2 (uc + pg_mc z) (us + pg_ms z))) : mj_W (mj_lv d) b o rt mc ms post pc lv (as.reverse ++ st) h uc us :=
  fun P hc => hc.2.1.1 pc lv st h uc us i z as e0 e1 e2 e3 e4 e5 e6 (mj_lv_mono d z as h _ _ (fun _ _ hw => hw P hc) k)
theorem mj_callV {i z : Nat} (as : List mj_V) (e0 : decode b pc = .ok (.invokevirtual i, 3)) (e1 : pg_mth o i = some z) (e2 : pg_kd z = 1) (e3 : as.length = pg_na z) (e4 : Nat.ble (mj_ct st) 8 = true) (e5 : uc + pg_mc z ≤ mc) (e6 : us + pg_ms z ≤ ms) (e7 : (∃ c, as.head? = some (.inr (.inl (some c))) ∧ c < h.1 ∧ h.2.1 c = (0, pg_own z))) (k : mj_lv d z as h (fun r h2 => mj_W (mj_lv d) b o rt mc ms post (pc + 3) lv (r.toList ++ st) h2 (uc + pg_mc z) (us + pg_ms z))) : mj_W (mj_lv d) b o rt mc ms post pc lv (as.reverse ++ st) h uc us :=
  fun P hc => hc.2.1.2.1 pc lv st h uc us i z as e0 e1 e2 e3 e4 e5 e6 e7 (mj_lv_mono d z as h _ _ (fun _ _ hw => hw P hc) k)
theorem mj_callI {i z : Nat} (as : List mj_V) (e0 : decode b pc = .ok (.invokespecial i, 3)) (e1 : pg_mth o i = some z) (e2 : pg_kd z = 2) (e3 : as.length = pg_na z) (e4 : Nat.ble (mj_ct st) 8 = true) (e5 : uc + pg_mc z ≤ mc) (e6 : us + pg_ms z ≤ ms) (e7 : (∃ c, as.head? = some (.inr (.inl (some c))))) (k : mj_lv d z as h (fun r h2 => mj_W (mj_lv d) b o rt mc ms post (pc + 3) lv (r.toList ++ st) h2 (uc + pg_mc z) (us + pg_ms z))) : mj_W (mj_lv d) b o rt mc ms post pc lv (as.reverse ++ st) h uc us :=
  fun P hc => hc.2.1.2.2 pc lv st h uc us i z as e0 e1 e2 e3 e4 e5 e6 e7 (mj_lv_mono d z as h _ _ (fun _ _ hw => hw P hc) k)
end mj_rows
end
